theorem dX0_init_0 : decode cX0_init 0 = .ok (.aload_n 0, 1) := by decide +kernel
theorem dX0_init_1 : decode cX0_init 1 = .ok (.invokespecial 3, 3) := by decide +kernel
theorem dX0_init_4 : decode cX0_init 4 = .ok (.aload_n 0, 1) := by decide +kernel
theorem dX0_init_5 : decode cX0_init 5 = .ok (.bipush 125, 2) := by decide +kernel
theorem dX0_init_7 : decode cX0_init 7 = .ok (.anewarray 9, 3) := by decide +kernel
theorem dX0_init_10 : decode cX0_init 10 = .ok (.putfield 11, 3) := by decide +kernel
theorem dX0_init_13 : decode cX0_init 13 = .ok (.aload_n 0, 1) := by decide +kernel
theorem dX0_init_14 : decode cX0_init 14 = .ok (.bipush 125, 2) := by decide +kernel
theorem dX0_init_16 : decode cX0_init 16 = .ok (.newarray .int, 2) := by decide +kernel
theorem dX0_init_18 : decode cX0_init 18 = .ok (.putfield 17, 3) := by decide +kernel
theorem dX0_init_21 : decode cX0_init 21 = .ok (.aload_n 0, 1) := by decide +kernel
theorem dX0_init_22 : decode cX0_init 22 = .ok (.iconst 0, 1) := by decide +kernel
theorem dX0_init_23 : decode cX0_init 23 = .ok (.putfield 20, 3) := by decide +kernel
theorem dX0_init_26 : decode cX0_init 26 = .ok (.aload_n 0, 1) := by decide +kernel
theorem dX0_init_27 : decode cX0_init 27 = .ok (.iconst (-1), 1) := by decide +kernel
theorem dX0_init_28 : decode cX0_init 28 = .ok (.putfield 24, 3) := by decide +kernel
theorem dX0_init_31 : decode cX0_init 31 = .ok (.aload_n 0, 1) := by decide +kernel
theorem dX0_init_32 : decode cX0_init 32 = .ok (.iconst (-1), 1) := by decide +kernel
theorem dX0_init_33 : decode cX0_init 33 = .ok (.putfield 27, 3) := by decide +kernel
theorem dX0_init_36 : decode cX0_init 36 = .ok (.aload_n 0, 1) := by decide +kernel
theorem dX0_init_37 : decode cX0_init 37 = .ok (.iconst 0, 1) := by decide +kernel
theorem dX0_init_38 : decode cX0_init 38 = .ok (.putfield 30, 3) := by decide +kernel
theorem dX0_init_41 : decode cX0_init 41 = .ok (.aload_n 0, 1) := by decide +kernel
theorem dX0_init_42 : decode cX0_init 42 = .ok (.iconst 0, 1) := by decide +kernel
theorem dX0_init_43 : decode cX0_init 43 = .ok (.putfield 33, 3) := by decide +kernel
theorem dX0_init_46 : decode cX0_init 46 = .ok (.aload_n 0, 1) := by decide +kernel
theorem dX0_init_47 : decode cX0_init 47 = .ok (.iconst 0, 1) := by decide +kernel
theorem dX0_init_48 : decode cX0_init 48 = .ok (.putfield 37, 3) := by decide +kernel
theorem dX0_init_51 : decode cX0_init 51 = .ok (.aload_n 0, 1) := by decide +kernel
theorem dX0_init_52 : decode cX0_init 52 = .ok (.iconst 0, 1) := by decide +kernel
theorem dX0_init_53 : decode cX0_init 53 = .ok (.putfield 40, 3) := by decide +kernel
theorem dX0_init_56 : decode cX0_init 56 = .ok (.aload_n 0, 1) := by decide +kernel
theorem dX0_init_57 : decode cX0_init 57 = .ok (.iconst 3, 1) := by decide +kernel
theorem dX0_init_58 : decode cX0_init 58 = .ok (.newarray .int, 2) := by decide +kernel
theorem dX0_init_60 : decode cX0_init 60 = .ok (.putfield 43, 3) := by decide +kernel
theorem dX0_init_63 : decode cX0_init 63 = .ok (.aload_n 0, 1) := by decide +kernel
theorem dX0_init_64 : decode cX0_init 64 = .ok (.iconst 3, 1) := by decide +kernel
theorem dX0_init_65 : decode cX0_init 65 = .ok (.newarray .int, 2) := by decide +kernel
theorem dX0_init_67 : decode cX0_init 67 = .ok (.putfield 46, 3) := by decide +kernel
theorem dX0_init_70 : decode cX0_init 70 = .ok (.aload_n 0, 1) := by decide +kernel
theorem dX0_init_71 : decode cX0_init 71 = .ok (.bipush 42, 2) := by decide +kernel
theorem dX0_init_73 : decode cX0_init 73 = .ok (.newarray .int, 2) := by decide +kernel
theorem dX0_init_75 : decode cX0_init 75 = .ok (.putfield 49, 3) := by decide +kernel
theorem dX0_init_78 : decode cX0_init 78 = .ok (.aload_n 0, 1) := by decide +kernel
theorem dX0_init_79 : decode cX0_init 79 = .ok (.bipush 100, 2) := by decide +kernel
theorem dX0_init_81 : decode cX0_init 81 = .ok (.newarray .int, 2) := by decide +kernel
theorem dX0_init_83 : decode cX0_init 83 = .ok (.putfield 52, 3) := by decide +kernel
theorem dX0_init_86 : decode cX0_init 86 = .ok (.aload_n 0, 1) := by decide +kernel
theorem dX0_init_87 : decode cX0_init 87 = .ok (.iconst (-1), 1) := by decide +kernel
theorem dX0_init_88 : decode cX0_init 88 = .ok (.putfield 55, 3) := by decide +kernel
theorem dX0_init_91 : decode cX0_init 91 = .ok (.aload_n 0, 1) := by decide +kernel
theorem dX0_init_92 : decode cX0_init 92 = .ok (.iconst (-1), 1) := by decide +kernel
theorem dX0_init_93 : decode cX0_init 93 = .ok (.putfield 58, 3) := by decide +kernel
theorem dX0_init_96 : decode cX0_init 96 = .ok (.aload_n 0, 1) := by decide +kernel
theorem dX0_init_97 : decode cX0_init 97 = .ok (.ldc 61, 2) := by decide +kernel
theorem dX0_init_99 : decode cX0_init 99 = .ok (.putfield 62, 3) := by decide +kernel
theorem dX0_init_102 : decode cX0_init 102 = .ok (.aload_n 0, 1) := by decide +kernel
theorem dX0_init_103 : decode cX0_init 103 = .ok (.iconst (-1), 1) := by decide +kernel
theorem dX0_init_104 : decode cX0_init 104 = .ok (.putfield 65, 3) := by decide +kernel
theorem dX0_init_107 : decode cX0_init 107 = .ok (.aload_n 0, 1) := by decide +kernel
theorem dX0_init_108 : decode cX0_init 108 = .ok (.iconst (-1), 1) := by decide +kernel
theorem dX0_init_109 : decode cX0_init 109 = .ok (.putfield 68, 3) := by decide +kernel
theorem dX0_init_112 : decode cX0_init 112 = .ok (.return_, 1) := by decide +kernel
theorem dX0_prepare_0 : decode cX0_prepare 0 = .ok (.iload_n 2, 1) := by decide +kernel
theorem dX0_prepare_1 : decode cX0_prepare 1 = .ok (.aload_n 0, 1) := by decide +kernel
theorem dX0_prepare_2 : decode cX0_prepare 2 = .ok (.getfield 24, 3) := by decide +kernel
theorem dX0_prepare_5 : decode cX0_prepare 5 = .ok (.if_icmp .ne 15, 3) := by decide +kernel
theorem dX0_prepare_8 : decode cX0_prepare 8 = .ok (.aload_n 1, 1) := by decide +kernel
theorem dX0_prepare_9 : decode cX0_prepare 9 = .ok (.getfield 71, 3) := by decide +kernel
theorem dX0_prepare_12 : decode cX0_prepare 12 = .ok (.aload_n 0, 1) := by decide +kernel
theorem dX0_prepare_13 : decode cX0_prepare 13 = .ok (.getfield 27, 3) := by decide +kernel
theorem dX0_prepare_16 : decode cX0_prepare 16 = .ok (.if_icmp .ne 4, 3) := by decide +kernel
theorem dX0_prepare_19 : decode cX0_prepare 19 = .ok (.return_, 1) := by decide +kernel
theorem dX0_prepare_20 : decode cX0_prepare 20 = .ok (.aload_n 0, 1) := by decide +kernel
theorem dX0_prepare_21 : decode cX0_prepare 21 = .ok (.iload_n 2, 1) := by decide +kernel
theorem dX0_prepare_22 : decode cX0_prepare 22 = .ok (.putfield 24, 3) := by decide +kernel
theorem dX0_prepare_25 : decode cX0_prepare 25 = .ok (.aload_n 0, 1) := by decide +kernel
theorem dX0_prepare_26 : decode cX0_prepare 26 = .ok (.aload_n 1, 1) := by decide +kernel
theorem dX0_prepare_27 : decode cX0_prepare 27 = .ok (.getfield 71, 3) := by decide +kernel
theorem dX0_prepare_30 : decode cX0_prepare 30 = .ok (.putfield 27, 3) := by decide +kernel
theorem dX0_prepare_33 : decode cX0_prepare 33 = .ok (.aload_n 0, 1) := by decide +kernel
theorem dX0_prepare_34 : decode cX0_prepare 34 = .ok (.dup, 1) := by decide +kernel
theorem dX0_prepare_35 : decode cX0_prepare 35 = .ok (.getfield 20, 3) := by decide +kernel
theorem dX0_prepare_38 : decode cX0_prepare 38 = .ok (.iconst 1, 1) := by decide +kernel
theorem dX0_prepare_39 : decode cX0_prepare 39 = .ok (.iadd, 1) := by decide +kernel
theorem dX0_prepare_40 : decode cX0_prepare 40 = .ok (.putfield 20, 3) := by decide +kernel
theorem dX0_prepare_43 : decode cX0_prepare 43 = .ok (.aload_n 0, 1) := by decide +kernel
theorem dX0_prepare_44 : decode cX0_prepare 44 = .ok (.aload_n 1, 1) := by decide +kernel
theorem dX0_prepare_45 : decode cX0_prepare 45 = .ok (.getfield 76, 3) := by decide +kernel
theorem dX0_prepare_48 : decode cX0_prepare 48 = .ok (.putfield 30, 3) := by decide +kernel
theorem dX0_prepare_51 : decode cX0_prepare 51 = .ok (.aload_n 0, 1) := by decide +kernel
theorem dX0_prepare_52 : decode cX0_prepare 52 = .ok (.iload_n 2, 1) := by decide +kernel
theorem dX0_prepare_53 : decode cX0_prepare 53 = .ok (.iconst 1, 1) := by decide +kernel
theorem dX0_prepare_54 : decode cX0_prepare 54 = .ok (.if_icmp .eq 8, 3) := by decide +kernel
theorem dX0_prepare_57 : decode cX0_prepare 57 = .ok (.iload_n 2, 1) := by decide +kernel
theorem dX0_prepare_58 : decode cX0_prepare 58 = .ok (.iconst 3, 1) := by decide +kernel
theorem dX0_prepare_59 : decode cX0_prepare 59 = .ok (.if_icmp .ne 7, 3) := by decide +kernel
theorem dX0_prepare_62 : decode cX0_prepare 62 = .ok (.iconst 1, 1) := by decide +kernel
theorem dX0_prepare_63 : decode cX0_prepare 63 = .ok (.goto 4, 3) := by decide +kernel
theorem dX0_prepare_66 : decode cX0_prepare 66 = .ok (.iconst 0, 1) := by decide +kernel
theorem dX0_prepare_67 : decode cX0_prepare 67 = .ok (.putfield 33, 3) := by decide +kernel
theorem dX0_prepare_70 : decode cX0_prepare 70 = .ok (.iload_n 2, 1) := by decide +kernel
theorem dX0_prepare_71 : decode cX0_prepare 71 = .ok (.iconst 2, 1) := by decide +kernel
theorem dX0_prepare_72 : decode cX0_prepare 72 = .ok (.if_icmp .lt 7, 3) := by decide +kernel
theorem dX0_prepare_75 : decode cX0_prepare 75 = .ok (.iconst 1, 1) := by decide +kernel
theorem dX0_prepare_76 : decode cX0_prepare 76 = .ok (.goto 4, 3) := by decide +kernel
theorem dX0_prepare_79 : decode cX0_prepare 79 = .ok (.iconst 0, 1) := by decide +kernel
theorem dX0_prepare_80 : decode cX0_prepare 80 = .ok (.istore_n 3, 1) := by decide +kernel
theorem dX0_prepare_81 : decode cX0_prepare 81 = .ok (.aload_n 0, 1) := by decide +kernel
theorem dX0_prepare_82 : decode cX0_prepare 82 = .ok (.iload_n 3, 1) := by decide +kernel
theorem dX0_prepare_83 : decode cX0_prepare 83 = .ok (.ifCond .eq 10, 3) := by decide +kernel
theorem dX0_prepare_86 : decode cX0_prepare 86 = .ok (.aload_n 1, 1) := by decide +kernel
theorem dX0_prepare_87 : decode cX0_prepare 87 = .ok (.getfield 77, 3) := by decide +kernel
theorem dX0_prepare_90 : decode cX0_prepare 90 = .ok (.goto 4, 3) := by decide +kernel
theorem dX0_prepare_93 : decode cX0_prepare 93 = .ok (.iconst 1, 1) := by decide +kernel
theorem dX0_prepare_94 : decode cX0_prepare 94 = .ok (.putfield 37, 3) := by decide +kernel
theorem dX0_prepare_97 : decode cX0_prepare 97 = .ok (.aload_n 0, 1) := by decide +kernel
theorem dX0_prepare_98 : decode cX0_prepare 98 = .ok (.iload_n 3, 1) := by decide +kernel
theorem dX0_prepare_99 : decode cX0_prepare 99 = .ok (.ifCond .eq 10, 3) := by decide +kernel
theorem dX0_prepare_102 : decode cX0_prepare 102 = .ok (.aload_n 1, 1) := by decide +kernel
theorem dX0_prepare_103 : decode cX0_prepare 103 = .ok (.getfield 78, 3) := by decide +kernel
theorem dX0_prepare_106 : decode cX0_prepare 106 = .ok (.goto 4, 3) := by decide +kernel
theorem dX0_prepare_109 : decode cX0_prepare 109 = .ok (.iconst 0, 1) := by decide +kernel
theorem dX0_prepare_110 : decode cX0_prepare 110 = .ok (.putfield 40, 3) := by decide +kernel
theorem dX0_prepare_113 : decode cX0_prepare 113 = .ok (.iconst 0, 1) := by decide +kernel
theorem dX0_prepare_114 : decode cX0_prepare 114 = .ok (.istore 4, 2) := by decide +kernel
theorem dX0_prepare_116 : decode cX0_prepare 116 = .ok (.iload 4, 2) := by decide +kernel
theorem dX0_prepare_118 : decode cX0_prepare 118 = .ok (.iconst 3, 1) := by decide +kernel
theorem dX0_prepare_119 : decode cX0_prepare 119 = .ok (.if_icmp .ge 45, 3) := by decide +kernel
theorem dX0_prepare_122 : decode cX0_prepare 122 = .ok (.aload_n 0, 1) := by decide +kernel
theorem dX0_prepare_123 : decode cX0_prepare 123 = .ok (.getfield 43, 3) := by decide +kernel
theorem dX0_prepare_126 : decode cX0_prepare 126 = .ok (.iload 4, 2) := by decide +kernel
theorem dX0_prepare_128 : decode cX0_prepare 128 = .ok (.aload_n 1, 1) := by decide +kernel
theorem dX0_prepare_129 : decode cX0_prepare 129 = .ok (.getfield 79, 3) := by decide +kernel
theorem dX0_prepare_132 : decode cX0_prepare 132 = .ok (.iload 4, 2) := by decide +kernel
theorem dX0_prepare_134 : decode cX0_prepare 134 = .ok (.iaload, 1) := by decide +kernel
theorem dX0_prepare_135 : decode cX0_prepare 135 = .ok (.iastore, 1) := by decide +kernel
theorem dX0_prepare_136 : decode cX0_prepare 136 = .ok (.aload_n 0, 1) := by decide +kernel
theorem dX0_prepare_137 : decode cX0_prepare 137 = .ok (.getfield 46, 3) := by decide +kernel
theorem dX0_prepare_140 : decode cX0_prepare 140 = .ok (.iload 4, 2) := by decide +kernel
theorem dX0_prepare_142 : decode cX0_prepare 142 = .ok (.iload_n 3, 1) := by decide +kernel
theorem dX0_prepare_143 : decode cX0_prepare 143 = .ok (.ifCond .eq 13, 3) := by decide +kernel
theorem dX0_prepare_146 : decode cX0_prepare 146 = .ok (.aload_n 1, 1) := by decide +kernel
theorem dX0_prepare_147 : decode cX0_prepare 147 = .ok (.getfield 80, 3) := by decide +kernel
theorem dX0_prepare_150 : decode cX0_prepare 150 = .ok (.iload 4, 2) := by decide +kernel
theorem dX0_prepare_152 : decode cX0_prepare 152 = .ok (.iaload, 1) := by decide +kernel
theorem dX0_prepare_153 : decode cX0_prepare 153 = .ok (.goto 4, 3) := by decide +kernel
theorem dX0_prepare_156 : decode cX0_prepare 156 = .ok (.iconst 0, 1) := by decide +kernel
theorem dX0_prepare_157 : decode cX0_prepare 157 = .ok (.iastore, 1) := by decide +kernel
theorem dX0_prepare_158 : decode cX0_prepare 158 = .ok (.iinc 4 1, 3) := by decide +kernel
theorem dX0_prepare_161 : decode cX0_prepare 161 = .ok (.goto (-45), 3) := by decide +kernel
theorem dX0_prepare_164 : decode cX0_prepare 164 = .ok (.iconst 0, 1) := by decide +kernel
theorem dX0_prepare_165 : decode cX0_prepare 165 = .ok (.istore 4, 2) := by decide +kernel
theorem dX0_prepare_167 : decode cX0_prepare 167 = .ok (.iload 4, 2) := by decide +kernel
theorem dX0_prepare_169 : decode cX0_prepare 169 = .ok (.aload_n 0, 1) := by decide +kernel
theorem dX0_prepare_170 : decode cX0_prepare 170 = .ok (.getfield 30, 3) := by decide +kernel
theorem dX0_prepare_173 : decode cX0_prepare 173 = .ok (.if_icmp .gt 33, 3) := by decide +kernel
theorem dX0_prepare_176 : decode cX0_prepare 176 = .ok (.aload_n 0, 1) := by decide +kernel
theorem dX0_prepare_177 : decode cX0_prepare 177 = .ok (.getfield 49, 3) := by decide +kernel
theorem dX0_prepare_180 : decode cX0_prepare 180 = .ok (.iload 4, 2) := by decide +kernel
theorem dX0_prepare_182 : decode cX0_prepare 182 = .ok (.iconst 1, 1) := by decide +kernel
theorem dX0_prepare_183 : decode cX0_prepare 183 = .ok (.iadd, 1) := by decide +kernel
theorem dX0_prepare_184 : decode cX0_prepare 184 = .ok (.aload_n 0, 1) := by decide +kernel
theorem dX0_prepare_185 : decode cX0_prepare 185 = .ok (.getfield 49, 3) := by decide +kernel
theorem dX0_prepare_188 : decode cX0_prepare 188 = .ok (.iload 4, 2) := by decide +kernel
theorem dX0_prepare_190 : decode cX0_prepare 190 = .ok (.iaload, 1) := by decide +kernel
theorem dX0_prepare_191 : decode cX0_prepare 191 = .ok (.aload_n 1, 1) := by decide +kernel
theorem dX0_prepare_192 : decode cX0_prepare 192 = .ok (.getfield 81, 3) := by decide +kernel
theorem dX0_prepare_195 : decode cX0_prepare 195 = .ok (.iload 4, 2) := by decide +kernel
theorem dX0_prepare_197 : decode cX0_prepare 197 = .ok (.iaload, 1) := by decide +kernel
theorem dX0_prepare_198 : decode cX0_prepare 198 = .ok (.iadd, 1) := by decide +kernel
theorem dX0_prepare_199 : decode cX0_prepare 199 = .ok (.iastore, 1) := by decide +kernel
theorem dX0_prepare_200 : decode cX0_prepare 200 = .ok (.iinc 4 1, 3) := by decide +kernel
theorem dX0_prepare_203 : decode cX0_prepare 203 = .ok (.goto (-36), 3) := by decide +kernel
theorem dX0_prepare_206 : decode cX0_prepare 206 = .ok (.return_, 1) := by decide +kernel
theorem dX0_valueOf_0 : decode cX0_valueOf 0 = .ok (.iload_n 1, 1) := by decide +kernel
theorem dX0_valueOf_1 : decode cX0_valueOf 1 = .ok (.iload_n 2, 1) := by decide +kernel
theorem dX0_valueOf_2 : decode cX0_valueOf 2 = .ok (.if_icmp .lt 9, 3) := by decide +kernel
theorem dX0_valueOf_5 : decode cX0_valueOf 5 = .ok (.aload_n 0, 1) := by decide +kernel
theorem dX0_valueOf_6 : decode cX0_valueOf 6 = .ok (.invokevirtual 84, 3) := by decide +kernel
theorem dX0_valueOf_9 : decode cX0_valueOf 9 = .ok (.lconst 0, 1) := by decide +kernel
theorem dX0_valueOf_10 : decode cX0_valueOf 10 = .ok (.lreturn, 1) := by decide +kernel
theorem dX0_valueOf_11 : decode cX0_valueOf 11 = .ok (.aload_n 0, 1) := by decide +kernel
theorem dX0_valueOf_12 : decode cX0_valueOf 12 = .ok (.iload_n 3, 1) := by decide +kernel
theorem dX0_valueOf_13 : decode cX0_valueOf 13 = .ok (.invokevirtual 87, 3) := by decide +kernel
theorem dX0_valueOf_16 : decode cX0_valueOf 16 = .ok (.aload_n 0, 1) := by decide +kernel
theorem dX0_valueOf_17 : decode cX0_valueOf 17 = .ok (.iload_n 3, 1) := by decide +kernel
theorem dX0_valueOf_18 : decode cX0_valueOf 18 = .ok (.iload_n 1, 1) := by decide +kernel
theorem dX0_valueOf_19 : decode cX0_valueOf 19 = .ok (.iload_n 2, 1) := by decide +kernel
theorem dX0_valueOf_20 : decode cX0_valueOf 20 = .ok (.invokevirtual 91, 3) := by decide +kernel
theorem dX0_valueOf_23 : decode cX0_valueOf 23 = .ok (.istore 4, 2) := by decide +kernel
theorem dX0_valueOf_25 : decode cX0_valueOf 25 = .ok (.iload 4, 2) := by decide +kernel
theorem dX0_valueOf_27 : decode cX0_valueOf 27 = .ok (.ldc 61, 2) := by decide +kernel
theorem dX0_valueOf_29 : decode cX0_valueOf 29 = .ok (.if_icmp .lt 9, 3) := by decide +kernel
theorem dX0_valueOf_32 : decode cX0_valueOf 32 = .ok (.ldc2_w 95, 3) := by decide +kernel
theorem dX0_valueOf_35 : decode cX0_valueOf 35 = .ok (.goto 6, 3) := by decide +kernel
theorem dX0_valueOf_38 : decode cX0_valueOf 38 = .ok (.iload 4, 2) := by decide +kernel
theorem dX0_valueOf_40 : decode cX0_valueOf 40 = .ok (.i2l, 1) := by decide +kernel
theorem dX0_valueOf_41 : decode cX0_valueOf 41 = .ok (.lreturn, 1) := by decide +kernel
theorem dX0_edgeOf_0 : decode cX0_edgeOf 0 = .ok (.aload_n 0, 1) := by decide +kernel
theorem dX0_edgeOf_1 : decode cX0_edgeOf 1 = .ok (.aload_n 0, 1) := by decide +kernel
theorem dX0_edgeOf_2 : decode cX0_edgeOf 2 = .ok (.getfield 65, 3) := by decide +kernel
theorem dX0_edgeOf_5 : decode cX0_edgeOf 5 = .ok (.putfield 55, 3) := by decide +kernel
theorem dX0_edgeOf_8 : decode cX0_edgeOf 8 = .ok (.aload_n 0, 1) := by decide +kernel
theorem dX0_edgeOf_9 : decode cX0_edgeOf 9 = .ok (.aload_n 0, 1) := by decide +kernel
theorem dX0_edgeOf_10 : decode cX0_edgeOf 10 = .ok (.getfield 68, 3) := by decide +kernel
theorem dX0_edgeOf_13 : decode cX0_edgeOf 13 = .ok (.putfield 58, 3) := by decide +kernel
theorem dX0_edgeOf_16 : decode cX0_edgeOf 16 = .ok (.aload_n 0, 1) := by decide +kernel
theorem dX0_edgeOf_17 : decode cX0_edgeOf 17 = .ok (.getfield 52, 3) := by decide +kernel
theorem dX0_edgeOf_20 : decode cX0_edgeOf 20 = .ok (.iconst (-1), 1) := by decide +kernel
theorem dX0_edgeOf_21 : decode cX0_edgeOf 21 = .ok (.invokestatic 97, 3) := by decide +kernel
theorem dX0_edgeOf_24 : decode cX0_edgeOf 24 = .ok (.aload_n 0, 1) := by decide +kernel
theorem dX0_edgeOf_25 : decode cX0_edgeOf 25 = .ok (.getfield 46, 3) := by decide +kernel
theorem dX0_edgeOf_28 : decode cX0_edgeOf 28 = .ok (.iload_n 1, 1) := by decide +kernel
theorem dX0_edgeOf_29 : decode cX0_edgeOf 29 = .ok (.iaload, 1) := by decide +kernel
theorem dX0_edgeOf_30 : decode cX0_edgeOf 30 = .ok (.istore_n 3, 1) := by decide +kernel
theorem dX0_edgeOf_31 : decode cX0_edgeOf 31 = .ok (.aload_n 0, 1) := by decide +kernel
theorem dX0_edgeOf_32 : decode cX0_edgeOf 32 = .ok (.getfield 52, 3) := by decide +kernel
theorem dX0_edgeOf_35 : decode cX0_edgeOf 35 = .ok (.iload_n 3, 1) := by decide +kernel
theorem dX0_edgeOf_36 : decode cX0_edgeOf 36 = .ok (.aload_n 0, 1) := by decide +kernel
theorem dX0_edgeOf_37 : decode cX0_edgeOf 37 = .ok (.getfield 62, 3) := by decide +kernel
theorem dX0_edgeOf_40 : decode cX0_edgeOf 40 = .ok (.iastore, 1) := by decide +kernel
theorem dX0_edgeOf_41 : decode cX0_edgeOf 41 = .ok (.iconst 1, 1) := by decide +kernel
theorem dX0_edgeOf_42 : decode cX0_edgeOf 42 = .ok (.istore 4, 2) := by decide +kernel
theorem dX0_edgeOf_44 : decode cX0_edgeOf 44 = .ok (.bipush 100, 2) := by decide +kernel
theorem dX0_edgeOf_46 : decode cX0_edgeOf 46 = .ok (.istore 5, 2) := by decide +kernel
theorem dX0_edgeOf_48 : decode cX0_edgeOf 48 = .ok (.iconst 0, 1) := by decide +kernel
theorem dX0_edgeOf_49 : decode cX0_edgeOf 49 = .ok (.istore 6, 2) := by decide +kernel
theorem dX0_edgeOf_51 : decode cX0_edgeOf 51 = .ok (.iload 6, 2) := by decide +kernel
theorem dX0_edgeOf_53 : decode cX0_edgeOf 53 = .ok (.sipush 990, 3) := by decide +kernel
theorem dX0_edgeOf_56 : decode cX0_edgeOf 56 = .ok (.if_icmp .ge 159, 3) := by decide +kernel
theorem dX0_edgeOf_59 : decode cX0_edgeOf 59 = .ok (.iload_n 3, 1) := by decide +kernel
theorem dX0_edgeOf_60 : decode cX0_edgeOf 60 = .ok (.bipush 99, 2) := by decide +kernel
theorem dX0_edgeOf_62 : decode cX0_edgeOf 62 = .ok (.if_icmp .ge 153, 3) := by decide +kernel
theorem dX0_edgeOf_65 : decode cX0_edgeOf 65 = .ok (.iload 5, 2) := by decide +kernel
theorem dX0_edgeOf_67 : decode cX0_edgeOf 67 = .ok (.bipush 99, 2) := by decide +kernel
theorem dX0_edgeOf_69 : decode cX0_edgeOf 69 = .ok (.if_icmp .le 146, 3) := by decide +kernel
theorem dX0_edgeOf_72 : decode cX0_edgeOf 72 = .ok (.bipush 99, 2) := by decide +kernel
theorem dX0_edgeOf_74 : decode cX0_edgeOf 74 = .ok (.iload_n 3, 1) := by decide +kernel
theorem dX0_edgeOf_75 : decode cX0_edgeOf 75 = .ok (.iload 4, 2) := by decide +kernel
theorem dX0_edgeOf_77 : decode cX0_edgeOf 77 = .ok (.iadd, 1) := by decide +kernel
theorem dX0_edgeOf_78 : decode cX0_edgeOf 78 = .ok (.invokestatic 103, 3) := by decide +kernel
theorem dX0_edgeOf_81 : decode cX0_edgeOf 81 = .ok (.istore 7, 2) := by decide +kernel
theorem dX0_edgeOf_83 : decode cX0_edgeOf 83 = .ok (.iload_n 3, 1) := by decide +kernel
theorem dX0_edgeOf_84 : decode cX0_edgeOf 84 = .ok (.iload 7, 2) := by decide +kernel
theorem dX0_edgeOf_86 : decode cX0_edgeOf 86 = .ok (.iadd, 1) := by decide +kernel
theorem dX0_edgeOf_87 : decode cX0_edgeOf 87 = .ok (.iconst 2, 1) := by decide +kernel
theorem dX0_edgeOf_88 : decode cX0_edgeOf 88 = .ok (.idiv, 1) := by decide +kernel
theorem dX0_edgeOf_89 : decode cX0_edgeOf 89 = .ok (.istore 8, 2) := by decide +kernel
theorem dX0_edgeOf_91 : decode cX0_edgeOf 91 = .ok (.aload_n 0, 1) := by decide +kernel
theorem dX0_edgeOf_92 : decode cX0_edgeOf 92 = .ok (.iload 7, 2) := by decide +kernel
theorem dX0_edgeOf_94 : decode cX0_edgeOf 94 = .ok (.iload_n 1, 1) := by decide +kernel
theorem dX0_edgeOf_95 : decode cX0_edgeOf 95 = .ok (.iload_n 2, 1) := by decide +kernel
theorem dX0_edgeOf_96 : decode cX0_edgeOf 96 = .ok (.invokevirtual 109, 3) := by decide +kernel
theorem dX0_edgeOf_99 : decode cX0_edgeOf 99 = .ok (.aload_n 0, 1) := by decide +kernel
theorem dX0_edgeOf_100 : decode cX0_edgeOf 100 = .ok (.getfield 33, 3) := by decide +kernel
theorem dX0_edgeOf_103 : decode cX0_edgeOf 103 = .ok (.ifCond .eq 39, 3) := by decide +kernel
theorem dX0_edgeOf_106 : decode cX0_edgeOf 106 = .ok (.aload_n 0, 1) := by decide +kernel
theorem dX0_edgeOf_107 : decode cX0_edgeOf 107 = .ok (.getfield 52, 3) := by decide +kernel
theorem dX0_edgeOf_110 : decode cX0_edgeOf 110 = .ok (.iload 7, 2) := by decide +kernel
theorem dX0_edgeOf_112 : decode cX0_edgeOf 112 = .ok (.iaload, 1) := by decide +kernel
theorem dX0_edgeOf_113 : decode cX0_edgeOf 113 = .ok (.bipush (-2), 2) := by decide +kernel
theorem dX0_edgeOf_115 : decode cX0_edgeOf 115 = .ok (.if_icmp .eq 27, 3) := by decide +kernel
theorem dX0_edgeOf_118 : decode cX0_edgeOf 118 = .ok (.aload_n 0, 1) := by decide +kernel
theorem dX0_edgeOf_119 : decode cX0_edgeOf 119 = .ok (.getfield 52, 3) := by decide +kernel
theorem dX0_edgeOf_122 : decode cX0_edgeOf 122 = .ok (.iload 7, 2) := by decide +kernel
theorem dX0_edgeOf_124 : decode cX0_edgeOf 124 = .ok (.iaload, 1) := by decide +kernel
theorem dX0_edgeOf_125 : decode cX0_edgeOf 125 = .ok (.aload_n 0, 1) := by decide +kernel
theorem dX0_edgeOf_126 : decode cX0_edgeOf 126 = .ok (.getfield 52, 3) := by decide +kernel
theorem dX0_edgeOf_129 : decode cX0_edgeOf 129 = .ok (.iload_n 3, 1) := by decide +kernel
theorem dX0_edgeOf_130 : decode cX0_edgeOf 130 = .ok (.iaload, 1) := by decide +kernel
theorem dX0_edgeOf_131 : decode cX0_edgeOf 131 = .ok (.if_icmp .eq 11, 3) := by decide +kernel
theorem dX0_edgeOf_134 : decode cX0_edgeOf 134 = .ok (.aload_n 0, 1) := by decide +kernel
theorem dX0_edgeOf_135 : decode cX0_edgeOf 135 = .ok (.iload 8, 2) := by decide +kernel
theorem dX0_edgeOf_137 : decode cX0_edgeOf 137 = .ok (.iload_n 1, 1) := by decide +kernel
theorem dX0_edgeOf_138 : decode cX0_edgeOf 138 = .ok (.iload_n 2, 1) := by decide +kernel
theorem dX0_edgeOf_139 : decode cX0_edgeOf 139 = .ok (.invokevirtual 109, 3) := by decide +kernel
theorem dX0_edgeOf_142 : decode cX0_edgeOf 142 = .ok (.iload 7, 2) := by decide +kernel
theorem dX0_edgeOf_144 : decode cX0_edgeOf 144 = .ok (.iload_n 3, 1) := by decide +kernel
theorem dX0_edgeOf_145 : decode cX0_edgeOf 145 = .ok (.iconst 1, 1) := by decide +kernel
theorem dX0_edgeOf_146 : decode cX0_edgeOf 146 = .ok (.iadd, 1) := by decide +kernel
theorem dX0_edgeOf_147 : decode cX0_edgeOf 147 = .ok (.if_icmp .ne 22, 3) := by decide +kernel
theorem dX0_edgeOf_150 : decode cX0_edgeOf 150 = .ok (.aload_n 0, 1) := by decide +kernel
theorem dX0_edgeOf_151 : decode cX0_edgeOf 151 = .ok (.getfield 52, 3) := by decide +kernel
theorem dX0_edgeOf_154 : decode cX0_edgeOf 154 = .ok (.iload 7, 2) := by decide +kernel
theorem dX0_edgeOf_156 : decode cX0_edgeOf 156 = .ok (.iaload, 1) := by decide +kernel
theorem dX0_edgeOf_157 : decode cX0_edgeOf 157 = .ok (.bipush (-2), 2) := by decide +kernel
theorem dX0_edgeOf_159 : decode cX0_edgeOf 159 = .ok (.if_icmp .ne 10, 3) := by decide +kernel
theorem dX0_edgeOf_162 : decode cX0_edgeOf 162 = .ok (.iload 7, 2) := by decide +kernel
theorem dX0_edgeOf_164 : decode cX0_edgeOf 164 = .ok (.istore 5, 2) := by decide +kernel
theorem dX0_edgeOf_166 : decode cX0_edgeOf 166 = .ok (.goto 43, 3) := by decide +kernel
theorem dX0_edgeOf_169 : decode cX0_edgeOf 169 = .ok (.iload 7, 2) := by decide +kernel
theorem dX0_edgeOf_171 : decode cX0_edgeOf 171 = .ok (.iload_n 3, 1) := by decide +kernel
theorem dX0_edgeOf_172 : decode cX0_edgeOf 172 = .ok (.iconst 1, 1) := by decide +kernel
theorem dX0_edgeOf_173 : decode cX0_edgeOf 173 = .ok (.iadd, 1) := by decide +kernel
theorem dX0_edgeOf_174 : decode cX0_edgeOf 174 = .ok (.if_icmp .eq 15, 3) := by decide +kernel
theorem dX0_edgeOf_177 : decode cX0_edgeOf 177 = .ok (.aload_n 0, 1) := by decide +kernel
theorem dX0_edgeOf_178 : decode cX0_edgeOf 178 = .ok (.iload_n 3, 1) := by decide +kernel
theorem dX0_edgeOf_179 : decode cX0_edgeOf 179 = .ok (.iload 8, 2) := by decide +kernel
theorem dX0_edgeOf_181 : decode cX0_edgeOf 181 = .ok (.iload 7, 2) := by decide +kernel
theorem dX0_edgeOf_183 : decode cX0_edgeOf 183 = .ok (.invokevirtual 113, 3) := by decide +kernel
theorem dX0_edgeOf_186 : decode cX0_edgeOf 186 = .ok (.ifCond .eq 15, 3) := by decide +kernel
theorem dX0_edgeOf_189 : decode cX0_edgeOf 189 = .ok (.iload 7, 2) := by decide +kernel
theorem dX0_edgeOf_191 : decode cX0_edgeOf 191 = .ok (.istore_n 3, 1) := by decide +kernel
theorem dX0_edgeOf_192 : decode cX0_edgeOf 192 = .ok (.iload 4, 2) := by decide +kernel
theorem dX0_edgeOf_194 : decode cX0_edgeOf 194 = .ok (.iconst 2, 1) := by decide +kernel
theorem dX0_edgeOf_195 : decode cX0_edgeOf 195 = .ok (.imul, 1) := by decide +kernel
theorem dX0_edgeOf_196 : decode cX0_edgeOf 196 = .ok (.istore 4, 2) := by decide +kernel
theorem dX0_edgeOf_198 : decode cX0_edgeOf 198 = .ok (.goto 11, 3) := by decide +kernel
theorem dX0_edgeOf_201 : decode cX0_edgeOf 201 = .ok (.iload 7, 2) := by decide +kernel
theorem dX0_edgeOf_203 : decode cX0_edgeOf 203 = .ok (.iload_n 3, 1) := by decide +kernel
theorem dX0_edgeOf_204 : decode cX0_edgeOf 204 = .ok (.isub, 1) := by decide +kernel
theorem dX0_edgeOf_205 : decode cX0_edgeOf 205 = .ok (.iconst 2, 1) := by decide +kernel
theorem dX0_edgeOf_206 : decode cX0_edgeOf 206 = .ok (.idiv, 1) := by decide +kernel
theorem dX0_edgeOf_207 : decode cX0_edgeOf 207 = .ok (.istore 4, 2) := by decide +kernel
theorem dX0_edgeOf_209 : decode cX0_edgeOf 209 = .ok (.iinc 6 1, 3) := by decide +kernel
theorem dX0_edgeOf_212 : decode cX0_edgeOf 212 = .ok (.goto (-161), 3) := by decide +kernel
theorem dX0_edgeOf_215 : decode cX0_edgeOf 215 = .ok (.aload_n 0, 1) := by decide +kernel
theorem dX0_edgeOf_216 : decode cX0_edgeOf 216 = .ok (.iconst (-1), 1) := by decide +kernel
theorem dX0_edgeOf_217 : decode cX0_edgeOf 217 = .ok (.putfield 24, 3) := by decide +kernel
theorem dX0_edgeOf_220 : decode cX0_edgeOf 220 = .ok (.iload 5, 2) := by decide +kernel
theorem dX0_edgeOf_222 : decode cX0_edgeOf 222 = .ok (.ireturn, 1) := by decide +kernel
theorem dX0_staysBetween_0 : decode cX0_staysBetween 0 = .ok (.aload_n 0, 1) := by decide +kernel
theorem dX0_staysBetween_1 : decode cX0_staysBetween 1 = .ok (.getfield 52, 3) := by decide +kernel
theorem dX0_staysBetween_4 : decode cX0_staysBetween 4 = .ok (.iload_n 3, 1) := by decide +kernel
theorem dX0_staysBetween_5 : decode cX0_staysBetween 5 = .ok (.iaload, 1) := by decide +kernel
theorem dX0_staysBetween_6 : decode cX0_staysBetween 6 = .ok (.bipush (-2), 2) := by decide +kernel
theorem dX0_staysBetween_8 : decode cX0_staysBetween 8 = .ok (.if_icmp .ne 5, 3) := by decide +kernel
theorem dX0_staysBetween_11 : decode cX0_staysBetween 11 = .ok (.iconst 0, 1) := by decide +kernel
theorem dX0_staysBetween_12 : decode cX0_staysBetween 12 = .ok (.ireturn, 1) := by decide +kernel
theorem dX0_staysBetween_13 : decode cX0_staysBetween 13 = .ok (.aload_n 0, 1) := by decide +kernel
theorem dX0_staysBetween_14 : decode cX0_staysBetween 14 = .ok (.getfield 52, 3) := by decide +kernel
theorem dX0_staysBetween_17 : decode cX0_staysBetween 17 = .ok (.iload_n 3, 1) := by decide +kernel
theorem dX0_staysBetween_18 : decode cX0_staysBetween 18 = .ok (.iaload, 1) := by decide +kernel
theorem dX0_staysBetween_19 : decode cX0_staysBetween 19 = .ok (.aload_n 0, 1) := by decide +kernel
theorem dX0_staysBetween_20 : decode cX0_staysBetween 20 = .ok (.getfield 52, 3) := by decide +kernel
theorem dX0_staysBetween_23 : decode cX0_staysBetween 23 = .ok (.iload_n 1, 1) := by decide +kernel
theorem dX0_staysBetween_24 : decode cX0_staysBetween 24 = .ok (.iaload, 1) := by decide +kernel
theorem dX0_staysBetween_25 : decode cX0_staysBetween 25 = .ok (.if_icmp .ne 5, 3) := by decide +kernel
theorem dX0_staysBetween_28 : decode cX0_staysBetween 28 = .ok (.iconst 1, 1) := by decide +kernel
theorem dX0_staysBetween_29 : decode cX0_staysBetween 29 = .ok (.ireturn, 1) := by decide +kernel
theorem dX0_staysBetween_30 : decode cX0_staysBetween 30 = .ok (.aload_n 0, 1) := by decide +kernel
theorem dX0_staysBetween_31 : decode cX0_staysBetween 31 = .ok (.getfield 33, 3) := by decide +kernel
theorem dX0_staysBetween_34 : decode cX0_staysBetween 34 = .ok (.ifCond .eq 14, 3) := by decide +kernel
theorem dX0_staysBetween_37 : decode cX0_staysBetween 37 = .ok (.aload_n 0, 1) := by decide +kernel
theorem dX0_staysBetween_38 : decode cX0_staysBetween 38 = .ok (.getfield 52, 3) := by decide +kernel
theorem dX0_staysBetween_41 : decode cX0_staysBetween 41 = .ok (.iload_n 2, 1) := by decide +kernel
theorem dX0_staysBetween_42 : decode cX0_staysBetween 42 = .ok (.iaload, 1) := by decide +kernel
theorem dX0_staysBetween_43 : decode cX0_staysBetween 43 = .ok (.bipush (-2), 2) := by decide +kernel
theorem dX0_staysBetween_45 : decode cX0_staysBetween 45 = .ok (.if_icmp .ne 5, 3) := by decide +kernel
theorem dX0_staysBetween_48 : decode cX0_staysBetween 48 = .ok (.iconst 0, 1) := by decide +kernel
theorem dX0_staysBetween_49 : decode cX0_staysBetween 49 = .ok (.ireturn, 1) := by decide +kernel
theorem dX0_staysBetween_50 : decode cX0_staysBetween 50 = .ok (.aload_n 0, 1) := by decide +kernel
theorem dX0_staysBetween_51 : decode cX0_staysBetween 51 = .ok (.getfield 52, 3) := by decide +kernel
theorem dX0_staysBetween_54 : decode cX0_staysBetween 54 = .ok (.iload_n 2, 1) := by decide +kernel
theorem dX0_staysBetween_55 : decode cX0_staysBetween 55 = .ok (.iaload, 1) := by decide +kernel
theorem dX0_staysBetween_56 : decode cX0_staysBetween 56 = .ok (.aload_n 0, 1) := by decide +kernel
theorem dX0_staysBetween_57 : decode cX0_staysBetween 57 = .ok (.getfield 52, 3) := by decide +kernel
theorem dX0_staysBetween_60 : decode cX0_staysBetween 60 = .ok (.iload_n 1, 1) := by decide +kernel
theorem dX0_staysBetween_61 : decode cX0_staysBetween 61 = .ok (.iaload, 1) := by decide +kernel
theorem dX0_staysBetween_62 : decode cX0_staysBetween 62 = .ok (.isub, 1) := by decide +kernel
theorem dX0_staysBetween_63 : decode cX0_staysBetween 63 = .ok (.i2l, 1) := by decide +kernel
theorem dX0_staysBetween_64 : decode cX0_staysBetween 64 = .ok (.lstore 4, 2) := by decide +kernel
theorem dX0_staysBetween_66 : decode cX0_staysBetween 66 = .ok (.aload_n 0, 1) := by decide +kernel
theorem dX0_staysBetween_67 : decode cX0_staysBetween 67 = .ok (.getfield 52, 3) := by decide +kernel
theorem dX0_staysBetween_70 : decode cX0_staysBetween 70 = .ok (.iload_n 3, 1) := by decide +kernel
theorem dX0_staysBetween_71 : decode cX0_staysBetween 71 = .ok (.iaload, 1) := by decide +kernel
theorem dX0_staysBetween_72 : decode cX0_staysBetween 72 = .ok (.aload_n 0, 1) := by decide +kernel
theorem dX0_staysBetween_73 : decode cX0_staysBetween 73 = .ok (.getfield 52, 3) := by decide +kernel
theorem dX0_staysBetween_76 : decode cX0_staysBetween 76 = .ok (.iload_n 2, 1) := by decide +kernel
theorem dX0_staysBetween_77 : decode cX0_staysBetween 77 = .ok (.iaload, 1) := by decide +kernel
theorem dX0_staysBetween_78 : decode cX0_staysBetween 78 = .ok (.isub, 1) := by decide +kernel
theorem dX0_staysBetween_79 : decode cX0_staysBetween 79 = .ok (.i2l, 1) := by decide +kernel
theorem dX0_staysBetween_80 : decode cX0_staysBetween 80 = .ok (.lstore 6, 2) := by decide +kernel
theorem dX0_staysBetween_82 : decode cX0_staysBetween 82 = .ok (.lload 4, 2) := by decide +kernel
theorem dX0_staysBetween_84 : decode cX0_staysBetween 84 = .ok (.iload_n 3, 1) := by decide +kernel
theorem dX0_staysBetween_85 : decode cX0_staysBetween 85 = .ok (.iload_n 2, 1) := by decide +kernel
theorem dX0_staysBetween_86 : decode cX0_staysBetween 86 = .ok (.isub, 1) := by decide +kernel
theorem dX0_staysBetween_87 : decode cX0_staysBetween 87 = .ok (.i2l, 1) := by decide +kernel
theorem dX0_staysBetween_88 : decode cX0_staysBetween 88 = .ok (.lmul, 1) := by decide +kernel
theorem dX0_staysBetween_89 : decode cX0_staysBetween 89 = .ok (.lload 6, 2) := by decide +kernel
theorem dX0_staysBetween_91 : decode cX0_staysBetween 91 = .ok (.iload_n 2, 1) := by decide +kernel
theorem dX0_staysBetween_92 : decode cX0_staysBetween 92 = .ok (.iload_n 1, 1) := by decide +kernel
theorem dX0_staysBetween_93 : decode cX0_staysBetween 93 = .ok (.isub, 1) := by decide +kernel
theorem dX0_staysBetween_94 : decode cX0_staysBetween 94 = .ok (.i2l, 1) := by decide +kernel
theorem dX0_staysBetween_95 : decode cX0_staysBetween 95 = .ok (.lmul, 1) := by decide +kernel
theorem dX0_staysBetween_96 : decode cX0_staysBetween 96 = .ok (.lcmp, 1) := by decide +kernel
theorem dX0_staysBetween_97 : decode cX0_staysBetween 97 = .ok (.ifCond .ne 7, 3) := by decide +kernel
theorem dX0_staysBetween_100 : decode cX0_staysBetween 100 = .ok (.iconst 1, 1) := by decide +kernel
theorem dX0_staysBetween_101 : decode cX0_staysBetween 101 = .ok (.goto 4, 3) := by decide +kernel
theorem dX0_staysBetween_104 : decode cX0_staysBetween 104 = .ok (.iconst 0, 1) := by decide +kernel
theorem dX0_staysBetween_105 : decode cX0_staysBetween 105 = .ok (.ireturn, 1) := by decide +kernel
theorem dX0_seek_0 : decode cX0_seek 0 = .ok (.aload_n 0, 1) := by decide +kernel
theorem dX0_seek_1 : decode cX0_seek 1 = .ok (.getfield 52, 3) := by decide +kernel
theorem dX0_seek_4 : decode cX0_seek 4 = .ok (.iload_n 1, 1) := by decide +kernel
theorem dX0_seek_5 : decode cX0_seek 5 = .ok (.iaload, 1) := by decide +kernel
theorem dX0_seek_6 : decode cX0_seek 6 = .ok (.iconst (-1), 1) := by decide +kernel
theorem dX0_seek_7 : decode cX0_seek 7 = .ok (.if_icmp .ne 75, 3) := by decide +kernel
theorem dX0_seek_10 : decode cX0_seek 10 = .ok (.aload_n 0, 1) := by decide +kernel
theorem dX0_seek_11 : decode cX0_seek 11 = .ok (.getfield 46, 3) := by decide +kernel
theorem dX0_seek_14 : decode cX0_seek 14 = .ok (.iload_n 2, 1) := by decide +kernel
theorem dX0_seek_15 : decode cX0_seek 15 = .ok (.iload_n 1, 1) := by decide +kernel
theorem dX0_seek_16 : decode cX0_seek 16 = .ok (.iastore, 1) := by decide +kernel
theorem dX0_seek_17 : decode cX0_seek 17 = .ok (.aload_n 0, 1) := by decide +kernel
theorem dX0_seek_18 : decode cX0_seek 18 = .ok (.iload_n 3, 1) := by decide +kernel
theorem dX0_seek_19 : decode cX0_seek 19 = .ok (.iload_n 2, 1) := by decide +kernel
theorem dX0_seek_20 : decode cX0_seek 20 = .ok (.invokevirtual 117, 3) := by decide +kernel
theorem dX0_seek_23 : decode cX0_seek 23 = .ok (.aload_n 0, 1) := by decide +kernel
theorem dX0_seek_24 : decode cX0_seek 24 = .ok (.iload_n 3, 1) := by decide +kernel
theorem dX0_seek_25 : decode cX0_seek 25 = .ok (.iconst 0, 1) := by decide +kernel
theorem dX0_seek_26 : decode cX0_seek 26 = .ok (.aload_n 0, 1) := by decide +kernel
theorem dX0_seek_27 : decode cX0_seek 27 = .ok (.getfield 30, 3) := by decide +kernel
theorem dX0_seek_30 : decode cX0_seek 30 = .ok (.invokevirtual 91, 3) := by decide +kernel
theorem dX0_seek_33 : decode cX0_seek 33 = .ok (.istore 4, 2) := by decide +kernel
theorem dX0_seek_35 : decode cX0_seek 35 = .ok (.aload_n 0, 1) := by decide +kernel
theorem dX0_seek_36 : decode cX0_seek 36 = .ok (.getfield 65, 3) := by decide +kernel
theorem dX0_seek_39 : decode cX0_seek 39 = .ok (.aload_n 0, 1) := by decide +kernel
theorem dX0_seek_40 : decode cX0_seek 40 = .ok (.getfield 55, 3) := by decide +kernel
theorem dX0_seek_43 : decode cX0_seek 43 = .ok (.if_icmp .ne 18, 3) := by decide +kernel
theorem dX0_seek_46 : decode cX0_seek 46 = .ok (.aload_n 0, 1) := by decide +kernel
theorem dX0_seek_47 : decode cX0_seek 47 = .ok (.getfield 68, 3) := by decide +kernel
theorem dX0_seek_50 : decode cX0_seek 50 = .ok (.aload_n 0, 1) := by decide +kernel
theorem dX0_seek_51 : decode cX0_seek 51 = .ok (.getfield 58, 3) := by decide +kernel
theorem dX0_seek_54 : decode cX0_seek 54 = .ok (.if_icmp .ne 7, 3) := by decide +kernel
theorem dX0_seek_57 : decode cX0_seek 57 = .ok (.iconst 1, 1) := by decide +kernel
theorem dX0_seek_58 : decode cX0_seek 58 = .ok (.goto 4, 3) := by decide +kernel
theorem dX0_seek_61 : decode cX0_seek 61 = .ok (.iconst 0, 1) := by decide +kernel
theorem dX0_seek_62 : decode cX0_seek 62 = .ok (.istore 5, 2) := by decide +kernel
theorem dX0_seek_64 : decode cX0_seek 64 = .ok (.aload_n 0, 1) := by decide +kernel
theorem dX0_seek_65 : decode cX0_seek 65 = .ok (.getfield 52, 3) := by decide +kernel
theorem dX0_seek_68 : decode cX0_seek 68 = .ok (.iload_n 1, 1) := by decide +kernel
theorem dX0_seek_69 : decode cX0_seek 69 = .ok (.iload 5, 2) := by decide +kernel
theorem dX0_seek_71 : decode cX0_seek 71 = .ok (.ifCond .eq 8, 3) := by decide +kernel
theorem dX0_seek_74 : decode cX0_seek 74 = .ok (.iload 4, 2) := by decide +kernel
theorem dX0_seek_76 : decode cX0_seek 76 = .ok (.goto 5, 3) := by decide +kernel
theorem dX0_seek_79 : decode cX0_seek 79 = .ok (.bipush (-2), 2) := by decide +kernel
theorem dX0_seek_81 : decode cX0_seek 81 = .ok (.iastore, 1) := by decide +kernel
theorem dX0_seek_82 : decode cX0_seek 82 = .ok (.return_, 1) := by decide +kernel
theorem dX0_forgetFirst_0 : decode cX0_forgetFirst 0 = .ok (.aload_n 0, 1) := by decide +kernel
theorem dX0_forgetFirst_1 : decode cX0_forgetFirst 1 = .ok (.iconst (-1), 1) := by decide +kernel
theorem dX0_forgetFirst_2 : decode cX0_forgetFirst 2 = .ok (.putfield 65, 3) := by decide +kernel
theorem dX0_forgetFirst_5 : decode cX0_forgetFirst 5 = .ok (.aload_n 0, 1) := by decide +kernel
theorem dX0_forgetFirst_6 : decode cX0_forgetFirst 6 = .ok (.iconst (-1), 1) := by decide +kernel
theorem dX0_forgetFirst_7 : decode cX0_forgetFirst 7 = .ok (.putfield 68, 3) := by decide +kernel
theorem dX0_forgetFirst_10 : decode cX0_forgetFirst 10 = .ok (.return_, 1) := by decide +kernel
theorem dX0_piecesIn_0 : decode cX0_piecesIn 0 = .ok (.iload_n 0, 1) := by decide +kernel
theorem dX0_piecesIn_1 : decode cX0_piecesIn 1 = .ok (.iload_n 1, 1) := by decide +kernel
theorem dX0_piecesIn_2 : decode cX0_piecesIn 2 = .ok (.invokestatic 121, 3) := by decide +kernel
theorem dX0_piecesIn_5 : decode cX0_piecesIn 5 = .ok (.idiv, 1) := by decide +kernel
theorem dX0_piecesIn_6 : decode cX0_piecesIn 6 = .ok (.iconst 5, 1) := by decide +kernel
theorem dX0_piecesIn_7 : decode cX0_piecesIn 7 = .ok (.irem, 1) := by decide +kernel
theorem dX0_piecesIn_8 : decode cX0_piecesIn 8 = .ok (.ireturn, 1) := by decide +kernel
theorem dX0_isPartOf_0 : decode cX0_isPartOf 0 = .ok (.iload_n 0, 1) := by decide +kernel
theorem dX0_isPartOf_1 : decode cX0_isPartOf 1 = .ok (.iconst 0, 1) := by decide +kernel
theorem dX0_isPartOf_2 : decode cX0_isPartOf 2 = .ok (.invokestatic 125, 3) := by decide +kernel
theorem dX0_isPartOf_5 : decode cX0_isPartOf 5 = .ok (.iload_n 1, 1) := by decide +kernel
theorem dX0_isPartOf_6 : decode cX0_isPartOf 6 = .ok (.iconst 0, 1) := by decide +kernel
theorem dX0_isPartOf_7 : decode cX0_isPartOf 7 = .ok (.invokestatic 125, 3) := by decide +kernel
theorem dX0_isPartOf_10 : decode cX0_isPartOf 10 = .ok (.if_icmp .gt 33, 3) := by decide +kernel
theorem dX0_isPartOf_13 : decode cX0_isPartOf 13 = .ok (.iload_n 0, 1) := by decide +kernel
theorem dX0_isPartOf_14 : decode cX0_isPartOf 14 = .ok (.iconst 1, 1) := by decide +kernel
theorem dX0_isPartOf_15 : decode cX0_isPartOf 15 = .ok (.invokestatic 125, 3) := by decide +kernel
theorem dX0_isPartOf_18 : decode cX0_isPartOf 18 = .ok (.iload_n 1, 1) := by decide +kernel
theorem dX0_isPartOf_19 : decode cX0_isPartOf 19 = .ok (.iconst 1, 1) := by decide +kernel
theorem dX0_isPartOf_20 : decode cX0_isPartOf 20 = .ok (.invokestatic 125, 3) := by decide +kernel
theorem dX0_isPartOf_23 : decode cX0_isPartOf 23 = .ok (.if_icmp .gt 20, 3) := by decide +kernel
theorem dX0_isPartOf_26 : decode cX0_isPartOf 26 = .ok (.iload_n 0, 1) := by decide +kernel
theorem dX0_isPartOf_27 : decode cX0_isPartOf 27 = .ok (.iconst 2, 1) := by decide +kernel
theorem dX0_isPartOf_28 : decode cX0_isPartOf 28 = .ok (.invokestatic 125, 3) := by decide +kernel
theorem dX0_isPartOf_31 : decode cX0_isPartOf 31 = .ok (.iload_n 1, 1) := by decide +kernel
theorem dX0_isPartOf_32 : decode cX0_isPartOf 32 = .ok (.iconst 2, 1) := by decide +kernel
theorem dX0_isPartOf_33 : decode cX0_isPartOf 33 = .ok (.invokestatic 125, 3) := by decide +kernel
theorem dX0_isPartOf_36 : decode cX0_isPartOf 36 = .ok (.if_icmp .gt 7, 3) := by decide +kernel
theorem dX0_isPartOf_39 : decode cX0_isPartOf 39 = .ok (.iconst 1, 1) := by decide +kernel
theorem dX0_isPartOf_40 : decode cX0_isPartOf 40 = .ok (.goto 4, 3) := by decide +kernel
theorem dX0_isPartOf_43 : decode cX0_isPartOf 43 = .ok (.iconst 0, 1) := by decide +kernel
theorem dX0_isPartOf_44 : decode cX0_isPartOf 44 = .ok (.ireturn, 1) := by decide +kernel
theorem dX0_fillUpTo_0 : decode cX0_fillUpTo 0 = .ok (.iconst 0, 1) := by decide +kernel
theorem dX0_fillUpTo_1 : decode cX0_fillUpTo 1 = .ok (.istore_n 2, 1) := by decide +kernel
theorem dX0_fillUpTo_2 : decode cX0_fillUpTo 2 = .ok (.iload_n 2, 1) := by decide +kernel
theorem dX0_fillUpTo_3 : decode cX0_fillUpTo 3 = .ok (.iload_n 1, 1) := by decide +kernel
theorem dX0_fillUpTo_4 : decode cX0_fillUpTo 4 = .ok (.if_icmp .gt 66, 3) := by decide +kernel
theorem dX0_fillUpTo_7 : decode cX0_fillUpTo 7 = .ok (.aload_n 0, 1) := by decide +kernel
theorem dX0_fillUpTo_8 : decode cX0_fillUpTo 8 = .ok (.getfield 17, 3) := by decide +kernel
theorem dX0_fillUpTo_11 : decode cX0_fillUpTo 11 = .ok (.iload_n 2, 1) := by decide +kernel
theorem dX0_fillUpTo_12 : decode cX0_fillUpTo 12 = .ok (.iaload, 1) := by decide +kernel
theorem dX0_fillUpTo_13 : decode cX0_fillUpTo 13 = .ok (.aload_n 0, 1) := by decide +kernel
theorem dX0_fillUpTo_14 : decode cX0_fillUpTo 14 = .ok (.getfield 20, 3) := by decide +kernel
theorem dX0_fillUpTo_17 : decode cX0_fillUpTo 17 = .ok (.if_icmp .eq 47, 3) := by decide +kernel
theorem dX0_fillUpTo_20 : decode cX0_fillUpTo 20 = .ok (.iload_n 2, 1) := by decide +kernel
theorem dX0_fillUpTo_21 : decode cX0_fillUpTo 21 = .ok (.iload_n 1, 1) := by decide +kernel
theorem dX0_fillUpTo_22 : decode cX0_fillUpTo 22 = .ok (.invokestatic 128, 3) := by decide +kernel
theorem dX0_fillUpTo_25 : decode cX0_fillUpTo 25 = .ok (.ifCond .eq 39, 3) := by decide +kernel
theorem dX0_fillUpTo_28 : decode cX0_fillUpTo 28 = .ok (.aload_n 0, 1) := by decide +kernel
theorem dX0_fillUpTo_29 : decode cX0_fillUpTo 29 = .ok (.getfield 11, 3) := by decide +kernel
theorem dX0_fillUpTo_32 : decode cX0_fillUpTo 32 = .ok (.iload_n 2, 1) := by decide +kernel
theorem dX0_fillUpTo_33 : decode cX0_fillUpTo 33 = .ok (.aaload, 1) := by decide +kernel
theorem dX0_fillUpTo_34 : decode cX0_fillUpTo 34 = .ok (.ifnonnull 14, 3) := by decide +kernel
theorem dX0_fillUpTo_37 : decode cX0_fillUpTo 37 = .ok (.aload_n 0, 1) := by decide +kernel
theorem dX0_fillUpTo_38 : decode cX0_fillUpTo 38 = .ok (.getfield 11, 3) := by decide +kernel
theorem dX0_fillUpTo_41 : decode cX0_fillUpTo 41 = .ok (.iload_n 2, 1) := by decide +kernel
theorem dX0_fillUpTo_42 : decode cX0_fillUpTo 42 = .ok (.sipush 861, 3) := by decide +kernel
theorem dX0_fillUpTo_45 : decode cX0_fillUpTo 45 = .ok (.newarray .int, 2) := by decide +kernel
theorem dX0_fillUpTo_47 : decode cX0_fillUpTo 47 = .ok (.aastore, 1) := by decide +kernel
theorem dX0_fillUpTo_48 : decode cX0_fillUpTo 48 = .ok (.aload_n 0, 1) := by decide +kernel
theorem dX0_fillUpTo_49 : decode cX0_fillUpTo 49 = .ok (.iload_n 2, 1) := by decide +kernel
theorem dX0_fillUpTo_50 : decode cX0_fillUpTo 50 = .ok (.iconst 0, 1) := by decide +kernel
theorem dX0_fillUpTo_51 : decode cX0_fillUpTo 51 = .ok (.invokevirtual 132, 3) := by decide +kernel
theorem dX0_fillUpTo_54 : decode cX0_fillUpTo 54 = .ok (.aload_n 0, 1) := by decide +kernel
theorem dX0_fillUpTo_55 : decode cX0_fillUpTo 55 = .ok (.getfield 17, 3) := by decide +kernel
theorem dX0_fillUpTo_58 : decode cX0_fillUpTo 58 = .ok (.iload_n 2, 1) := by decide +kernel
theorem dX0_fillUpTo_59 : decode cX0_fillUpTo 59 = .ok (.aload_n 0, 1) := by decide +kernel
theorem dX0_fillUpTo_60 : decode cX0_fillUpTo 60 = .ok (.getfield 20, 3) := by decide +kernel
theorem dX0_fillUpTo_63 : decode cX0_fillUpTo 63 = .ok (.iastore, 1) := by decide +kernel
theorem dX0_fillUpTo_64 : decode cX0_fillUpTo 64 = .ok (.iinc 2 1, 3) := by decide +kernel
theorem dX0_fillUpTo_67 : decode cX0_fillUpTo 67 = .ok (.goto (-65), 3) := by decide +kernel
theorem dX0_fillUpTo_70 : decode cX0_fillUpTo 70 = .ok (.return_, 1) := by decide +kernel
theorem dX0_fillAgain_0 : decode cX0_fillAgain 0 = .ok (.iconst 0, 1) := by decide +kernel
theorem dX0_fillAgain_1 : decode cX0_fillAgain 1 = .ok (.istore_n 3, 1) := by decide +kernel
theorem dX0_fillAgain_2 : decode cX0_fillAgain 2 = .ok (.iload_n 3, 1) := by decide +kernel
theorem dX0_fillAgain_3 : decode cX0_fillAgain 3 = .ok (.iload_n 1, 1) := by decide +kernel
theorem dX0_fillAgain_4 : decode cX0_fillAgain 4 = .ok (.if_icmp .gt 43, 3) := by decide +kernel
theorem dX0_fillAgain_7 : decode cX0_fillAgain 7 = .ok (.iload_n 3, 1) := by decide +kernel
theorem dX0_fillAgain_8 : decode cX0_fillAgain 8 = .ok (.iload_n 1, 1) := by decide +kernel
theorem dX0_fillAgain_9 : decode cX0_fillAgain 9 = .ok (.invokestatic 128, 3) := by decide +kernel
theorem dX0_fillAgain_12 : decode cX0_fillAgain 12 = .ok (.ifCond .eq 29, 3) := by decide +kernel
theorem dX0_fillAgain_15 : decode cX0_fillAgain 15 = .ok (.iload_n 3, 1) := by decide +kernel
theorem dX0_fillAgain_16 : decode cX0_fillAgain 16 = .ok (.iload_n 2, 1) := by decide +kernel
theorem dX0_fillAgain_17 : decode cX0_fillAgain 17 = .ok (.invokestatic 125, 3) := by decide +kernel
theorem dX0_fillAgain_20 : decode cX0_fillAgain 20 = .ok (.ifCond .le 21, 3) := by decide +kernel
theorem dX0_fillAgain_23 : decode cX0_fillAgain 23 = .ok (.aload_n 0, 1) := by decide +kernel
theorem dX0_fillAgain_24 : decode cX0_fillAgain 24 = .ok (.iload_n 3, 1) := by decide +kernel
theorem dX0_fillAgain_25 : decode cX0_fillAgain 25 = .ok (.iload_n 3, 1) := by decide +kernel
theorem dX0_fillAgain_26 : decode cX0_fillAgain 26 = .ok (.iload_n 1, 1) := by decide +kernel
theorem dX0_fillAgain_27 : decode cX0_fillAgain 27 = .ok (.if_icmp .ne 10, 3) := by decide +kernel
theorem dX0_fillAgain_30 : decode cX0_fillAgain 30 = .ok (.aload_n 0, 1) := by decide +kernel
theorem dX0_fillAgain_31 : decode cX0_fillAgain 31 = .ok (.getfield 30, 3) := by decide +kernel
theorem dX0_fillAgain_34 : decode cX0_fillAgain 34 = .ok (.goto 4, 3) := by decide +kernel
theorem dX0_fillAgain_37 : decode cX0_fillAgain 37 = .ok (.iconst 0, 1) := by decide +kernel
theorem dX0_fillAgain_38 : decode cX0_fillAgain 38 = .ok (.invokevirtual 132, 3) := by decide +kernel
theorem dX0_fillAgain_41 : decode cX0_fillAgain 41 = .ok (.iinc 3 1, 3) := by decide +kernel
theorem dX0_fillAgain_44 : decode cX0_fillAgain 44 = .ok (.goto (-42), 3) := by decide +kernel
theorem dX0_fillAgain_47 : decode cX0_fillAgain 47 = .ok (.return_, 1) := by decide +kernel
theorem dX0_fillRow_0 : decode cX0_fillRow 0 = .ok (.aload_n 0, 1) := by decide +kernel
theorem dX0_fillRow_1 : decode cX0_fillRow 1 = .ok (.getfield 11, 3) := by decide +kernel
theorem dX0_fillRow_4 : decode cX0_fillRow 4 = .ok (.iload_n 1, 1) := by decide +kernel
theorem dX0_fillRow_5 : decode cX0_fillRow 5 = .ok (.aaload, 1) := by decide +kernel
theorem dX0_fillRow_6 : decode cX0_fillRow 6 = .ok (.astore_n 3, 1) := by decide +kernel
theorem dX0_fillRow_7 : decode cX0_fillRow 7 = .ok (.aload_n 3, 1) := by decide +kernel
theorem dX0_fillRow_8 : decode cX0_fillRow 8 = .ok (.ifnonnull 4, 3) := by decide +kernel
theorem dX0_fillRow_11 : decode cX0_fillRow 11 = .ok (.return_, 1) := by decide +kernel
theorem dX0_fillRow_12 : decode cX0_fillRow 12 = .ok (.iload_n 2, 1) := by decide +kernel
theorem dX0_fillRow_13 : decode cX0_fillRow 13 = .ok (.istore 4, 2) := by decide +kernel
theorem dX0_fillRow_15 : decode cX0_fillRow 15 = .ok (.iload 4, 2) := by decide +kernel
theorem dX0_fillRow_17 : decode cX0_fillRow 17 = .ok (.aload_n 0, 1) := by decide +kernel
theorem dX0_fillRow_18 : decode cX0_fillRow 18 = .ok (.getfield 30, 3) := by decide +kernel
theorem dX0_fillRow_21 : decode cX0_fillRow 21 = .ok (.if_icmp .gt 54, 3) := by decide +kernel
theorem dX0_fillRow_24 : decode cX0_fillRow 24 = .ok (.aload_n 3, 1) := by decide +kernel
theorem dX0_fillRow_25 : decode cX0_fillRow 25 = .ok (.iload 4, 2) := by decide +kernel
theorem dX0_fillRow_27 : decode cX0_fillRow 27 = .ok (.iload 4, 2) := by decide +kernel
theorem dX0_fillRow_29 : decode cX0_fillRow 29 = .ok (.invokestatic 135, 3) := by decide +kernel
theorem dX0_fillRow_32 : decode cX0_fillRow 32 = .ok (.iconst 0, 1) := by decide +kernel
theorem dX0_fillRow_33 : decode cX0_fillRow 33 = .ok (.iastore, 1) := by decide +kernel
theorem dX0_fillRow_34 : decode cX0_fillRow 34 = .ok (.iload 4, 2) := by decide +kernel
theorem dX0_fillRow_36 : decode cX0_fillRow 36 = .ok (.iconst 1, 1) := by decide +kernel
theorem dX0_fillRow_37 : decode cX0_fillRow 37 = .ok (.isub, 1) := by decide +kernel
theorem dX0_fillRow_38 : decode cX0_fillRow 38 = .ok (.istore 5, 2) := by decide +kernel
theorem dX0_fillRow_40 : decode cX0_fillRow 40 = .ok (.iload 5, 2) := by decide +kernel
theorem dX0_fillRow_42 : decode cX0_fillRow 42 = .ok (.ifCond .lt 27, 3) := by decide +kernel
theorem dX0_fillRow_45 : decode cX0_fillRow 45 = .ok (.aload_n 3, 1) := by decide +kernel
theorem dX0_fillRow_46 : decode cX0_fillRow 46 = .ok (.iload 5, 2) := by decide +kernel
theorem dX0_fillRow_48 : decode cX0_fillRow 48 = .ok (.iload 4, 2) := by decide +kernel
theorem dX0_fillRow_50 : decode cX0_fillRow 50 = .ok (.invokestatic 135, 3) := by decide +kernel
theorem dX0_fillRow_53 : decode cX0_fillRow 53 = .ok (.aload_n 0, 1) := by decide +kernel
theorem dX0_fillRow_54 : decode cX0_fillRow 54 = .ok (.iload_n 1, 1) := by decide +kernel
theorem dX0_fillRow_55 : decode cX0_fillRow 55 = .ok (.iload 5, 2) := by decide +kernel
theorem dX0_fillRow_57 : decode cX0_fillRow 57 = .ok (.iload 4, 2) := by decide +kernel
theorem dX0_fillRow_59 : decode cX0_fillRow 59 = .ok (.invokevirtual 91, 3) := by decide +kernel
theorem dX0_fillRow_62 : decode cX0_fillRow 62 = .ok (.iastore, 1) := by decide +kernel
theorem dX0_fillRow_63 : decode cX0_fillRow 63 = .ok (.iinc 5 (-1), 3) := by decide +kernel
theorem dX0_fillRow_66 : decode cX0_fillRow 66 = .ok (.goto (-26), 3) := by decide +kernel
theorem dX0_fillRow_69 : decode cX0_fillRow 69 = .ok (.iinc 4 1, 3) := by decide +kernel
theorem dX0_fillRow_72 : decode cX0_fillRow 72 = .ok (.goto (-57), 3) := by decide +kernel
theorem dX0_fillRow_75 : decode cX0_fillRow 75 = .ok (.return_, 1) := by decide +kernel
theorem dX0_pick_0 : decode cX0_pick 0 = .ok (.aload_n 0, 1) := by decide +kernel
theorem dX0_pick_1 : decode cX0_pick 1 = .ok (.ldc 61, 2) := by decide +kernel
theorem dX0_pick_3 : decode cX0_pick 3 = .ok (.putfield 62, 3) := by decide +kernel
theorem dX0_pick_6 : decode cX0_pick 6 = .ok (.aload_n 0, 1) := by decide +kernel
theorem dX0_pick_7 : decode cX0_pick 7 = .ok (.invokevirtual 84, 3) := by decide +kernel
theorem dX0_pick_10 : decode cX0_pick 10 = .ok (.aload_n 0, 1) := by decide +kernel
theorem dX0_pick_11 : decode cX0_pick 11 = .ok (.getfield 11, 3) := by decide +kernel
theorem dX0_pick_14 : decode cX0_pick 14 = .ok (.iload_n 1, 1) := by decide +kernel
theorem dX0_pick_15 : decode cX0_pick 15 = .ok (.aaload, 1) := by decide +kernel
theorem dX0_pick_16 : decode cX0_pick 16 = .ok (.astore 4, 2) := by decide +kernel
theorem dX0_pick_18 : decode cX0_pick 18 = .ok (.iconst 0, 1) := by decide +kernel
theorem dX0_pick_19 : decode cX0_pick 19 = .ok (.istore 5, 2) := by decide +kernel
theorem dX0_pick_21 : decode cX0_pick 21 = .ok (.iload 5, 2) := by decide +kernel
theorem dX0_pick_23 : decode cX0_pick 23 = .ok (.iconst 3, 1) := by decide +kernel
theorem dX0_pick_24 : decode cX0_pick 24 = .ok (.if_icmp .ge 54, 3) := by decide +kernel
theorem dX0_pick_27 : decode cX0_pick 27 = .ok (.iload_n 1, 1) := by decide +kernel
theorem dX0_pick_28 : decode cX0_pick 28 = .ok (.iload 5, 2) := by decide +kernel
theorem dX0_pick_30 : decode cX0_pick 30 = .ok (.invokestatic 125, 3) := by decide +kernel
theorem dX0_pick_33 : decode cX0_pick 33 = .ok (.ifCond .le 39, 3) := by decide +kernel
theorem dX0_pick_36 : decode cX0_pick 36 = .ok (.aload_n 0, 1) := by decide +kernel
theorem dX0_pick_37 : decode cX0_pick 37 = .ok (.getfield 11, 3) := by decide +kernel
theorem dX0_pick_40 : decode cX0_pick 40 = .ok (.iload_n 1, 1) := by decide +kernel
theorem dX0_pick_41 : decode cX0_pick 41 = .ok (.iload 5, 2) := by decide +kernel
theorem dX0_pick_43 : decode cX0_pick 43 = .ok (.invokestatic 121, 3) := by decide +kernel
theorem dX0_pick_46 : decode cX0_pick 46 = .ok (.isub, 1) := by decide +kernel
theorem dX0_pick_47 : decode cX0_pick 47 = .ok (.aaload, 1) := by decide +kernel
theorem dX0_pick_48 : decode cX0_pick 48 = .ok (.astore 6, 2) := by decide +kernel
theorem dX0_pick_50 : decode cX0_pick 50 = .ok (.aload 4, 2) := by decide +kernel
theorem dX0_pick_52 : decode cX0_pick 52 = .ok (.ifnull 20, 3) := by decide +kernel
theorem dX0_pick_55 : decode cX0_pick 55 = .ok (.aload 6, 2) := by decide +kernel
theorem dX0_pick_57 : decode cX0_pick 57 = .ok (.ifnull 15, 3) := by decide +kernel
theorem dX0_pick_60 : decode cX0_pick 60 = .ok (.aload_n 0, 1) := by decide +kernel
theorem dX0_pick_61 : decode cX0_pick 61 = .ok (.iload 5, 2) := by decide +kernel
theorem dX0_pick_63 : decode cX0_pick 63 = .ok (.aload 4, 2) := by decide +kernel
theorem dX0_pick_65 : decode cX0_pick 65 = .ok (.aload 6, 2) := by decide +kernel
theorem dX0_pick_67 : decode cX0_pick 67 = .ok (.iload_n 2, 1) := by decide +kernel
theorem dX0_pick_68 : decode cX0_pick 68 = .ok (.iload_n 3, 1) := by decide +kernel
theorem dX0_pick_69 : decode cX0_pick 69 = .ok (.invokevirtual 138, 3) := by decide +kernel
theorem dX0_pick_72 : decode cX0_pick 72 = .ok (.iinc 5 1, 3) := by decide +kernel
theorem dX0_pick_75 : decode cX0_pick 75 = .ok (.goto (-54), 3) := by decide +kernel
theorem dX0_pick_78 : decode cX0_pick 78 = .ok (.aload_n 0, 1) := by decide +kernel
theorem dX0_pick_79 : decode cX0_pick 79 = .ok (.getfield 62, 3) := by decide +kernel
theorem dX0_pick_82 : decode cX0_pick 82 = .ok (.ireturn, 1) := by decide +kernel
theorem dX0_pickOf_0 : decode cX0_pickOf 0 = .ok (.iload 4, 2) := by decide +kernel
theorem dX0_pickOf_2 : decode cX0_pickOf 2 = .ok (.iconst 1, 1) := by decide +kernel
theorem dX0_pickOf_3 : decode cX0_pickOf 3 = .ok (.iadd, 1) := by decide +kernel
theorem dX0_pickOf_4 : decode cX0_pickOf 4 = .ok (.iconst 1, 1) := by decide +kernel
theorem dX0_pickOf_5 : decode cX0_pickOf 5 = .ok (.aload_n 0, 1) := by decide +kernel
theorem dX0_pickOf_6 : decode cX0_pickOf 6 = .ok (.getfield 43, 3) := by decide +kernel
theorem dX0_pickOf_9 : decode cX0_pickOf 9 = .ok (.iload_n 1, 1) := by decide +kernel
theorem dX0_pickOf_10 : decode cX0_pickOf 10 = .ok (.iaload, 1) := by decide +kernel
theorem dX0_pickOf_11 : decode cX0_pickOf 11 = .ok (.isub, 1) := by decide +kernel
theorem dX0_pickOf_12 : decode cX0_pickOf 12 = .ok (.invokestatic 142, 3) := by decide +kernel
theorem dX0_pickOf_15 : decode cX0_pickOf 15 = .ok (.istore 6, 2) := by decide +kernel
theorem dX0_pickOf_17 : decode cX0_pickOf 17 = .ok (.iload 5, 2) := by decide +kernel
theorem dX0_pickOf_19 : decode cX0_pickOf 19 = .ok (.aload_n 0, 1) := by decide +kernel
theorem dX0_pickOf_20 : decode cX0_pickOf 20 = .ok (.getfield 30, 3) := by decide +kernel
theorem dX0_pickOf_23 : decode cX0_pickOf 23 = .ok (.aload_n 0, 1) := by decide +kernel
theorem dX0_pickOf_24 : decode cX0_pickOf 24 = .ok (.getfield 43, 3) := by decide +kernel
theorem dX0_pickOf_27 : decode cX0_pickOf 27 = .ok (.iload_n 1, 1) := by decide +kernel
theorem dX0_pickOf_28 : decode cX0_pickOf 28 = .ok (.iaload, 1) := by decide +kernel
theorem dX0_pickOf_29 : decode cX0_pickOf 29 = .ok (.isub, 1) := by decide +kernel
theorem dX0_pickOf_30 : decode cX0_pickOf 30 = .ok (.invokestatic 103, 3) := by decide +kernel
theorem dX0_pickOf_33 : decode cX0_pickOf 33 = .ok (.istore 7, 2) := by decide +kernel
theorem dX0_pickOf_35 : decode cX0_pickOf 35 = .ok (.aload_n 0, 1) := by decide +kernel
theorem dX0_pickOf_36 : decode cX0_pickOf 36 = .ok (.getfield 33, 3) := by decide +kernel
theorem dX0_pickOf_39 : decode cX0_pickOf 39 = .ok (.ifCond .eq 23, 3) := by decide +kernel
theorem dX0_pickOf_42 : decode cX0_pickOf 42 = .ok (.aload_n 0, 1) := by decide +kernel
theorem dX0_pickOf_43 : decode cX0_pickOf 43 = .ok (.getfield 49, 3) := by decide +kernel
theorem dX0_pickOf_46 : decode cX0_pickOf 46 = .ok (.iload 5, 2) := by decide +kernel
theorem dX0_pickOf_48 : decode cX0_pickOf 48 = .ok (.iconst 1, 1) := by decide +kernel
theorem dX0_pickOf_49 : decode cX0_pickOf 49 = .ok (.iadd, 1) := by decide +kernel
theorem dX0_pickOf_50 : decode cX0_pickOf 50 = .ok (.iaload, 1) := by decide +kernel
theorem dX0_pickOf_51 : decode cX0_pickOf 51 = .ok (.aload_n 0, 1) := by decide +kernel
theorem dX0_pickOf_52 : decode cX0_pickOf 52 = .ok (.getfield 49, 3) := by decide +kernel
theorem dX0_pickOf_55 : decode cX0_pickOf 55 = .ok (.iload 4, 2) := by decide +kernel
theorem dX0_pickOf_57 : decode cX0_pickOf 57 = .ok (.iaload, 1) := by decide +kernel
theorem dX0_pickOf_58 : decode cX0_pickOf 58 = .ok (.isub, 1) := by decide +kernel
theorem dX0_pickOf_59 : decode cX0_pickOf 59 = .ok (.goto 4, 3) := by decide +kernel
theorem dX0_pickOf_62 : decode cX0_pickOf 62 = .ok (.iconst 1, 1) := by decide +kernel
theorem dX0_pickOf_63 : decode cX0_pickOf 63 = .ok (.istore 8, 2) := by decide +kernel
theorem dX0_pickOf_65 : decode cX0_pickOf 65 = .ok (.iconst 0, 1) := by decide +kernel
theorem dX0_pickOf_66 : decode cX0_pickOf 66 = .ok (.iload 5, 2) := by decide +kernel
theorem dX0_pickOf_68 : decode cX0_pickOf 68 = .ok (.invokestatic 135, 3) := by decide +kernel
theorem dX0_pickOf_71 : decode cX0_pickOf 71 = .ok (.istore 9, 2) := by decide +kernel
theorem dX0_pickOf_73 : decode cX0_pickOf 73 = .ok (.iload 4, 2) := by decide +kernel
theorem dX0_pickOf_75 : decode cX0_pickOf 75 = .ok (.iload 6, 2) := by decide +kernel
theorem dX0_pickOf_77 : decode cX0_pickOf 77 = .ok (.iconst 1, 1) := by decide +kernel
theorem dX0_pickOf_78 : decode cX0_pickOf 78 = .ok (.isub, 1) := by decide +kernel
theorem dX0_pickOf_79 : decode cX0_pickOf 79 = .ok (.invokestatic 135, 3) := by decide +kernel
theorem dX0_pickOf_82 : decode cX0_pickOf 82 = .ok (.istore 10, 2) := by decide +kernel
theorem dX0_pickOf_84 : decode cX0_pickOf 84 = .ok (.iload 6, 2) := by decide +kernel
theorem dX0_pickOf_86 : decode cX0_pickOf 86 = .ok (.istore 11, 2) := by decide +kernel
theorem dX0_pickOf_88 : decode cX0_pickOf 88 = .ok (.iload 11, 2) := by decide +kernel
theorem dX0_pickOf_90 : decode cX0_pickOf 90 = .ok (.iload 7, 2) := by decide +kernel
theorem dX0_pickOf_92 : decode cX0_pickOf 92 = .ok (.if_icmp .gt 166, 3) := by decide +kernel
theorem dX0_pickOf_95 : decode cX0_pickOf 95 = .ok (.iload 8, 2) := by decide +kernel
theorem dX0_pickOf_97 : decode cX0_pickOf 97 = .ok (.aload_n 0, 1) := by decide +kernel
theorem dX0_pickOf_98 : decode cX0_pickOf 98 = .ok (.getfield 37, 3) := by decide +kernel
theorem dX0_pickOf_101 : decode cX0_pickOf 101 = .ok (.aload_n 0, 1) := by decide +kernel
theorem dX0_pickOf_102 : decode cX0_pickOf 102 = .ok (.getfield 40, 3) := by decide +kernel
theorem dX0_pickOf_105 : decode cX0_pickOf 105 = .ok (.iload 11, 2) := by decide +kernel
theorem dX0_pickOf_107 : decode cX0_pickOf 107 = .ok (.aload_n 0, 1) := by decide +kernel
theorem dX0_pickOf_108 : decode cX0_pickOf 108 = .ok (.getfield 43, 3) := by decide +kernel
theorem dX0_pickOf_111 : decode cX0_pickOf 111 = .ok (.iload_n 1, 1) := by decide +kernel
theorem dX0_pickOf_112 : decode cX0_pickOf 112 = .ok (.iaload, 1) := by decide +kernel
theorem dX0_pickOf_113 : decode cX0_pickOf 113 = .ok (.iadd, 1) := by decide +kernel
theorem dX0_pickOf_114 : decode cX0_pickOf 114 = .ok (.imul, 1) := by decide +kernel
theorem dX0_pickOf_115 : decode cX0_pickOf 115 = .ok (.iadd, 1) := by decide +kernel
theorem dX0_pickOf_116 : decode cX0_pickOf 116 = .ok (.imul, 1) := by decide +kernel
theorem dX0_pickOf_117 : decode cX0_pickOf 117 = .ok (.istore 12, 2) := by decide +kernel
theorem dX0_pickOf_119 : decode cX0_pickOf 119 = .ok (.aload_n 0, 1) := by decide +kernel
theorem dX0_pickOf_120 : decode cX0_pickOf 120 = .ok (.getfield 33, 3) := by decide +kernel
theorem dX0_pickOf_123 : decode cX0_pickOf 123 = .ok (.ifCond .eq 21, 3) := by decide +kernel
theorem dX0_pickOf_126 : decode cX0_pickOf 126 = .ok (.aload_n 0, 1) := by decide +kernel
theorem dX0_pickOf_127 : decode cX0_pickOf 127 = .ok (.getfield 49, 3) := by decide +kernel
theorem dX0_pickOf_130 : decode cX0_pickOf 130 = .ok (.iload 11, 2) := by decide +kernel
theorem dX0_pickOf_132 : decode cX0_pickOf 132 = .ok (.iaload, 1) := by decide +kernel
theorem dX0_pickOf_133 : decode cX0_pickOf 133 = .ok (.aload_n 0, 1) := by decide +kernel
theorem dX0_pickOf_134 : decode cX0_pickOf 134 = .ok (.getfield 49, 3) := by decide +kernel
theorem dX0_pickOf_137 : decode cX0_pickOf 137 = .ok (.iload 4, 2) := by decide +kernel
theorem dX0_pickOf_139 : decode cX0_pickOf 139 = .ok (.iaload, 1) := by decide +kernel
theorem dX0_pickOf_140 : decode cX0_pickOf 140 = .ok (.isub, 1) := by decide +kernel
theorem dX0_pickOf_141 : decode cX0_pickOf 141 = .ok (.goto 4, 3) := by decide +kernel
theorem dX0_pickOf_144 : decode cX0_pickOf 144 = .ok (.iconst 1, 1) := by decide +kernel
theorem dX0_pickOf_145 : decode cX0_pickOf 145 = .ok (.istore 13, 2) := by decide +kernel
theorem dX0_pickOf_147 : decode cX0_pickOf 147 = .ok (.iload 13, 2) := by decide +kernel
theorem dX0_pickOf_149 : decode cX0_pickOf 149 = .ok (.aload_n 0, 1) := by decide +kernel
theorem dX0_pickOf_150 : decode cX0_pickOf 150 = .ok (.getfield 46, 3) := by decide +kernel
theorem dX0_pickOf_153 : decode cX0_pickOf 153 = .ok (.iload_n 1, 1) := by decide +kernel
theorem dX0_pickOf_154 : decode cX0_pickOf 154 = .ok (.iaload, 1) := by decide +kernel
theorem dX0_pickOf_155 : decode cX0_pickOf 155 = .ok (.imul, 1) := by decide +kernel
theorem dX0_pickOf_156 : decode cX0_pickOf 156 = .ok (.aload_n 3, 1) := by decide +kernel
theorem dX0_pickOf_157 : decode cX0_pickOf 157 = .ok (.iload 10, 2) := by decide +kernel
theorem dX0_pickOf_159 : decode cX0_pickOf 159 = .ok (.iaload, 1) := by decide +kernel
theorem dX0_pickOf_160 : decode cX0_pickOf 160 = .ok (.iadd, 1) := by decide +kernel
theorem dX0_pickOf_161 : decode cX0_pickOf 161 = .ok (.istore 14, 2) := by decide +kernel
theorem dX0_pickOf_163 : decode cX0_pickOf 163 = .ok (.iload 12, 2) := by decide +kernel
theorem dX0_pickOf_165 : decode cX0_pickOf 165 = .ok (.iload 14, 2) := by decide +kernel
theorem dX0_pickOf_167 : decode cX0_pickOf 167 = .ok (.iadd, 1) := by decide +kernel
theorem dX0_pickOf_168 : decode cX0_pickOf 168 = .ok (.aload_n 0, 1) := by decide +kernel
theorem dX0_pickOf_169 : decode cX0_pickOf 169 = .ok (.getfield 62, 3) := by decide +kernel
theorem dX0_pickOf_172 : decode cX0_pickOf 172 = .ok (.if_icmp .lt 4, 3) := by decide +kernel
theorem dX0_pickOf_175 : decode cX0_pickOf 175 = .ok (.return_, 1) := by decide +kernel
theorem dX0_pickOf_176 : decode cX0_pickOf 176 = .ok (.aload_n 2, 1) := by decide +kernel
theorem dX0_pickOf_177 : decode cX0_pickOf 177 = .ok (.iload 9, 2) := by decide +kernel
theorem dX0_pickOf_179 : decode cX0_pickOf 179 = .ok (.iload 11, 2) := by decide +kernel
theorem dX0_pickOf_181 : decode cX0_pickOf 181 = .ok (.iadd, 1) := by decide +kernel
theorem dX0_pickOf_182 : decode cX0_pickOf 182 = .ok (.iaload, 1) := by decide +kernel
theorem dX0_pickOf_183 : decode cX0_pickOf 183 = .ok (.istore 15, 2) := by decide +kernel
theorem dX0_pickOf_185 : decode cX0_pickOf 185 = .ok (.iload 12, 2) := by decide +kernel
theorem dX0_pickOf_187 : decode cX0_pickOf 187 = .ok (.aload_n 0, 1) := by decide +kernel
theorem dX0_pickOf_188 : decode cX0_pickOf 188 = .ok (.getfield 33, 3) := by decide +kernel
theorem dX0_pickOf_191 : decode cX0_pickOf 191 = .ok (.ifCond .eq 11, 3) := by decide +kernel
theorem dX0_pickOf_194 : decode cX0_pickOf 194 = .ok (.iload 14, 2) := by decide +kernel
theorem dX0_pickOf_196 : decode cX0_pickOf 196 = .ok (.iload 15, 2) := by decide +kernel
theorem dX0_pickOf_198 : decode cX0_pickOf 198 = .ok (.iadd, 1) := by decide +kernel
theorem dX0_pickOf_199 : decode cX0_pickOf 199 = .ok (.goto 10, 3) := by decide +kernel
theorem dX0_pickOf_202 : decode cX0_pickOf 202 = .ok (.iload 14, 2) := by decide +kernel
theorem dX0_pickOf_204 : decode cX0_pickOf 204 = .ok (.iload 15, 2) := by decide +kernel
theorem dX0_pickOf_206 : decode cX0_pickOf 206 = .ok (.invokestatic 142, 3) := by decide +kernel
theorem dX0_pickOf_209 : decode cX0_pickOf 209 = .ok (.iadd, 1) := by decide +kernel
theorem dX0_pickOf_210 : decode cX0_pickOf 210 = .ok (.istore 16, 2) := by decide +kernel
theorem dX0_pickOf_212 : decode cX0_pickOf 212 = .ok (.iload 16, 2) := by decide +kernel
theorem dX0_pickOf_214 : decode cX0_pickOf 214 = .ok (.aload_n 0, 1) := by decide +kernel
theorem dX0_pickOf_215 : decode cX0_pickOf 215 = .ok (.getfield 62, 3) := by decide +kernel
theorem dX0_pickOf_218 : decode cX0_pickOf 218 = .ok (.if_icmp .ge 27, 3) := by decide +kernel
theorem dX0_pickOf_221 : decode cX0_pickOf 221 = .ok (.aload_n 0, 1) := by decide +kernel
theorem dX0_pickOf_222 : decode cX0_pickOf 222 = .ok (.iload 16, 2) := by decide +kernel
theorem dX0_pickOf_224 : decode cX0_pickOf 224 = .ok (.putfield 62, 3) := by decide +kernel
theorem dX0_pickOf_227 : decode cX0_pickOf 227 = .ok (.aload_n 0, 1) := by decide +kernel
theorem dX0_pickOf_228 : decode cX0_pickOf 228 = .ok (.iload_n 1, 1) := by decide +kernel
theorem dX0_pickOf_229 : decode cX0_pickOf 229 = .ok (.putfield 65, 3) := by decide +kernel
theorem dX0_pickOf_232 : decode cX0_pickOf 232 = .ok (.aload_n 0, 1) := by decide +kernel
theorem dX0_pickOf_233 : decode cX0_pickOf 233 = .ok (.iload 11, 2) := by decide +kernel
theorem dX0_pickOf_235 : decode cX0_pickOf 235 = .ok (.aload_n 0, 1) := by decide +kernel
theorem dX0_pickOf_236 : decode cX0_pickOf 236 = .ok (.getfield 43, 3) := by decide +kernel
theorem dX0_pickOf_239 : decode cX0_pickOf 239 = .ok (.iload_n 1, 1) := by decide +kernel
theorem dX0_pickOf_240 : decode cX0_pickOf 240 = .ok (.iaload, 1) := by decide +kernel
theorem dX0_pickOf_241 : decode cX0_pickOf 241 = .ok (.iadd, 1) := by decide +kernel
theorem dX0_pickOf_242 : decode cX0_pickOf 242 = .ok (.putfield 68, 3) := by decide +kernel
theorem dX0_pickOf_245 : decode cX0_pickOf 245 = .ok (.iload 10, 2) := by decide +kernel
theorem dX0_pickOf_247 : decode cX0_pickOf 247 = .ok (.iload 11, 2) := by decide +kernel
theorem dX0_pickOf_249 : decode cX0_pickOf 249 = .ok (.iadd, 1) := by decide +kernel
theorem dX0_pickOf_250 : decode cX0_pickOf 250 = .ok (.istore 10, 2) := by decide +kernel
theorem dX0_pickOf_252 : decode cX0_pickOf 252 = .ok (.iinc 11 1, 3) := by decide +kernel
theorem dX0_pickOf_255 : decode cX0_pickOf 255 = .ok (.goto (-167), 3) := by decide +kernel
theorem dX0_pickOf_258 : decode cX0_pickOf 258 = .ok (.return_, 1) := by decide +kernel
theorem dX1_init_0 : decode cX1_init 0 = .ok (.aload_n 0, 1) := by decide +kernel
theorem dX1_init_1 : decode cX1_init 1 = .ok (.invokespecial 3, 3) := by decide +kernel
theorem dX1_init_4 : decode cX1_init 4 = .ok (.aload_n 0, 1) := by decide +kernel
theorem dX1_init_5 : decode cX1_init 5 = .ok (.iconst 3, 1) := by decide +kernel
theorem dX1_init_6 : decode cX1_init 6 = .ok (.newarray .int, 2) := by decide +kernel
theorem dX1_init_8 : decode cX1_init 8 = .ok (.putfield 9, 3) := by decide +kernel
theorem dX1_init_11 : decode cX1_init 11 = .ok (.aload_n 0, 1) := by decide +kernel
theorem dX1_init_12 : decode cX1_init 12 = .ok (.iconst 0, 1) := by decide +kernel
theorem dX1_init_13 : decode cX1_init 13 = .ok (.putfield 15, 3) := by decide +kernel
theorem dX1_init_16 : decode cX1_init 16 = .ok (.aload_n 0, 1) := by decide +kernel
theorem dX1_init_17 : decode cX1_init 17 = .ok (.iconst 0, 1) := by decide +kernel
theorem dX1_init_18 : decode cX1_init 18 = .ok (.putfield 19, 3) := by decide +kernel
theorem dX1_init_21 : decode cX1_init 21 = .ok (.aload_n 0, 1) := by decide +kernel
theorem dX1_init_22 : decode cX1_init 22 = .ok (.iconst 0, 1) := by decide +kernel
theorem dX1_init_23 : decode cX1_init 23 = .ok (.putfield 22, 3) := by decide +kernel
theorem dX1_init_26 : decode cX1_init 26 = .ok (.aload_n 0, 1) := by decide +kernel
theorem dX1_init_27 : decode cX1_init 27 = .ok (.iconst 0, 1) := by decide +kernel
theorem dX1_init_28 : decode cX1_init 28 = .ok (.putfield 25, 3) := by decide +kernel
theorem dX1_init_31 : decode cX1_init 31 = .ok (.aload_n 0, 1) := by decide +kernel
theorem dX1_init_32 : decode cX1_init 32 = .ok (.iconst 0, 1) := by decide +kernel
theorem dX1_init_33 : decode cX1_init 33 = .ok (.putfield 28, 3) := by decide +kernel
theorem dX1_init_36 : decode cX1_init 36 = .ok (.aload_n 0, 1) := by decide +kernel
theorem dX1_init_37 : decode cX1_init 37 = .ok (.iconst 0, 1) := by decide +kernel
theorem dX1_init_38 : decode cX1_init 38 = .ok (.putfield 31, 3) := by decide +kernel
theorem dX1_init_41 : decode cX1_init 41 = .ok (.aload_n 0, 1) := by decide +kernel
theorem dX1_init_42 : decode cX1_init 42 = .ok (.iload_n 1, 1) := by decide +kernel
theorem dX1_init_43 : decode cX1_init 43 = .ok (.putfield 34, 3) := by decide +kernel
theorem dX1_init_46 : decode cX1_init 46 = .ok (.aload_n 0, 1) := by decide +kernel
theorem dX1_init_47 : decode cX1_init 47 = .ok (.iload_n 1, 1) := by decide +kernel
theorem dX1_init_48 : decode cX1_init 48 = .ok (.newarray .int, 2) := by decide +kernel
theorem dX1_init_50 : decode cX1_init 50 = .ok (.putfield 37, 3) := by decide +kernel
theorem dX1_init_53 : decode cX1_init 53 = .ok (.aload_n 0, 1) := by decide +kernel
theorem dX1_init_54 : decode cX1_init 54 = .ok (.iload_n 1, 1) := by decide +kernel
theorem dX1_init_55 : decode cX1_init 55 = .ok (.newarray .int, 2) := by decide +kernel
theorem dX1_init_57 : decode cX1_init 57 = .ok (.putfield 40, 3) := by decide +kernel
theorem dX1_init_60 : decode cX1_init 60 = .ok (.aload_n 0, 1) := by decide +kernel
theorem dX1_init_61 : decode cX1_init 61 = .ok (.iload_n 1, 1) := by decide +kernel
theorem dX1_init_62 : decode cX1_init 62 = .ok (.newarray .int, 2) := by decide +kernel
theorem dX1_init_64 : decode cX1_init 64 = .ok (.putfield 43, 3) := by decide +kernel
theorem dX1_init_67 : decode cX1_init 67 = .ok (.aload_n 0, 1) := by decide +kernel
theorem dX1_init_68 : decode cX1_init 68 = .ok (.iload_n 1, 1) := by decide +kernel
theorem dX1_init_69 : decode cX1_init 69 = .ok (.newarray .int, 2) := by decide +kernel
theorem dX1_init_71 : decode cX1_init 71 = .ok (.putfield 46, 3) := by decide +kernel
theorem dX1_init_74 : decode cX1_init 74 = .ok (.aload_n 0, 1) := by decide +kernel
theorem dX1_init_75 : decode cX1_init 75 = .ok (.iload_n 1, 1) := by decide +kernel
theorem dX1_init_76 : decode cX1_init 76 = .ok (.newarray .int, 2) := by decide +kernel
theorem dX1_init_78 : decode cX1_init 78 = .ok (.putfield 49, 3) := by decide +kernel
theorem dX1_init_81 : decode cX1_init 81 = .ok (.aload_n 0, 1) := by decide +kernel
theorem dX1_init_82 : decode cX1_init 82 = .ok (.iload_n 1, 1) := by decide +kernel
theorem dX1_init_83 : decode cX1_init 83 = .ok (.newarray .int, 2) := by decide +kernel
theorem dX1_init_85 : decode cX1_init 85 = .ok (.putfield 52, 3) := by decide +kernel
theorem dX1_init_88 : decode cX1_init 88 = .ok (.return_, 1) := by decide +kernel
theorem dX1_start_0 : decode cX1_start 0 = .ok (.iconst 0, 1) := by decide +kernel
theorem dX1_start_1 : decode cX1_start 1 = .ok (.istore_n 3, 1) := by decide +kernel
theorem dX1_start_2 : decode cX1_start 2 = .ok (.iload_n 3, 1) := by decide +kernel
theorem dX1_start_3 : decode cX1_start 3 = .ok (.iconst 3, 1) := by decide +kernel
theorem dX1_start_4 : decode cX1_start 4 = .ok (.if_icmp .ge 21, 3) := by decide +kernel
theorem dX1_start_7 : decode cX1_start 7 = .ok (.aload_n 0, 1) := by decide +kernel
theorem dX1_start_8 : decode cX1_start 8 = .ok (.getfield 9, 3) := by decide +kernel
theorem dX1_start_11 : decode cX1_start 11 = .ok (.iload_n 3, 1) := by decide +kernel
theorem dX1_start_12 : decode cX1_start 12 = .ok (.aload_n 1, 1) := by decide +kernel
theorem dX1_start_13 : decode cX1_start 13 = .ok (.getfield 55, 3) := by decide +kernel
theorem dX1_start_16 : decode cX1_start 16 = .ok (.iload_n 3, 1) := by decide +kernel
theorem dX1_start_17 : decode cX1_start 17 = .ok (.iaload, 1) := by decide +kernel
theorem dX1_start_18 : decode cX1_start 18 = .ok (.iastore, 1) := by decide +kernel
theorem dX1_start_19 : decode cX1_start 19 = .ok (.iinc 3 1, 3) := by decide +kernel
theorem dX1_start_22 : decode cX1_start 22 = .ok (.goto (-20), 3) := by decide +kernel
theorem dX1_start_25 : decode cX1_start 25 = .ok (.aload_n 0, 1) := by decide +kernel
theorem dX1_start_26 : decode cX1_start 26 = .ok (.iload_n 2, 1) := by decide +kernel
theorem dX1_start_27 : decode cX1_start 27 = .ok (.putfield 15, 3) := by decide +kernel
theorem dX1_start_30 : decode cX1_start 30 = .ok (.aload_n 0, 1) := by decide +kernel
theorem dX1_start_31 : decode cX1_start 31 = .ok (.iconst 0, 1) := by decide +kernel
theorem dX1_start_32 : decode cX1_start 32 = .ok (.putfield 19, 3) := by decide +kernel
theorem dX1_start_35 : decode cX1_start 35 = .ok (.aload_n 0, 1) := by decide +kernel
theorem dX1_start_36 : decode cX1_start 36 = .ok (.aload_n 1, 1) := by decide +kernel
theorem dX1_start_37 : decode cX1_start 37 = .ok (.getfield 60, 3) := by decide +kernel
theorem dX1_start_40 : decode cX1_start 40 = .ok (.putfield 22, 3) := by decide +kernel
theorem dX1_start_43 : decode cX1_start 43 = .ok (.aload_n 0, 1) := by decide +kernel
theorem dX1_start_44 : decode cX1_start 44 = .ok (.iconst 0, 1) := by decide +kernel
theorem dX1_start_45 : decode cX1_start 45 = .ok (.putfield 25, 3) := by decide +kernel
theorem dX1_start_48 : decode cX1_start 48 = .ok (.aload_n 0, 1) := by decide +kernel
theorem dX1_start_49 : decode cX1_start 49 = .ok (.iconst 0, 1) := by decide +kernel
theorem dX1_start_50 : decode cX1_start 50 = .ok (.putfield 28, 3) := by decide +kernel
theorem dX1_start_53 : decode cX1_start 53 = .ok (.aload_n 0, 1) := by decide +kernel
theorem dX1_start_54 : decode cX1_start 54 = .ok (.iconst 0, 1) := by decide +kernel
theorem dX1_start_55 : decode cX1_start 55 = .ok (.putfield 31, 3) := by decide +kernel
theorem dX1_start_58 : decode cX1_start 58 = .ok (.return_, 1) := by decide +kernel
theorem dX1_canFall_0 : decode cX1_canFall 0 = .ok (.aload_n 1, 1) := by decide +kernel
theorem dX1_canFall_1 : decode cX1_canFall 1 = .ok (.iload_n 2, 1) := by decide +kernel
theorem dX1_canFall_2 : decode cX1_canFall 2 = .ok (.invokevirtual 62, 3) := by decide +kernel
theorem dX1_canFall_5 : decode cX1_canFall 5 = .ok (.ifCond .eq 35, 3) := by decide +kernel
theorem dX1_canFall_8 : decode cX1_canFall 8 = .ok (.aload_n 1, 1) := by decide +kernel
theorem dX1_canFall_9 : decode cX1_canFall 9 = .ok (.iload_n 3, 1) := by decide +kernel
theorem dX1_canFall_10 : decode cX1_canFall 10 = .ok (.invokevirtual 66, 3) := by decide +kernel
theorem dX1_canFall_13 : decode cX1_canFall 13 = .ok (.ifCond .eq 27, 3) := by decide +kernel
theorem dX1_canFall_16 : decode cX1_canFall 16 = .ok (.aload_n 0, 1) := by decide +kernel
theorem dX1_canFall_17 : decode cX1_canFall 17 = .ok (.getfield 9, 3) := by decide +kernel
theorem dX1_canFall_20 : decode cX1_canFall 20 = .ok (.iload_n 2, 1) := by decide +kernel
theorem dX1_canFall_21 : decode cX1_canFall 21 = .ok (.iaload, 1) := by decide +kernel
theorem dX1_canFall_22 : decode cX1_canFall 22 = .ok (.ifCond .le 18, 3) := by decide +kernel
theorem dX1_canFall_25 : decode cX1_canFall 25 = .ok (.aload_n 0, 1) := by decide +kernel
theorem dX1_canFall_26 : decode cX1_canFall 26 = .ok (.getfield 25, 3) := by decide +kernel
theorem dX1_canFall_29 : decode cX1_canFall 29 = .ok (.aload_n 0, 1) := by decide +kernel
theorem dX1_canFall_30 : decode cX1_canFall 30 = .ok (.getfield 34, 3) := by decide +kernel
theorem dX1_canFall_33 : decode cX1_canFall 33 = .ok (.if_icmp .ge 7, 3) := by decide +kernel
theorem dX1_canFall_36 : decode cX1_canFall 36 = .ok (.iconst 1, 1) := by decide +kernel
theorem dX1_canFall_37 : decode cX1_canFall 37 = .ok (.goto 4, 3) := by decide +kernel
theorem dX1_canFall_40 : decode cX1_canFall 40 = .ok (.iconst 0, 1) := by decide +kernel
theorem dX1_canFall_41 : decode cX1_canFall 41 = .ok (.ireturn, 1) := by decide +kernel
theorem dX1_letFall_0 : decode cX1_letFall 0 = .ok (.aload_n 1, 1) := by decide +kernel
theorem dX1_letFall_1 : decode cX1_letFall 1 = .ok (.iload_n 2, 1) := by decide +kernel
theorem dX1_letFall_2 : decode cX1_letFall 2 = .ok (.iload_n 3, 1) := by decide +kernel
theorem dX1_letFall_3 : decode cX1_letFall 3 = .ok (.aload_n 0, 1) := by decide +kernel
theorem dX1_letFall_4 : decode cX1_letFall 4 = .ok (.getfield 15, 3) := by decide +kernel
theorem dX1_letFall_7 : decode cX1_letFall 7 = .ok (.invokevirtual 69, 3) := by decide +kernel
theorem dX1_letFall_10 : decode cX1_letFall 10 = .ok (.istore 4, 2) := by decide +kernel
theorem dX1_letFall_12 : decode cX1_letFall 12 = .ok (.aload_n 0, 1) := by decide +kernel
theorem dX1_letFall_13 : decode cX1_letFall 13 = .ok (.getfield 37, 3) := by decide +kernel
theorem dX1_letFall_16 : decode cX1_letFall 16 = .ok (.aload_n 0, 1) := by decide +kernel
theorem dX1_letFall_17 : decode cX1_letFall 17 = .ok (.getfield 25, 3) := by decide +kernel
theorem dX1_letFall_20 : decode cX1_letFall 20 = .ok (.iload_n 2, 1) := by decide +kernel
theorem dX1_letFall_21 : decode cX1_letFall 21 = .ok (.iastore, 1) := by decide +kernel
theorem dX1_letFall_22 : decode cX1_letFall 22 = .ok (.aload_n 0, 1) := by decide +kernel
theorem dX1_letFall_23 : decode cX1_letFall 23 = .ok (.getfield 40, 3) := by decide +kernel
theorem dX1_letFall_26 : decode cX1_letFall 26 = .ok (.aload_n 0, 1) := by decide +kernel
theorem dX1_letFall_27 : decode cX1_letFall 27 = .ok (.getfield 25, 3) := by decide +kernel
theorem dX1_letFall_30 : decode cX1_letFall 30 = .ok (.iload_n 3, 1) := by decide +kernel
theorem dX1_letFall_31 : decode cX1_letFall 31 = .ok (.iastore, 1) := by decide +kernel
theorem dX1_letFall_32 : decode cX1_letFall 32 = .ok (.aload_n 0, 1) := by decide +kernel
theorem dX1_letFall_33 : decode cX1_letFall 33 = .ok (.getfield 43, 3) := by decide +kernel
theorem dX1_letFall_36 : decode cX1_letFall 36 = .ok (.aload_n 0, 1) := by decide +kernel
theorem dX1_letFall_37 : decode cX1_letFall 37 = .ok (.getfield 25, 3) := by decide +kernel
theorem dX1_letFall_40 : decode cX1_letFall 40 = .ok (.iload 4, 2) := by decide +kernel
theorem dX1_letFall_42 : decode cX1_letFall 42 = .ok (.ifCond .eq 7, 3) := by decide +kernel
theorem dX1_letFall_45 : decode cX1_letFall 45 = .ok (.iconst 1, 1) := by decide +kernel
theorem dX1_letFall_46 : decode cX1_letFall 46 = .ok (.goto 4, 3) := by decide +kernel
theorem dX1_letFall_49 : decode cX1_letFall 49 = .ok (.iconst 0, 1) := by decide +kernel
theorem dX1_letFall_50 : decode cX1_letFall 50 = .ok (.iastore, 1) := by decide +kernel
theorem dX1_letFall_51 : decode cX1_letFall 51 = .ok (.aload_n 0, 1) := by decide +kernel
theorem dX1_letFall_52 : decode cX1_letFall 52 = .ok (.getfield 46, 3) := by decide +kernel
theorem dX1_letFall_55 : decode cX1_letFall 55 = .ok (.aload_n 0, 1) := by decide +kernel
theorem dX1_letFall_56 : decode cX1_letFall 56 = .ok (.getfield 25, 3) := by decide +kernel
theorem dX1_letFall_59 : decode cX1_letFall 59 = .ok (.aload_n 0, 1) := by decide +kernel
theorem dX1_letFall_60 : decode cX1_letFall 60 = .ok (.getfield 19, 3) := by decide +kernel
theorem dX1_letFall_63 : decode cX1_letFall 63 = .ok (.iastore, 1) := by decide +kernel
theorem dX1_letFall_64 : decode cX1_letFall 64 = .ok (.aload_n 0, 1) := by decide +kernel
theorem dX1_letFall_65 : decode cX1_letFall 65 = .ok (.getfield 49, 3) := by decide +kernel
theorem dX1_letFall_68 : decode cX1_letFall 68 = .ok (.aload_n 0, 1) := by decide +kernel
theorem dX1_letFall_69 : decode cX1_letFall 69 = .ok (.getfield 25, 3) := by decide +kernel
theorem dX1_letFall_72 : decode cX1_letFall 72 = .ok (.aload_n 0, 1) := by decide +kernel
theorem dX1_letFall_73 : decode cX1_letFall 73 = .ok (.getfield 22, 3) := by decide +kernel
theorem dX1_letFall_76 : decode cX1_letFall 76 = .ok (.iastore, 1) := by decide +kernel
theorem dX1_letFall_77 : decode cX1_letFall 77 = .ok (.aload_n 0, 1) := by decide +kernel
theorem dX1_letFall_78 : decode cX1_letFall 78 = .ok (.getfield 52, 3) := by decide +kernel
theorem dX1_letFall_81 : decode cX1_letFall 81 = .ok (.aload_n 0, 1) := by decide +kernel
theorem dX1_letFall_82 : decode cX1_letFall 82 = .ok (.getfield 25, 3) := by decide +kernel
theorem dX1_letFall_85 : decode cX1_letFall 85 = .ok (.aload_n 0, 1) := by decide +kernel
theorem dX1_letFall_86 : decode cX1_letFall 86 = .ok (.getfield 31, 3) := by decide +kernel
theorem dX1_letFall_89 : decode cX1_letFall 89 = .ok (.iastore, 1) := by decide +kernel
theorem dX1_letFall_90 : decode cX1_letFall 90 = .ok (.aload_n 0, 1) := by decide +kernel
theorem dX1_letFall_91 : decode cX1_letFall 91 = .ok (.dup, 1) := by decide +kernel
theorem dX1_letFall_92 : decode cX1_letFall 92 = .ok (.getfield 25, 3) := by decide +kernel
theorem dX1_letFall_95 : decode cX1_letFall 95 = .ok (.iconst 1, 1) := by decide +kernel
theorem dX1_letFall_96 : decode cX1_letFall 96 = .ok (.iadd, 1) := by decide +kernel
theorem dX1_letFall_97 : decode cX1_letFall 97 = .ok (.putfield 25, 3) := by decide +kernel
theorem dX1_letFall_100 : decode cX1_letFall 100 = .ok (.iload_n 3, 1) := by decide +kernel
theorem dX1_letFall_101 : decode cX1_letFall 101 = .ok (.aload_n 1, 1) := by decide +kernel
theorem dX1_letFall_102 : decode cX1_letFall 102 = .ok (.getfield 73, 3) := by decide +kernel
theorem dX1_letFall_105 : decode cX1_letFall 105 = .ok (.iload_n 2, 1) := by decide +kernel
theorem dX1_letFall_106 : decode cX1_letFall 106 = .ok (.iaload, 1) := by decide +kernel
theorem dX1_letFall_107 : decode cX1_letFall 107 = .ok (.isub, 1) := by decide +kernel
theorem dX1_letFall_108 : decode cX1_letFall 108 = .ok (.istore 5, 2) := by decide +kernel
theorem dX1_letFall_110 : decode cX1_letFall 110 = .ok (.iload 4, 2) := by decide +kernel
theorem dX1_letFall_112 : decode cX1_letFall 112 = .ok (.ifCond .eq 41, 3) := by decide +kernel
theorem dX1_letFall_115 : decode cX1_letFall 115 = .ok (.aload_n 0, 1) := by decide +kernel
theorem dX1_letFall_116 : decode cX1_letFall 116 = .ok (.aload_n 0, 1) := by decide +kernel
theorem dX1_letFall_117 : decode cX1_letFall 117 = .ok (.getfield 22, 3) := by decide +kernel
theorem dX1_letFall_120 : decode cX1_letFall 120 = .ok (.iload 5, 2) := by decide +kernel
theorem dX1_letFall_122 : decode cX1_letFall 122 = .ok (.iconst 1, 1) := by decide +kernel
theorem dX1_letFall_123 : decode cX1_letFall 123 = .ok (.isub, 1) := by decide +kernel
theorem dX1_letFall_124 : decode cX1_letFall 124 = .ok (.invokestatic 76, 3) := by decide +kernel
theorem dX1_letFall_127 : decode cX1_letFall 127 = .ok (.putfield 22, 3) := by decide +kernel
theorem dX1_letFall_130 : decode cX1_letFall 130 = .ok (.aload_n 0, 1) := by decide +kernel
theorem dX1_letFall_131 : decode cX1_letFall 131 = .ok (.getfield 9, 3) := by decide +kernel
theorem dX1_letFall_134 : decode cX1_letFall 134 = .ok (.iload_n 2, 1) := by decide +kernel
theorem dX1_letFall_135 : decode cX1_letFall 135 = .ok (.dup2, 1) := by decide +kernel
theorem dX1_letFall_136 : decode cX1_letFall 136 = .ok (.iaload, 1) := by decide +kernel
theorem dX1_letFall_137 : decode cX1_letFall 137 = .ok (.iconst 1, 1) := by decide +kernel
theorem dX1_letFall_138 : decode cX1_letFall 138 = .ok (.isub, 1) := by decide +kernel
theorem dX1_letFall_139 : decode cX1_letFall 139 = .ok (.iastore, 1) := by decide +kernel
theorem dX1_letFall_140 : decode cX1_letFall 140 = .ok (.aload_n 0, 1) := by decide +kernel
theorem dX1_letFall_141 : decode cX1_letFall 141 = .ok (.dup, 1) := by decide +kernel
theorem dX1_letFall_142 : decode cX1_letFall 142 = .ok (.getfield 28, 3) := by decide +kernel
theorem dX1_letFall_145 : decode cX1_letFall 145 = .ok (.iconst 1, 1) := by decide +kernel
theorem dX1_letFall_146 : decode cX1_letFall 146 = .ok (.iadd, 1) := by decide +kernel
theorem dX1_letFall_147 : decode cX1_letFall 147 = .ok (.putfield 28, 3) := by decide +kernel
theorem dX1_letFall_150 : decode cX1_letFall 150 = .ok (.goto 16, 3) := by decide +kernel
theorem dX1_letFall_153 : decode cX1_letFall 153 = .ok (.aload_n 0, 1) := by decide +kernel
theorem dX1_letFall_154 : decode cX1_letFall 154 = .ok (.aload_n 0, 1) := by decide +kernel
theorem dX1_letFall_155 : decode cX1_letFall 155 = .ok (.getfield 19, 3) := by decide +kernel
theorem dX1_letFall_158 : decode cX1_letFall 158 = .ok (.iload 5, 2) := by decide +kernel
theorem dX1_letFall_160 : decode cX1_letFall 160 = .ok (.invokestatic 82, 3) := by decide +kernel
theorem dX1_letFall_163 : decode cX1_letFall 163 = .ok (.putfield 19, 3) := by decide +kernel
theorem dX1_letFall_166 : decode cX1_letFall 166 = .ok (.aload_n 0, 1) := by decide +kernel
theorem dX1_letFall_167 : decode cX1_letFall 167 = .ok (.dup, 1) := by decide +kernel
theorem dX1_letFall_168 : decode cX1_letFall 168 = .ok (.getfield 31, 3) := by decide +kernel
theorem dX1_letFall_171 : decode cX1_letFall 171 = .ok (.aload_n 1, 1) := by decide +kernel
theorem dX1_letFall_172 : decode cX1_letFall 172 = .ok (.iload_n 2, 1) := by decide +kernel
theorem dX1_letFall_173 : decode cX1_letFall 173 = .ok (.iload_n 3, 1) := by decide +kernel
theorem dX1_letFall_174 : decode cX1_letFall 174 = .ok (.iload 4, 2) := by decide +kernel
theorem dX1_letFall_176 : decode cX1_letFall 176 = .ok (.invokevirtual 85, 3) := by decide +kernel
theorem dX1_letFall_179 : decode cX1_letFall 179 = .ok (.iadd, 1) := by decide +kernel
theorem dX1_letFall_180 : decode cX1_letFall 180 = .ok (.putfield 31, 3) := by decide +kernel
theorem dX1_letFall_183 : decode cX1_letFall 183 = .ok (.iload 4, 2) := by decide +kernel
theorem dX1_letFall_185 : decode cX1_letFall 185 = .ok (.ireturn, 1) := by decide +kernel
theorem dX1_takeBack_0 : decode cX1_takeBack 0 = .ok (.aload_n 0, 1) := by decide +kernel
theorem dX1_takeBack_1 : decode cX1_takeBack 1 = .ok (.getfield 25, 3) := by decide +kernel
theorem dX1_takeBack_4 : decode cX1_takeBack 4 = .ok (.ifCond .le 96, 3) := by decide +kernel
theorem dX1_takeBack_7 : decode cX1_takeBack 7 = .ok (.aload_n 0, 1) := by decide +kernel
theorem dX1_takeBack_8 : decode cX1_takeBack 8 = .ok (.dup, 1) := by decide +kernel
theorem dX1_takeBack_9 : decode cX1_takeBack 9 = .ok (.getfield 25, 3) := by decide +kernel
theorem dX1_takeBack_12 : decode cX1_takeBack 12 = .ok (.iconst 1, 1) := by decide +kernel
theorem dX1_takeBack_13 : decode cX1_takeBack 13 = .ok (.isub, 1) := by decide +kernel
theorem dX1_takeBack_14 : decode cX1_takeBack 14 = .ok (.putfield 25, 3) := by decide +kernel
theorem dX1_takeBack_17 : decode cX1_takeBack 17 = .ok (.aload_n 0, 1) := by decide +kernel
theorem dX1_takeBack_18 : decode cX1_takeBack 18 = .ok (.aload_n 0, 1) := by decide +kernel
theorem dX1_takeBack_19 : decode cX1_takeBack 19 = .ok (.getfield 46, 3) := by decide +kernel
theorem dX1_takeBack_22 : decode cX1_takeBack 22 = .ok (.aload_n 0, 1) := by decide +kernel
theorem dX1_takeBack_23 : decode cX1_takeBack 23 = .ok (.getfield 25, 3) := by decide +kernel
theorem dX1_takeBack_26 : decode cX1_takeBack 26 = .ok (.iaload, 1) := by decide +kernel
theorem dX1_takeBack_27 : decode cX1_takeBack 27 = .ok (.putfield 19, 3) := by decide +kernel
theorem dX1_takeBack_30 : decode cX1_takeBack 30 = .ok (.aload_n 0, 1) := by decide +kernel
theorem dX1_takeBack_31 : decode cX1_takeBack 31 = .ok (.aload_n 0, 1) := by decide +kernel
theorem dX1_takeBack_32 : decode cX1_takeBack 32 = .ok (.getfield 49, 3) := by decide +kernel
theorem dX1_takeBack_35 : decode cX1_takeBack 35 = .ok (.aload_n 0, 1) := by decide +kernel
theorem dX1_takeBack_36 : decode cX1_takeBack 36 = .ok (.getfield 25, 3) := by decide +kernel
theorem dX1_takeBack_39 : decode cX1_takeBack 39 = .ok (.iaload, 1) := by decide +kernel
theorem dX1_takeBack_40 : decode cX1_takeBack 40 = .ok (.putfield 22, 3) := by decide +kernel
theorem dX1_takeBack_43 : decode cX1_takeBack 43 = .ok (.aload_n 0, 1) := by decide +kernel
theorem dX1_takeBack_44 : decode cX1_takeBack 44 = .ok (.aload_n 0, 1) := by decide +kernel
theorem dX1_takeBack_45 : decode cX1_takeBack 45 = .ok (.getfield 52, 3) := by decide +kernel
theorem dX1_takeBack_48 : decode cX1_takeBack 48 = .ok (.aload_n 0, 1) := by decide +kernel
theorem dX1_takeBack_49 : decode cX1_takeBack 49 = .ok (.getfield 25, 3) := by decide +kernel
theorem dX1_takeBack_52 : decode cX1_takeBack 52 = .ok (.iaload, 1) := by decide +kernel
theorem dX1_takeBack_53 : decode cX1_takeBack 53 = .ok (.putfield 31, 3) := by decide +kernel
theorem dX1_takeBack_56 : decode cX1_takeBack 56 = .ok (.aload_n 0, 1) := by decide +kernel
theorem dX1_takeBack_57 : decode cX1_takeBack 57 = .ok (.getfield 9, 3) := by decide +kernel
theorem dX1_takeBack_60 : decode cX1_takeBack 60 = .ok (.aload_n 0, 1) := by decide +kernel
theorem dX1_takeBack_61 : decode cX1_takeBack 61 = .ok (.getfield 37, 3) := by decide +kernel
theorem dX1_takeBack_64 : decode cX1_takeBack 64 = .ok (.aload_n 0, 1) := by decide +kernel
theorem dX1_takeBack_65 : decode cX1_takeBack 65 = .ok (.getfield 25, 3) := by decide +kernel
theorem dX1_takeBack_68 : decode cX1_takeBack 68 = .ok (.iaload, 1) := by decide +kernel
theorem dX1_takeBack_69 : decode cX1_takeBack 69 = .ok (.dup2, 1) := by decide +kernel
theorem dX1_takeBack_70 : decode cX1_takeBack 70 = .ok (.iaload, 1) := by decide +kernel
theorem dX1_takeBack_71 : decode cX1_takeBack 71 = .ok (.aload_n 0, 1) := by decide +kernel
theorem dX1_takeBack_72 : decode cX1_takeBack 72 = .ok (.getfield 43, 3) := by decide +kernel
theorem dX1_takeBack_75 : decode cX1_takeBack 75 = .ok (.aload_n 0, 1) := by decide +kernel
theorem dX1_takeBack_76 : decode cX1_takeBack 76 = .ok (.getfield 25, 3) := by decide +kernel
theorem dX1_takeBack_79 : decode cX1_takeBack 79 = .ok (.iaload, 1) := by decide +kernel
theorem dX1_takeBack_80 : decode cX1_takeBack 80 = .ok (.iadd, 1) := by decide +kernel
theorem dX1_takeBack_81 : decode cX1_takeBack 81 = .ok (.iastore, 1) := by decide +kernel
theorem dX1_takeBack_82 : decode cX1_takeBack 82 = .ok (.aload_n 0, 1) := by decide +kernel
theorem dX1_takeBack_83 : decode cX1_takeBack 83 = .ok (.dup, 1) := by decide +kernel
theorem dX1_takeBack_84 : decode cX1_takeBack 84 = .ok (.getfield 28, 3) := by decide +kernel
theorem dX1_takeBack_87 : decode cX1_takeBack 87 = .ok (.aload_n 0, 1) := by decide +kernel
theorem dX1_takeBack_88 : decode cX1_takeBack 88 = .ok (.getfield 43, 3) := by decide +kernel
theorem dX1_takeBack_91 : decode cX1_takeBack 91 = .ok (.aload_n 0, 1) := by decide +kernel
theorem dX1_takeBack_92 : decode cX1_takeBack 92 = .ok (.getfield 25, 3) := by decide +kernel
theorem dX1_takeBack_95 : decode cX1_takeBack 95 = .ok (.iaload, 1) := by decide +kernel
theorem dX1_takeBack_96 : decode cX1_takeBack 96 = .ok (.isub, 1) := by decide +kernel
theorem dX1_takeBack_97 : decode cX1_takeBack 97 = .ok (.putfield 28, 3) := by decide +kernel
theorem dX1_takeBack_100 : decode cX1_takeBack 100 = .ok (.return_, 1) := by decide +kernel
theorem dX1_recall_0 : decode cX1_recall 0 = .ok (.iload_n 1, 1) := by decide +kernel
theorem dX1_recall_1 : decode cX1_recall 1 = .ok (.ifCond .lt 11, 3) := by decide +kernel
theorem dX1_recall_4 : decode cX1_recall 4 = .ok (.iload_n 1, 1) := by decide +kernel
theorem dX1_recall_5 : decode cX1_recall 5 = .ok (.aload_n 0, 1) := by decide +kernel
theorem dX1_recall_6 : decode cX1_recall 6 = .ok (.getfield 25, 3) := by decide +kernel
theorem dX1_recall_9 : decode cX1_recall 9 = .ok (.if_icmp .lt 5, 3) := by decide +kernel
theorem dX1_recall_12 : decode cX1_recall 12 = .ok (.iconst (-1), 1) := by decide +kernel
theorem dX1_recall_13 : decode cX1_recall 13 = .ok (.ireturn, 1) := by decide +kernel
theorem dX1_recall_14 : decode cX1_recall 14 = .ok (.iload_n 2, 1) := by decide +kernel
theorem dX1_recall_15 : decode cX1_recall 15 = .ok (.ifCond .ne 12, 3) := by decide +kernel
theorem dX1_recall_18 : decode cX1_recall 18 = .ok (.aload_n 0, 1) := by decide +kernel
theorem dX1_recall_19 : decode cX1_recall 19 = .ok (.getfield 37, 3) := by decide +kernel
theorem dX1_recall_22 : decode cX1_recall 22 = .ok (.iload_n 1, 1) := by decide +kernel
theorem dX1_recall_23 : decode cX1_recall 23 = .ok (.iaload, 1) := by decide +kernel
theorem dX1_recall_24 : decode cX1_recall 24 = .ok (.goto 23, 3) := by decide +kernel
theorem dX1_recall_27 : decode cX1_recall 27 = .ok (.iload_n 2, 1) := by decide +kernel
theorem dX1_recall_28 : decode cX1_recall 28 = .ok (.iconst 1, 1) := by decide +kernel
theorem dX1_recall_29 : decode cX1_recall 29 = .ok (.if_icmp .ne 12, 3) := by decide +kernel
theorem dX1_recall_32 : decode cX1_recall 32 = .ok (.aload_n 0, 1) := by decide +kernel
theorem dX1_recall_33 : decode cX1_recall 33 = .ok (.getfield 40, 3) := by decide +kernel
theorem dX1_recall_36 : decode cX1_recall 36 = .ok (.iload_n 1, 1) := by decide +kernel
theorem dX1_recall_37 : decode cX1_recall 37 = .ok (.iaload, 1) := by decide +kernel
theorem dX1_recall_38 : decode cX1_recall 38 = .ok (.goto 9, 3) := by decide +kernel
theorem dX1_recall_41 : decode cX1_recall 41 = .ok (.aload_n 0, 1) := by decide +kernel
theorem dX1_recall_42 : decode cX1_recall 42 = .ok (.getfield 43, 3) := by decide +kernel
theorem dX1_recall_45 : decode cX1_recall 45 = .ok (.iload_n 1, 1) := by decide +kernel
theorem dX1_recall_46 : decode cX1_recall 46 = .ok (.iaload, 1) := by decide +kernel
theorem dX1_recall_47 : decode cX1_recall 47 = .ok (.ireturn, 1) := by decide +kernel
theorem dX1_leftCode_0 : decode cX1_leftCode 0 = .ok (.aload_n 0, 1) := by decide +kernel
theorem dX1_leftCode_1 : decode cX1_leftCode 1 = .ok (.getfield 9, 3) := by decide +kernel
theorem dX1_leftCode_4 : decode cX1_leftCode 4 = .ok (.iconst 0, 1) := by decide +kernel
theorem dX1_leftCode_5 : decode cX1_leftCode 5 = .ok (.iaload, 1) := by decide +kernel
theorem dX1_leftCode_6 : decode cX1_leftCode 6 = .ok (.iconst 5, 1) := by decide +kernel
theorem dX1_leftCode_7 : decode cX1_leftCode 7 = .ok (.aload_n 0, 1) := by decide +kernel
theorem dX1_leftCode_8 : decode cX1_leftCode 8 = .ok (.getfield 9, 3) := by decide +kernel
theorem dX1_leftCode_11 : decode cX1_leftCode 11 = .ok (.iconst 1, 1) := by decide +kernel
theorem dX1_leftCode_12 : decode cX1_leftCode 12 = .ok (.iaload, 1) := by decide +kernel
theorem dX1_leftCode_13 : decode cX1_leftCode 13 = .ok (.imul, 1) := by decide +kernel
theorem dX1_leftCode_14 : decode cX1_leftCode 14 = .ok (.iadd, 1) := by decide +kernel
theorem dX1_leftCode_15 : decode cX1_leftCode 15 = .ok (.bipush 25, 2) := by decide +kernel
theorem dX1_leftCode_17 : decode cX1_leftCode 17 = .ok (.aload_n 0, 1) := by decide +kernel
theorem dX1_leftCode_18 : decode cX1_leftCode 18 = .ok (.getfield 9, 3) := by decide +kernel
theorem dX1_leftCode_21 : decode cX1_leftCode 21 = .ok (.iconst 2, 1) := by decide +kernel
theorem dX1_leftCode_22 : decode cX1_leftCode 22 = .ok (.iaload, 1) := by decide +kernel
theorem dX1_leftCode_23 : decode cX1_leftCode 23 = .ok (.imul, 1) := by decide +kernel
theorem dX1_leftCode_24 : decode cX1_leftCode 24 = .ok (.iadd, 1) := by decide +kernel
theorem dX1_leftCode_25 : decode cX1_leftCode 25 = .ok (.ireturn, 1) := by decide +kernel
theorem dX1_lastStep_0 : decode cX1_lastStep 0 = .ok (.aload_n 0, 1) := by decide +kernel
theorem dX1_lastStep_1 : decode cX1_lastStep 1 = .ok (.getfield 25, 3) := by decide +kernel
theorem dX1_lastStep_4 : decode cX1_lastStep 4 = .ok (.ifCond .le 17, 3) := by decide +kernel
theorem dX1_lastStep_7 : decode cX1_lastStep 7 = .ok (.aload_n 0, 1) := by decide +kernel
theorem dX1_lastStep_8 : decode cX1_lastStep 8 = .ok (.getfield 40, 3) := by decide +kernel
theorem dX1_lastStep_11 : decode cX1_lastStep 11 = .ok (.aload_n 0, 1) := by decide +kernel
theorem dX1_lastStep_12 : decode cX1_lastStep 12 = .ok (.getfield 25, 3) := by decide +kernel
theorem dX1_lastStep_15 : decode cX1_lastStep 15 = .ok (.iconst 1, 1) := by decide +kernel
theorem dX1_lastStep_16 : decode cX1_lastStep 16 = .ok (.isub, 1) := by decide +kernel
theorem dX1_lastStep_17 : decode cX1_lastStep 17 = .ok (.iaload, 1) := by decide +kernel
theorem dX1_lastStep_18 : decode cX1_lastStep 18 = .ok (.goto 4, 3) := by decide +kernel
theorem dX1_lastStep_21 : decode cX1_lastStep 21 = .ok (.iconst 0, 1) := by decide +kernel
theorem dX1_lastStep_22 : decode cX1_lastStep 22 = .ok (.ireturn, 1) := by decide +kernel
theorem dX1_lastBroke_0 : decode cX1_lastBroke 0 = .ok (.aload_n 0, 1) := by decide +kernel
theorem dX1_lastBroke_1 : decode cX1_lastBroke 1 = .ok (.getfield 25, 3) := by decide +kernel
theorem dX1_lastBroke_4 : decode cX1_lastBroke 4 = .ok (.ifCond .le 17, 3) := by decide +kernel
theorem dX1_lastBroke_7 : decode cX1_lastBroke 7 = .ok (.aload_n 0, 1) := by decide +kernel
theorem dX1_lastBroke_8 : decode cX1_lastBroke 8 = .ok (.getfield 43, 3) := by decide +kernel
theorem dX1_lastBroke_11 : decode cX1_lastBroke 11 = .ok (.aload_n 0, 1) := by decide +kernel
theorem dX1_lastBroke_12 : decode cX1_lastBroke 12 = .ok (.getfield 25, 3) := by decide +kernel
theorem dX1_lastBroke_15 : decode cX1_lastBroke 15 = .ok (.iconst 1, 1) := by decide +kernel
theorem dX1_lastBroke_16 : decode cX1_lastBroke 16 = .ok (.isub, 1) := by decide +kernel
theorem dX1_lastBroke_17 : decode cX1_lastBroke 17 = .ok (.iaload, 1) := by decide +kernel
theorem dX1_lastBroke_18 : decode cX1_lastBroke 18 = .ok (.goto 4, 3) := by decide +kernel
theorem dX1_lastBroke_21 : decode cX1_lastBroke 21 = .ok (.iconst 0, 1) := by decide +kernel
theorem dX1_lastBroke_22 : decode cX1_lastBroke 22 = .ok (.ireturn, 1) := by decide +kernel
theorem dX2_init_0 : decode cX2_init 0 = .ok (.aload_n 0, 1) := by decide +kernel
theorem dX2_init_1 : decode cX2_init 1 = .ok (.invokespecial 3, 3) := by decide +kernel
theorem dX2_init_4 : decode cX2_init 4 = .ok (.aload_n 0, 1) := by decide +kernel
theorem dX2_init_5 : decode cX2_init 5 = .ok (.iconst 0, 1) := by decide +kernel
theorem dX2_init_6 : decode cX2_init 6 = .ok (.newarray .byte, 2) := by decide +kernel
theorem dX2_init_8 : decode cX2_init 8 = .ok (.putfield 9, 3) := by decide +kernel
theorem dX2_init_11 : decode cX2_init 11 = .ok (.aload_n 0, 1) := by decide +kernel
theorem dX2_init_12 : decode cX2_init 12 = .ok (.iconst 0, 1) := by decide +kernel
theorem dX2_init_13 : decode cX2_init 13 = .ok (.putfield 15, 3) := by decide +kernel
theorem dX2_init_16 : decode cX2_init 16 = .ok (.return_, 1) := by decide +kernel
theorem dX2_fewestFalls_0 : decode cX2_fewestFalls 0 = .ok (.iconst 1, 1) := by decide +kernel
theorem dX2_fewestFalls_1 : decode cX2_fewestFalls 1 = .ok (.iconst 2, 1) := by decide +kernel
theorem dX2_fewestFalls_2 : decode cX2_fewestFalls 2 = .ok (.iload_n 1, 1) := by decide +kernel
theorem dX2_fewestFalls_3 : decode cX2_fewestFalls 3 = .ok (.iconst 1, 1) := by decide +kernel
theorem dX2_fewestFalls_4 : decode cX2_fewestFalls 4 = .ok (.iadd, 1) := by decide +kernel
theorem dX2_fewestFalls_5 : decode cX2_fewestFalls 5 = .ok (.imul, 1) := by decide +kernel
theorem dX2_fewestFalls_6 : decode cX2_fewestFalls 6 = .ok (.ishl, 1) := by decide +kernel
theorem dX2_fewestFalls_7 : decode cX2_fewestFalls 7 = .ok (.istore_n 3, 1) := by decide +kernel
theorem dX2_fewestFalls_8 : decode cX2_fewestFalls 8 = .ok (.aload_n 0, 1) := by decide +kernel
theorem dX2_fewestFalls_9 : decode cX2_fewestFalls 9 = .ok (.getfield 9, 3) := by decide +kernel
theorem dX2_fewestFalls_12 : decode cX2_fewestFalls 12 = .ok (.arraylength, 1) := by decide +kernel
theorem dX2_fewestFalls_13 : decode cX2_fewestFalls 13 = .ok (.iload_n 3, 1) := by decide +kernel
theorem dX2_fewestFalls_14 : decode cX2_fewestFalls 14 = .ok (.if_icmp .ge 15, 3) := by decide +kernel
theorem dX2_fewestFalls_17 : decode cX2_fewestFalls 17 = .ok (.aload_n 0, 1) := by decide +kernel
theorem dX2_fewestFalls_18 : decode cX2_fewestFalls 18 = .ok (.aload_n 0, 1) := by decide +kernel
theorem dX2_fewestFalls_19 : decode cX2_fewestFalls 19 = .ok (.getfield 9, 3) := by decide +kernel
theorem dX2_fewestFalls_22 : decode cX2_fewestFalls 22 = .ok (.iload_n 3, 1) := by decide +kernel
theorem dX2_fewestFalls_23 : decode cX2_fewestFalls 23 = .ok (.invokestatic 19, 3) := by decide +kernel
theorem dX2_fewestFalls_26 : decode cX2_fewestFalls 26 = .ok (.putfield 9, 3) := by decide +kernel
theorem dX2_fewestFalls_29 : decode cX2_fewestFalls 29 = .ok (.iload_n 2, 1) := by decide +kernel
theorem dX2_fewestFalls_30 : decode cX2_fewestFalls 30 = .ok (.iconst 1, 1) := by decide +kernel
theorem dX2_fewestFalls_31 : decode cX2_fewestFalls 31 = .ok (.iadd, 1) := by decide +kernel
theorem dX2_fewestFalls_32 : decode cX2_fewestFalls 32 = .ok (.sipush 21845, 3) := by decide +kernel
theorem dX2_fewestFalls_35 : decode cX2_fewestFalls 35 = .ok (.iload_n 3, 1) := by decide +kernel
theorem dX2_fewestFalls_36 : decode cX2_fewestFalls 36 = .ok (.iconst 1, 1) := by decide +kernel
theorem dX2_fewestFalls_37 : decode cX2_fewestFalls 37 = .ok (.isub, 1) := by decide +kernel
theorem dX2_fewestFalls_38 : decode cX2_fewestFalls 38 = .ok (.iand, 1) := by decide +kernel
theorem dX2_fewestFalls_39 : decode cX2_fewestFalls 39 = .ok (.imul, 1) := by decide +kernel
theorem dX2_fewestFalls_40 : decode cX2_fewestFalls 40 = .ok (.istore 4, 2) := by decide +kernel
theorem dX2_fewestFalls_42 : decode cX2_fewestFalls 42 = .ok (.aload_n 0, 1) := by decide +kernel
theorem dX2_fewestFalls_43 : decode cX2_fewestFalls 43 = .ok (.getfield 15, 3) := by decide +kernel
theorem dX2_fewestFalls_46 : decode cX2_fewestFalls 46 = .ok (.iload 4, 2) := by decide +kernel
theorem dX2_fewestFalls_48 : decode cX2_fewestFalls 48 = .ok (.if_icmp .gt 34, 3) := by decide +kernel
theorem dX2_fewestFalls_51 : decode cX2_fewestFalls 51 = .ok (.aload_n 0, 1) := by decide +kernel
theorem dX2_fewestFalls_52 : decode cX2_fewestFalls 52 = .ok (.getfield 9, 3) := by decide +kernel
theorem dX2_fewestFalls_55 : decode cX2_fewestFalls 55 = .ok (.aload_n 0, 1) := by decide +kernel
theorem dX2_fewestFalls_56 : decode cX2_fewestFalls 56 = .ok (.getfield 15, 3) := by decide +kernel
theorem dX2_fewestFalls_59 : decode cX2_fewestFalls 59 = .ok (.aload_n 0, 1) := by decide +kernel
theorem dX2_fewestFalls_60 : decode cX2_fewestFalls 60 = .ok (.aload_n 0, 1) := by decide +kernel
theorem dX2_fewestFalls_61 : decode cX2_fewestFalls 61 = .ok (.getfield 15, 3) := by decide +kernel
theorem dX2_fewestFalls_64 : decode cX2_fewestFalls 64 = .ok (.invokevirtual 25, 3) := by decide +kernel
theorem dX2_fewestFalls_67 : decode cX2_fewestFalls 67 = .ok (.i2b, 1) := by decide +kernel
theorem dX2_fewestFalls_68 : decode cX2_fewestFalls 68 = .ok (.bastore, 1) := by decide +kernel
theorem dX2_fewestFalls_69 : decode cX2_fewestFalls 69 = .ok (.aload_n 0, 1) := by decide +kernel
theorem dX2_fewestFalls_70 : decode cX2_fewestFalls 70 = .ok (.dup, 1) := by decide +kernel
theorem dX2_fewestFalls_71 : decode cX2_fewestFalls 71 = .ok (.getfield 15, 3) := by decide +kernel
theorem dX2_fewestFalls_74 : decode cX2_fewestFalls 74 = .ok (.iconst 1, 1) := by decide +kernel
theorem dX2_fewestFalls_75 : decode cX2_fewestFalls 75 = .ok (.iadd, 1) := by decide +kernel
theorem dX2_fewestFalls_76 : decode cX2_fewestFalls 76 = .ok (.putfield 15, 3) := by decide +kernel
theorem dX2_fewestFalls_79 : decode cX2_fewestFalls 79 = .ok (.goto (-37), 3) := by decide +kernel
theorem dX2_fewestFalls_82 : decode cX2_fewestFalls 82 = .ok (.aload_n 0, 1) := by decide +kernel
theorem dX2_fewestFalls_83 : decode cX2_fewestFalls 83 = .ok (.getfield 9, 3) := by decide +kernel
theorem dX2_fewestFalls_86 : decode cX2_fewestFalls 86 = .ok (.iload 4, 2) := by decide +kernel
theorem dX2_fewestFalls_88 : decode cX2_fewestFalls 88 = .ok (.baload, 1) := by decide +kernel
theorem dX2_fewestFalls_89 : decode cX2_fewestFalls 89 = .ok (.ireturn, 1) := by decide +kernel
theorem dX2_fewestFrom_0 : decode cX2_fewestFrom 0 = .ok (.iload_n 1, 1) := by decide +kernel
theorem dX2_fewestFrom_1 : decode cX2_fewestFrom 1 = .ok (.iload_n 1, 1) := by decide +kernel
theorem dX2_fewestFrom_2 : decode cX2_fewestFrom 2 = .ok (.iconst 1, 1) := by decide +kernel
theorem dX2_fewestFrom_3 : decode cX2_fewestFrom 3 = .ok (.ishr, 1) := by decide +kernel
theorem dX2_fewestFrom_4 : decode cX2_fewestFrom 4 = .ok (.ior, 1) := by decide +kernel
theorem dX2_fewestFrom_5 : decode cX2_fewestFrom 5 = .ok (.sipush 21845, 3) := by decide +kernel
theorem dX2_fewestFrom_8 : decode cX2_fewestFrom 8 = .ok (.iand, 1) := by decide +kernel
theorem dX2_fewestFrom_9 : decode cX2_fewestFrom 9 = .ok (.istore_n 2, 1) := by decide +kernel
theorem dX2_fewestFrom_10 : decode cX2_fewestFrom 10 = .ok (.iload_n 2, 1) := by decide +kernel
theorem dX2_fewestFrom_11 : decode cX2_fewestFrom 11 = .ok (.invokestatic 29, 3) := by decide +kernel
theorem dX2_fewestFrom_14 : decode cX2_fewestFrom 14 = .ok (.iconst 1, 1) := by decide +kernel
theorem dX2_fewestFrom_15 : decode cX2_fewestFrom 15 = .ok (.if_icmp .gt 5, 3) := by decide +kernel
theorem dX2_fewestFrom_18 : decode cX2_fewestFrom 18 = .ok (.iconst 0, 1) := by decide +kernel
theorem dX2_fewestFrom_19 : decode cX2_fewestFrom 19 = .ok (.ireturn, 1) := by decide +kernel
theorem dX2_fewestFrom_20 : decode cX2_fewestFrom 20 = .ok (.bipush 100, 2) := by decide +kernel
theorem dX2_fewestFrom_22 : decode cX2_fewestFrom 22 = .ok (.istore_n 3, 1) := by decide +kernel
theorem dX2_fewestFrom_23 : decode cX2_fewestFrom 23 = .ok (.iconst 1, 1) := by decide +kernel
theorem dX2_fewestFrom_24 : decode cX2_fewestFrom 24 = .ok (.istore 4, 2) := by decide +kernel
theorem dX2_fewestFrom_26 : decode cX2_fewestFrom 26 = .ok (.iload 4, 2) := by decide +kernel
theorem dX2_fewestFrom_28 : decode cX2_fewestFrom 28 = .ok (.bipush 7, 2) := by decide +kernel
theorem dX2_fewestFrom_30 : decode cX2_fewestFrom 30 = .ok (.if_icmp .gt 69, 3) := by decide +kernel
theorem dX2_fewestFrom_33 : decode cX2_fewestFrom 33 = .ok (.iload_n 2, 1) := by decide +kernel
theorem dX2_fewestFrom_34 : decode cX2_fewestFrom 34 = .ok (.iconst 1, 1) := by decide +kernel
theorem dX2_fewestFrom_35 : decode cX2_fewestFrom 35 = .ok (.iconst 2, 1) := by decide +kernel
theorem dX2_fewestFrom_36 : decode cX2_fewestFrom 36 = .ok (.iload 4, 2) := by decide +kernel
theorem dX2_fewestFrom_38 : decode cX2_fewestFrom 38 = .ok (.imul, 1) := by decide +kernel
theorem dX2_fewestFrom_39 : decode cX2_fewestFrom 39 = .ok (.ishl, 1) := by decide +kernel
theorem dX2_fewestFrom_40 : decode cX2_fewestFrom 40 = .ok (.iconst 1, 1) := by decide +kernel
theorem dX2_fewestFrom_41 : decode cX2_fewestFrom 41 = .ok (.isub, 1) := by decide +kernel
theorem dX2_fewestFrom_42 : decode cX2_fewestFrom 42 = .ok (.iand, 1) := by decide +kernel
theorem dX2_fewestFrom_43 : decode cX2_fewestFrom 43 = .ok (.istore 5, 2) := by decide +kernel
theorem dX2_fewestFrom_45 : decode cX2_fewestFrom 45 = .ok (.iload_n 2, 1) := by decide +kernel
theorem dX2_fewestFrom_46 : decode cX2_fewestFrom 46 = .ok (.iload 5, 2) := by decide +kernel
theorem dX2_fewestFrom_48 : decode cX2_fewestFrom 48 = .ok (.isub, 1) := by decide +kernel
theorem dX2_fewestFrom_49 : decode cX2_fewestFrom 49 = .ok (.istore 6, 2) := by decide +kernel
theorem dX2_fewestFrom_51 : decode cX2_fewestFrom 51 = .ok (.iload 5, 2) := by decide +kernel
theorem dX2_fewestFrom_53 : decode cX2_fewestFrom 53 = .ok (.ifCond .eq 40, 3) := by decide +kernel
theorem dX2_fewestFrom_56 : decode cX2_fewestFrom 56 = .ok (.iload 6, 2) := by decide +kernel
theorem dX2_fewestFrom_58 : decode cX2_fewestFrom 58 = .ok (.ifCond .eq 35, 3) := by decide +kernel
theorem dX2_fewestFrom_61 : decode cX2_fewestFrom 61 = .ok (.aload_n 0, 1) := by decide +kernel
theorem dX2_fewestFrom_62 : decode cX2_fewestFrom 62 = .ok (.getfield 9, 3) := by decide +kernel
theorem dX2_fewestFrom_65 : decode cX2_fewestFrom 65 = .ok (.iload_n 1, 1) := by decide +kernel
theorem dX2_fewestFrom_66 : decode cX2_fewestFrom 66 = .ok (.iload 5, 2) := by decide +kernel
theorem dX2_fewestFrom_68 : decode cX2_fewestFrom 68 = .ok (.isub, 1) := by decide +kernel
theorem dX2_fewestFrom_69 : decode cX2_fewestFrom 69 = .ok (.baload, 1) := by decide +kernel
theorem dX2_fewestFrom_70 : decode cX2_fewestFrom 70 = .ok (.aload_n 0, 1) := by decide +kernel
theorem dX2_fewestFrom_71 : decode cX2_fewestFrom 71 = .ok (.getfield 9, 3) := by decide +kernel
theorem dX2_fewestFrom_74 : decode cX2_fewestFrom 74 = .ok (.iload_n 1, 1) := by decide +kernel
theorem dX2_fewestFrom_75 : decode cX2_fewestFrom 75 = .ok (.iload 6, 2) := by decide +kernel
theorem dX2_fewestFrom_77 : decode cX2_fewestFrom 77 = .ok (.isub, 1) := by decide +kernel
theorem dX2_fewestFrom_78 : decode cX2_fewestFrom 78 = .ok (.baload, 1) := by decide +kernel
theorem dX2_fewestFrom_79 : decode cX2_fewestFrom 79 = .ok (.invokestatic 34, 3) := by decide +kernel
theorem dX2_fewestFrom_82 : decode cX2_fewestFrom 82 = .ok (.istore 7, 2) := by decide +kernel
theorem dX2_fewestFrom_84 : decode cX2_fewestFrom 84 = .ok (.iload_n 3, 1) := by decide +kernel
theorem dX2_fewestFrom_85 : decode cX2_fewestFrom 85 = .ok (.iload 7, 2) := by decide +kernel
theorem dX2_fewestFrom_87 : decode cX2_fewestFrom 87 = .ok (.iconst 1, 1) := by decide +kernel
theorem dX2_fewestFrom_88 : decode cX2_fewestFrom 88 = .ok (.iadd, 1) := by decide +kernel
theorem dX2_fewestFrom_89 : decode cX2_fewestFrom 89 = .ok (.invokestatic 40, 3) := by decide +kernel
theorem dX2_fewestFrom_92 : decode cX2_fewestFrom 92 = .ok (.istore_n 3, 1) := by decide +kernel
theorem dX2_fewestFrom_93 : decode cX2_fewestFrom 93 = .ok (.iinc 4 1, 3) := by decide +kernel
theorem dX2_fewestFrom_96 : decode cX2_fewestFrom 96 = .ok (.goto (-70), 3) := by decide +kernel
theorem dX2_fewestFrom_99 : decode cX2_fewestFrom 99 = .ok (.iload_n 3, 1) := by decide +kernel
theorem dX2_fewestFrom_100 : decode cX2_fewestFrom 100 = .ok (.ireturn, 1) := by decide +kernel
theorem dX3_init_0 : decode cX3_init 0 = .ok (.aload_n 0, 1) := by decide +kernel
theorem dX3_init_1 : decode cX3_init 1 = .ok (.invokespecial 3, 3) := by decide +kernel
theorem dX3_init_4 : decode cX3_init 4 = .ok (.aload_n 0, 1) := by decide +kernel
theorem dX3_init_5 : decode cX3_init 5 = .ok (.iconst 0, 1) := by decide +kernel
theorem dX3_init_6 : decode cX3_init 6 = .ok (.putfield 9, 3) := by decide +kernel
theorem dX3_init_9 : decode cX3_init 9 = .ok (.aload_n 0, 1) := by decide +kernel
theorem dX3_init_10 : decode cX3_init 10 = .ok (.bipush 40, 2) := by decide +kernel
theorem dX3_init_12 : decode cX3_init 12 = .ok (.newarray .int, 2) := by decide +kernel
theorem dX3_init_14 : decode cX3_init 14 = .ok (.putfield 15, 3) := by decide +kernel
theorem dX3_init_17 : decode cX3_init 17 = .ok (.aload_n 0, 1) := by decide +kernel
theorem dX3_init_18 : decode cX3_init 18 = .ok (.bipush 40, 2) := by decide +kernel
theorem dX3_init_20 : decode cX3_init 20 = .ok (.newarray .int, 2) := by decide +kernel
theorem dX3_init_22 : decode cX3_init 22 = .ok (.putfield 19, 3) := by decide +kernel
theorem dX3_init_25 : decode cX3_init 25 = .ok (.aload_n 0, 1) := by decide +kernel
theorem dX3_init_26 : decode cX3_init 26 = .ok (.bipush 40, 2) := by decide +kernel
theorem dX3_init_28 : decode cX3_init 28 = .ok (.newarray .int, 2) := by decide +kernel
theorem dX3_init_30 : decode cX3_init 30 = .ok (.putfield 22, 3) := by decide +kernel
theorem dX3_init_33 : decode cX3_init 33 = .ok (.aload_n 0, 1) := by decide +kernel
theorem dX3_init_34 : decode cX3_init 34 = .ok (.bipush 40, 2) := by decide +kernel
theorem dX3_init_36 : decode cX3_init 36 = .ok (.newarray .boolean, 2) := by decide +kernel
theorem dX3_init_38 : decode cX3_init 38 = .ok (.putfield 25, 3) := by decide +kernel
theorem dX3_init_41 : decode cX3_init 41 = .ok (.aload_n 0, 1) := by decide +kernel
theorem dX3_init_42 : decode cX3_init 42 = .ok (.bipush 40, 2) := by decide +kernel
theorem dX3_init_44 : decode cX3_init 44 = .ok (.newarray .int, 2) := by decide +kernel
theorem dX3_init_46 : decode cX3_init 46 = .ok (.putfield 29, 3) := by decide +kernel
theorem dX3_init_49 : decode cX3_init 49 = .ok (.aload_n 0, 1) := by decide +kernel
theorem dX3_init_50 : decode cX3_init 50 = .ok (.bipush 40, 2) := by decide +kernel
theorem dX3_init_52 : decode cX3_init 52 = .ok (.newarray .boolean, 2) := by decide +kernel
theorem dX3_init_54 : decode cX3_init 54 = .ok (.putfield 32, 3) := by decide +kernel
theorem dX3_init_57 : decode cX3_init 57 = .ok (.aload_n 0, 1) := by decide +kernel
theorem dX3_init_58 : decode cX3_init 58 = .ok (.bipush 41, 2) := by decide +kernel
theorem dX3_init_60 : decode cX3_init 60 = .ok (.newarray .boolean, 2) := by decide +kernel
theorem dX3_init_62 : decode cX3_init 62 = .ok (.putfield 35, 3) := by decide +kernel
theorem dX3_init_65 : decode cX3_init 65 = .ok (.return_, 1) := by decide +kernel
theorem dX3_clear_0 : decode cX3_clear 0 = .ok (.aload_n 0, 1) := by decide +kernel
theorem dX3_clear_1 : decode cX3_clear 1 = .ok (.iconst 0, 1) := by decide +kernel
theorem dX3_clear_2 : decode cX3_clear 2 = .ok (.putfield 9, 3) := by decide +kernel
theorem dX3_clear_5 : decode cX3_clear 5 = .ok (.return_, 1) := by decide +kernel
theorem dX3_write_0 : decode cX3_write 0 = .ok (.aload_n 0, 1) := by decide +kernel
theorem dX3_write_1 : decode cX3_write 1 = .ok (.getfield 9, 3) := by decide +kernel
theorem dX3_write_4 : decode cX3_write 4 = .ok (.bipush 40, 2) := by decide +kernel
theorem dX3_write_6 : decode cX3_write 6 = .ok (.if_icmp .lt 5, 3) := by decide +kernel
theorem dX3_write_9 : decode cX3_write 9 = .ok (.iconst (-1), 1) := by decide +kernel
theorem dX3_write_10 : decode cX3_write 10 = .ok (.ireturn, 1) := by decide +kernel
theorem dX3_write_11 : decode cX3_write 11 = .ok (.aload_n 0, 1) := by decide +kernel
theorem dX3_write_12 : decode cX3_write 12 = .ok (.getfield 15, 3) := by decide +kernel
theorem dX3_write_15 : decode cX3_write 15 = .ok (.aload_n 0, 1) := by decide +kernel
theorem dX3_write_16 : decode cX3_write 16 = .ok (.getfield 9, 3) := by decide +kernel
theorem dX3_write_19 : decode cX3_write 19 = .ok (.iload_n 1, 1) := by decide +kernel
theorem dX3_write_20 : decode cX3_write 20 = .ok (.iastore, 1) := by decide +kernel
theorem dX3_write_21 : decode cX3_write 21 = .ok (.aload_n 0, 1) := by decide +kernel
theorem dX3_write_22 : decode cX3_write 22 = .ok (.getfield 19, 3) := by decide +kernel
theorem dX3_write_25 : decode cX3_write 25 = .ok (.aload_n 0, 1) := by decide +kernel
theorem dX3_write_26 : decode cX3_write 26 = .ok (.getfield 9, 3) := by decide +kernel
theorem dX3_write_29 : decode cX3_write 29 = .ok (.iload_n 2, 1) := by decide +kernel
theorem dX3_write_30 : decode cX3_write 30 = .ok (.iastore, 1) := by decide +kernel
theorem dX3_write_31 : decode cX3_write 31 = .ok (.aload_n 0, 1) := by decide +kernel
theorem dX3_write_32 : decode cX3_write 32 = .ok (.getfield 22, 3) := by decide +kernel
theorem dX3_write_35 : decode cX3_write 35 = .ok (.aload_n 0, 1) := by decide +kernel
theorem dX3_write_36 : decode cX3_write 36 = .ok (.getfield 9, 3) := by decide +kernel
theorem dX3_write_39 : decode cX3_write 39 = .ok (.iload_n 3, 1) := by decide +kernel
theorem dX3_write_40 : decode cX3_write 40 = .ok (.iastore, 1) := by decide +kernel
theorem dX3_write_41 : decode cX3_write 41 = .ok (.aload_n 0, 1) := by decide +kernel
theorem dX3_write_42 : decode cX3_write 42 = .ok (.getfield 25, 3) := by decide +kernel
theorem dX3_write_45 : decode cX3_write 45 = .ok (.aload_n 0, 1) := by decide +kernel
theorem dX3_write_46 : decode cX3_write 46 = .ok (.getfield 9, 3) := by decide +kernel
theorem dX3_write_49 : decode cX3_write 49 = .ok (.iload 4, 2) := by decide +kernel
theorem dX3_write_51 : decode cX3_write 51 = .ok (.bastore, 1) := by decide +kernel
theorem dX3_write_52 : decode cX3_write 52 = .ok (.aload_n 0, 1) := by decide +kernel
theorem dX3_write_53 : decode cX3_write 53 = .ok (.iconst (-1), 1) := by decide +kernel
theorem dX3_write_54 : decode cX3_write 54 = .ok (.invokevirtual 38, 3) := by decide +kernel
theorem dX3_write_57 : decode cX3_write 57 = .ok (.ireturn, 1) := by decide +kernel
theorem dX3_writeStrike_0 : decode cX3_writeStrike 0 = .ok (.iload_n 1, 1) := by decide +kernel
theorem dX3_writeStrike_1 : decode cX3_writeStrike 1 = .ok (.ifCond .lt 20, 3) := by decide +kernel
theorem dX3_writeStrike_4 : decode cX3_writeStrike 4 = .ok (.iload_n 1, 1) := by decide +kernel
theorem dX3_writeStrike_5 : decode cX3_writeStrike 5 = .ok (.aload_n 0, 1) := by decide +kernel
theorem dX3_writeStrike_6 : decode cX3_writeStrike 6 = .ok (.getfield 9, 3) := by decide +kernel
theorem dX3_writeStrike_9 : decode cX3_writeStrike 9 = .ok (.if_icmp .ge 12, 3) := by decide +kernel
theorem dX3_writeStrike_12 : decode cX3_writeStrike 12 = .ok (.aload_n 0, 1) := by decide +kernel
theorem dX3_writeStrike_13 : decode cX3_writeStrike 13 = .ok (.getfield 9, 3) := by decide +kernel
theorem dX3_writeStrike_16 : decode cX3_writeStrike 16 = .ok (.bipush 40, 2) := by decide +kernel
theorem dX3_writeStrike_18 : decode cX3_writeStrike 18 = .ok (.if_icmp .lt 5, 3) := by decide +kernel
theorem dX3_writeStrike_21 : decode cX3_writeStrike 21 = .ok (.iconst (-1), 1) := by decide +kernel
theorem dX3_writeStrike_22 : decode cX3_writeStrike 22 = .ok (.ireturn, 1) := by decide +kernel
theorem dX3_writeStrike_23 : decode cX3_writeStrike 23 = .ok (.aload_n 0, 1) := by decide +kernel
theorem dX3_writeStrike_24 : decode cX3_writeStrike 24 = .ok (.iload_n 1, 1) := by decide +kernel
theorem dX3_writeStrike_25 : decode cX3_writeStrike 25 = .ok (.invokevirtual 38, 3) := by decide +kernel
theorem dX3_writeStrike_28 : decode cX3_writeStrike 28 = .ok (.ireturn, 1) := by decide +kernel
theorem dX3_close_0 : decode cX3_close 0 = .ok (.aload_n 0, 1) := by decide +kernel
theorem dX3_close_1 : decode cX3_close 1 = .ok (.getfield 29, 3) := by decide +kernel
theorem dX3_close_4 : decode cX3_close 4 = .ok (.aload_n 0, 1) := by decide +kernel
theorem dX3_close_5 : decode cX3_close 5 = .ok (.getfield 9, 3) := by decide +kernel
theorem dX3_close_8 : decode cX3_close 8 = .ok (.iload_n 1, 1) := by decide +kernel
theorem dX3_close_9 : decode cX3_close 9 = .ok (.iastore, 1) := by decide +kernel
theorem dX3_close_10 : decode cX3_close 10 = .ok (.aload_n 0, 1) := by decide +kernel
theorem dX3_close_11 : decode cX3_close 11 = .ok (.dup, 1) := by decide +kernel
theorem dX3_close_12 : decode cX3_close 12 = .ok (.getfield 9, 3) := by decide +kernel
theorem dX3_close_15 : decode cX3_close 15 = .ok (.iconst 1, 1) := by decide +kernel
theorem dX3_close_16 : decode cX3_close 16 = .ok (.iadd, 1) := by decide +kernel
theorem dX3_close_17 : decode cX3_close 17 = .ok (.putfield 9, 3) := by decide +kernel
theorem dX3_close_20 : decode cX3_close 20 = .ok (.aload_n 0, 1) := by decide +kernel
theorem dX3_close_21 : decode cX3_close 21 = .ok (.invokevirtual 42, 3) := by decide +kernel
theorem dX3_close_24 : decode cX3_close 24 = .ok (.aload_n 0, 1) := by decide +kernel
theorem dX3_close_25 : decode cX3_close 25 = .ok (.getfield 9, 3) := by decide +kernel
theorem dX3_close_28 : decode cX3_close 28 = .ok (.iconst 1, 1) := by decide +kernel
theorem dX3_close_29 : decode cX3_close 29 = .ok (.isub, 1) := by decide +kernel
theorem dX3_close_30 : decode cX3_close 30 = .ok (.ireturn, 1) := by decide +kernel
theorem dX3_settle_0 : decode cX3_settle 0 = .ok (.iconst 0, 1) := by decide +kernel
theorem dX3_settle_1 : decode cX3_settle 1 = .ok (.istore_n 1, 1) := by decide +kernel
theorem dX3_settle_2 : decode cX3_settle 2 = .ok (.iload_n 1, 1) := by decide +kernel
theorem dX3_settle_3 : decode cX3_settle 3 = .ok (.aload_n 0, 1) := by decide +kernel
theorem dX3_settle_4 : decode cX3_settle 4 = .ok (.getfield 9, 3) := by decide +kernel
theorem dX3_settle_7 : decode cX3_settle 7 = .ok (.if_icmp .ge 16, 3) := by decide +kernel
theorem dX3_settle_10 : decode cX3_settle 10 = .ok (.aload_n 0, 1) := by decide +kernel
theorem dX3_settle_11 : decode cX3_settle 11 = .ok (.getfield 32, 3) := by decide +kernel
theorem dX3_settle_14 : decode cX3_settle 14 = .ok (.iload_n 1, 1) := by decide +kernel
theorem dX3_settle_15 : decode cX3_settle 15 = .ok (.iconst 1, 1) := by decide +kernel
theorem dX3_settle_16 : decode cX3_settle 16 = .ok (.bastore, 1) := by decide +kernel
theorem dX3_settle_17 : decode cX3_settle 17 = .ok (.iinc 1 1, 3) := by decide +kernel
theorem dX3_settle_20 : decode cX3_settle 20 = .ok (.goto (-18), 3) := by decide +kernel
theorem dX3_settle_23 : decode cX3_settle 23 = .ok (.aload_n 0, 1) := by decide +kernel
theorem dX3_settle_24 : decode cX3_settle 24 = .ok (.getfield 9, 3) := by decide +kernel
theorem dX3_settle_27 : decode cX3_settle 27 = .ok (.iconst 1, 1) := by decide +kernel
theorem dX3_settle_28 : decode cX3_settle 28 = .ok (.isub, 1) := by decide +kernel
theorem dX3_settle_29 : decode cX3_settle 29 = .ok (.istore_n 1, 1) := by decide +kernel
theorem dX3_settle_30 : decode cX3_settle 30 = .ok (.iload_n 1, 1) := by decide +kernel
theorem dX3_settle_31 : decode cX3_settle 31 = .ok (.ifCond .lt 40, 3) := by decide +kernel
theorem dX3_settle_34 : decode cX3_settle 34 = .ok (.aload_n 0, 1) := by decide +kernel
theorem dX3_settle_35 : decode cX3_settle 35 = .ok (.getfield 32, 3) := by decide +kernel
theorem dX3_settle_38 : decode cX3_settle 38 = .ok (.iload_n 1, 1) := by decide +kernel
theorem dX3_settle_39 : decode cX3_settle 39 = .ok (.baload, 1) := by decide +kernel
theorem dX3_settle_40 : decode cX3_settle 40 = .ok (.ifCond .eq 25, 3) := by decide +kernel
theorem dX3_settle_43 : decode cX3_settle 43 = .ok (.aload_n 0, 1) := by decide +kernel
theorem dX3_settle_44 : decode cX3_settle 44 = .ok (.getfield 29, 3) := by decide +kernel
theorem dX3_settle_47 : decode cX3_settle 47 = .ok (.iload_n 1, 1) := by decide +kernel
theorem dX3_settle_48 : decode cX3_settle 48 = .ok (.iaload, 1) := by decide +kernel
theorem dX3_settle_49 : decode cX3_settle 49 = .ok (.iconst (-1), 1) := by decide +kernel
theorem dX3_settle_50 : decode cX3_settle 50 = .ok (.if_icmp .eq 15, 3) := by decide +kernel
theorem dX3_settle_53 : decode cX3_settle 53 = .ok (.aload_n 0, 1) := by decide +kernel
theorem dX3_settle_54 : decode cX3_settle 54 = .ok (.getfield 32, 3) := by decide +kernel
theorem dX3_settle_57 : decode cX3_settle 57 = .ok (.aload_n 0, 1) := by decide +kernel
theorem dX3_settle_58 : decode cX3_settle 58 = .ok (.getfield 29, 3) := by decide +kernel
theorem dX3_settle_61 : decode cX3_settle 61 = .ok (.iload_n 1, 1) := by decide +kernel
theorem dX3_settle_62 : decode cX3_settle 62 = .ok (.iaload, 1) := by decide +kernel
theorem dX3_settle_63 : decode cX3_settle 63 = .ok (.iconst 0, 1) := by decide +kernel
theorem dX3_settle_64 : decode cX3_settle 64 = .ok (.bastore, 1) := by decide +kernel
theorem dX3_settle_65 : decode cX3_settle 65 = .ok (.iinc 1 (-1), 3) := by decide +kernel
theorem dX3_settle_68 : decode cX3_settle 68 = .ok (.goto (-38), 3) := by decide +kernel
theorem dX3_settle_71 : decode cX3_settle 71 = .ok (.return_, 1) := by decide +kernel
theorem dX3_isWrong_0 : decode cX3_isWrong 0 = .ok (.aload_n 0, 1) := by decide +kernel
theorem dX3_isWrong_1 : decode cX3_isWrong 1 = .ok (.getfield 32, 3) := by decide +kernel
theorem dX3_isWrong_4 : decode cX3_isWrong 4 = .ok (.iload_n 1, 1) := by decide +kernel
theorem dX3_isWrong_5 : decode cX3_isWrong 5 = .ok (.baload, 1) := by decide +kernel
theorem dX3_isWrong_6 : decode cX3_isWrong 6 = .ok (.ifCond .eq 43, 3) := by decide +kernel
theorem dX3_isWrong_9 : decode cX3_isWrong 9 = .ok (.aload_n 0, 1) := by decide +kernel
theorem dX3_isWrong_10 : decode cX3_isWrong 10 = .ok (.getfield 29, 3) := by decide +kernel
theorem dX3_isWrong_13 : decode cX3_isWrong 13 = .ok (.iload_n 1, 1) := by decide +kernel
theorem dX3_isWrong_14 : decode cX3_isWrong 14 = .ok (.iaload, 1) := by decide +kernel
theorem dX3_isWrong_15 : decode cX3_isWrong 15 = .ok (.iconst (-1), 1) := by decide +kernel
theorem dX3_isWrong_16 : decode cX3_isWrong 16 = .ok (.if_icmp .ne 33, 3) := by decide +kernel
theorem dX3_isWrong_19 : decode cX3_isWrong 19 = .ok (.aload_n 2, 1) := by decide +kernel
theorem dX3_isWrong_20 : decode cX3_isWrong 20 = .ok (.aload_n 0, 1) := by decide +kernel
theorem dX3_isWrong_21 : decode cX3_isWrong 21 = .ok (.getfield 19, 3) := by decide +kernel
theorem dX3_isWrong_24 : decode cX3_isWrong 24 = .ok (.iload_n 1, 1) := by decide +kernel
theorem dX3_isWrong_25 : decode cX3_isWrong 25 = .ok (.iaload, 1) := by decide +kernel
theorem dX3_isWrong_26 : decode cX3_isWrong 26 = .ok (.aload_n 0, 1) := by decide +kernel
theorem dX3_isWrong_27 : decode cX3_isWrong 27 = .ok (.getfield 22, 3) := by decide +kernel
theorem dX3_isWrong_30 : decode cX3_isWrong 30 = .ok (.iload_n 1, 1) := by decide +kernel
theorem dX3_isWrong_31 : decode cX3_isWrong 31 = .ok (.iaload, 1) := by decide +kernel
theorem dX3_isWrong_32 : decode cX3_isWrong 32 = .ok (.iload_n 3, 1) := by decide +kernel
theorem dX3_isWrong_33 : decode cX3_isWrong 33 = .ok (.invokevirtual 45, 3) := by decide +kernel
theorem dX3_isWrong_36 : decode cX3_isWrong 36 = .ok (.aload_n 0, 1) := by decide +kernel
theorem dX3_isWrong_37 : decode cX3_isWrong 37 = .ok (.getfield 25, 3) := by decide +kernel
theorem dX3_isWrong_40 : decode cX3_isWrong 40 = .ok (.iload_n 1, 1) := by decide +kernel
theorem dX3_isWrong_41 : decode cX3_isWrong 41 = .ok (.baload, 1) := by decide +kernel
theorem dX3_isWrong_42 : decode cX3_isWrong 42 = .ok (.if_icmp .eq 7, 3) := by decide +kernel
theorem dX3_isWrong_45 : decode cX3_isWrong 45 = .ok (.iconst 1, 1) := by decide +kernel
theorem dX3_isWrong_46 : decode cX3_isWrong 46 = .ok (.goto 4, 3) := by decide +kernel
theorem dX3_isWrong_49 : decode cX3_isWrong 49 = .ok (.iconst 0, 1) := by decide +kernel
theorem dX3_isWrong_50 : decode cX3_isWrong 50 = .ok (.ireturn, 1) := by decide +kernel
theorem dX3_wrongAt_0 : decode cX3_wrongAt 0 = .ok (.iconst 0, 1) := by decide +kernel
theorem dX3_wrongAt_1 : decode cX3_wrongAt 1 = .ok (.istore_n 3, 1) := by decide +kernel
theorem dX3_wrongAt_2 : decode cX3_wrongAt 2 = .ok (.iconst 0, 1) := by decide +kernel
theorem dX3_wrongAt_3 : decode cX3_wrongAt 3 = .ok (.istore 4, 2) := by decide +kernel
theorem dX3_wrongAt_5 : decode cX3_wrongAt 5 = .ok (.iload 4, 2) := by decide +kernel
theorem dX3_wrongAt_7 : decode cX3_wrongAt 7 = .ok (.aload_n 0, 1) := by decide +kernel
theorem dX3_wrongAt_8 : decode cX3_wrongAt 8 = .ok (.getfield 9, 3) := by decide +kernel
theorem dX3_wrongAt_11 : decode cX3_wrongAt 11 = .ok (.if_icmp .ge 23, 3) := by decide +kernel
theorem dX3_wrongAt_14 : decode cX3_wrongAt 14 = .ok (.aload_n 0, 1) := by decide +kernel
theorem dX3_wrongAt_15 : decode cX3_wrongAt 15 = .ok (.iload 4, 2) := by decide +kernel
theorem dX3_wrongAt_17 : decode cX3_wrongAt 17 = .ok (.aload_n 1, 1) := by decide +kernel
theorem dX3_wrongAt_18 : decode cX3_wrongAt 18 = .ok (.iload_n 2, 1) := by decide +kernel
theorem dX3_wrongAt_19 : decode cX3_wrongAt 19 = .ok (.invokevirtual 51, 3) := by decide +kernel
theorem dX3_wrongAt_22 : decode cX3_wrongAt 22 = .ok (.ifCond .eq 6, 3) := by decide +kernel
theorem dX3_wrongAt_25 : decode cX3_wrongAt 25 = .ok (.iinc 3 1, 3) := by decide +kernel
theorem dX3_wrongAt_28 : decode cX3_wrongAt 28 = .ok (.iinc 4 1, 3) := by decide +kernel
theorem dX3_wrongAt_31 : decode cX3_wrongAt 31 = .ok (.goto (-26), 3) := by decide +kernel
theorem dX3_wrongAt_34 : decode cX3_wrongAt 34 = .ok (.iload_n 3, 1) := by decide +kernel
theorem dX3_wrongAt_35 : decode cX3_wrongAt 35 = .ok (.ireturn, 1) := by decide +kernel
theorem dX3_wrongBy_0 : decode cX3_wrongBy 0 = .ok (.iconst 0, 1) := by decide +kernel
theorem dX3_wrongBy_1 : decode cX3_wrongBy 1 = .ok (.istore 4, 2) := by decide +kernel
theorem dX3_wrongBy_3 : decode cX3_wrongBy 3 = .ok (.iconst 0, 1) := by decide +kernel
theorem dX3_wrongBy_4 : decode cX3_wrongBy 4 = .ok (.istore 5, 2) := by decide +kernel
theorem dX3_wrongBy_6 : decode cX3_wrongBy 6 = .ok (.iload 5, 2) := by decide +kernel
theorem dX3_wrongBy_8 : decode cX3_wrongBy 8 = .ok (.aload_n 0, 1) := by decide +kernel
theorem dX3_wrongBy_9 : decode cX3_wrongBy 9 = .ok (.getfield 9, 3) := by decide +kernel
theorem dX3_wrongBy_12 : decode cX3_wrongBy 12 = .ok (.if_icmp .ge 34, 3) := by decide +kernel
theorem dX3_wrongBy_15 : decode cX3_wrongBy 15 = .ok (.aload_n 0, 1) := by decide +kernel
theorem dX3_wrongBy_16 : decode cX3_wrongBy 16 = .ok (.getfield 15, 3) := by decide +kernel
theorem dX3_wrongBy_19 : decode cX3_wrongBy 19 = .ok (.iload 5, 2) := by decide +kernel
theorem dX3_wrongBy_21 : decode cX3_wrongBy 21 = .ok (.iaload, 1) := by decide +kernel
theorem dX3_wrongBy_22 : decode cX3_wrongBy 22 = .ok (.iload_n 1, 1) := by decide +kernel
theorem dX3_wrongBy_23 : decode cX3_wrongBy 23 = .ok (.if_icmp .ne 17, 3) := by decide +kernel
theorem dX3_wrongBy_26 : decode cX3_wrongBy 26 = .ok (.aload_n 0, 1) := by decide +kernel
theorem dX3_wrongBy_27 : decode cX3_wrongBy 27 = .ok (.iload 5, 2) := by decide +kernel
theorem dX3_wrongBy_29 : decode cX3_wrongBy 29 = .ok (.aload_n 2, 1) := by decide +kernel
theorem dX3_wrongBy_30 : decode cX3_wrongBy 30 = .ok (.iload_n 3, 1) := by decide +kernel
theorem dX3_wrongBy_31 : decode cX3_wrongBy 31 = .ok (.invokevirtual 51, 3) := by decide +kernel
theorem dX3_wrongBy_34 : decode cX3_wrongBy 34 = .ok (.ifCond .eq 6, 3) := by decide +kernel
theorem dX3_wrongBy_37 : decode cX3_wrongBy 37 = .ok (.iinc 4 1, 3) := by decide +kernel
theorem dX3_wrongBy_40 : decode cX3_wrongBy 40 = .ok (.iinc 5 1, 3) := by decide +kernel
theorem dX3_wrongBy_43 : decode cX3_wrongBy 43 = .ok (.goto (-37), 3) := by decide +kernel
theorem dX3_wrongBy_46 : decode cX3_wrongBy 46 = .ok (.iload 4, 2) := by decide +kernel
theorem dX3_wrongBy_48 : decode cX3_wrongBy 48 = .ok (.ireturn, 1) := by decide +kernel
theorem dX3_leastDoubted_0 : decode cX3_leastDoubted 0 = .ok (.iconst 0, 1) := by decide +kernel
theorem dX3_leastDoubted_1 : decode cX3_leastDoubted 1 = .ok (.istore_n 2, 1) := by decide +kernel
theorem dX3_leastDoubted_2 : decode cX3_leastDoubted 2 = .ok (.aload_n 0, 1) := by decide +kernel
theorem dX3_leastDoubted_3 : decode cX3_leastDoubted 3 = .ok (.aload_n 1, 1) := by decide +kernel
theorem dX3_leastDoubted_4 : decode cX3_leastDoubted 4 = .ok (.iconst 0, 1) := by decide +kernel
theorem dX3_leastDoubted_5 : decode cX3_leastDoubted 5 = .ok (.invokevirtual 55, 3) := by decide +kernel
theorem dX3_leastDoubted_8 : decode cX3_leastDoubted 8 = .ok (.istore_n 3, 1) := by decide +kernel
theorem dX3_leastDoubted_9 : decode cX3_leastDoubted 9 = .ok (.iconst 1, 1) := by decide +kernel
theorem dX3_leastDoubted_10 : decode cX3_leastDoubted 10 = .ok (.istore 4, 2) := by decide +kernel
theorem dX3_leastDoubted_12 : decode cX3_leastDoubted 12 = .ok (.iload 4, 2) := by decide +kernel
theorem dX3_leastDoubted_14 : decode cX3_leastDoubted 14 = .ok (.aload_n 1, 1) := by decide +kernel
theorem dX3_leastDoubted_15 : decode cX3_leastDoubted 15 = .ok (.getfield 59, 3) := by decide +kernel
theorem dX3_leastDoubted_18 : decode cX3_leastDoubted 18 = .ok (.if_icmp .gt 30, 3) := by decide +kernel
theorem dX3_leastDoubted_21 : decode cX3_leastDoubted 21 = .ok (.aload_n 0, 1) := by decide +kernel
theorem dX3_leastDoubted_22 : decode cX3_leastDoubted 22 = .ok (.aload_n 1, 1) := by decide +kernel
theorem dX3_leastDoubted_23 : decode cX3_leastDoubted 23 = .ok (.iload 4, 2) := by decide +kernel
theorem dX3_leastDoubted_25 : decode cX3_leastDoubted 25 = .ok (.invokevirtual 55, 3) := by decide +kernel
theorem dX3_leastDoubted_28 : decode cX3_leastDoubted 28 = .ok (.istore 5, 2) := by decide +kernel
theorem dX3_leastDoubted_30 : decode cX3_leastDoubted 30 = .ok (.iload 5, 2) := by decide +kernel
theorem dX3_leastDoubted_32 : decode cX3_leastDoubted 32 = .ok (.iload_n 3, 1) := by decide +kernel
theorem dX3_leastDoubted_33 : decode cX3_leastDoubted 33 = .ok (.if_icmp .ge 9, 3) := by decide +kernel
theorem dX3_leastDoubted_36 : decode cX3_leastDoubted 36 = .ok (.iload 5, 2) := by decide +kernel
theorem dX3_leastDoubted_38 : decode cX3_leastDoubted 38 = .ok (.istore_n 3, 1) := by decide +kernel
theorem dX3_leastDoubted_39 : decode cX3_leastDoubted 39 = .ok (.iload 4, 2) := by decide +kernel
theorem dX3_leastDoubted_41 : decode cX3_leastDoubted 41 = .ok (.istore_n 2, 1) := by decide +kernel
theorem dX3_leastDoubted_42 : decode cX3_leastDoubted 42 = .ok (.iinc 4 1, 3) := by decide +kernel
theorem dX3_leastDoubted_45 : decode cX3_leastDoubted 45 = .ok (.goto (-33), 3) := by decide +kernel
theorem dX3_leastDoubted_48 : decode cX3_leastDoubted 48 = .ok (.iload_n 2, 1) := by decide +kernel
theorem dX3_leastDoubted_49 : decode cX3_leastDoubted 49 = .ok (.ireturn, 1) := by decide +kernel
theorem dX3_partingStep_0 : decode cX3_partingStep 0 = .ok (.iconst 0, 1) := by decide +kernel
theorem dX3_partingStep_1 : decode cX3_partingStep 1 = .ok (.istore_n 3, 1) := by decide +kernel
theorem dX3_partingStep_2 : decode cX3_partingStep 2 = .ok (.iconst 0, 1) := by decide +kernel
theorem dX3_partingStep_3 : decode cX3_partingStep 3 = .ok (.istore 4, 2) := by decide +kernel
theorem dX3_partingStep_5 : decode cX3_partingStep 5 = .ok (.iload 4, 2) := by decide +kernel
theorem dX3_partingStep_7 : decode cX3_partingStep 7 = .ok (.aload_n 1, 1) := by decide +kernel
theorem dX3_partingStep_8 : decode cX3_partingStep 8 = .ok (.getfield 59, 3) := by decide +kernel
theorem dX3_partingStep_11 : decode cX3_partingStep 11 = .ok (.if_icmp .gt 51, 3) := by decide +kernel
theorem dX3_partingStep_14 : decode cX3_partingStep 14 = .ok (.aload_n 0, 1) := by decide +kernel
theorem dX3_partingStep_15 : decode cX3_partingStep 15 = .ok (.getfield 35, 3) := by decide +kernel
theorem dX3_partingStep_18 : decode cX3_partingStep 18 = .ok (.iload 4, 2) := by decide +kernel
theorem dX3_partingStep_20 : decode cX3_partingStep 20 = .ok (.aload_n 0, 1) := by decide +kernel
theorem dX3_partingStep_21 : decode cX3_partingStep 21 = .ok (.aload_n 1, 1) := by decide +kernel
theorem dX3_partingStep_22 : decode cX3_partingStep 22 = .ok (.iload 4, 2) := by decide +kernel
theorem dX3_partingStep_24 : decode cX3_partingStep 24 = .ok (.invokevirtual 55, 3) := by decide +kernel
theorem dX3_partingStep_27 : decode cX3_partingStep 27 = .ok (.ifCond .ne 7, 3) := by decide +kernel
theorem dX3_partingStep_30 : decode cX3_partingStep 30 = .ok (.iconst 1, 1) := by decide +kernel
theorem dX3_partingStep_31 : decode cX3_partingStep 31 = .ok (.goto 4, 3) := by decide +kernel
theorem dX3_partingStep_34 : decode cX3_partingStep 34 = .ok (.iconst 0, 1) := by decide +kernel
theorem dX3_partingStep_35 : decode cX3_partingStep 35 = .ok (.bastore, 1) := by decide +kernel
theorem dX3_partingStep_36 : decode cX3_partingStep 36 = .ok (.iload_n 3, 1) := by decide +kernel
theorem dX3_partingStep_37 : decode cX3_partingStep 37 = .ok (.ifCond .ne 13, 3) := by decide +kernel
theorem dX3_partingStep_40 : decode cX3_partingStep 40 = .ok (.aload_n 0, 1) := by decide +kernel
theorem dX3_partingStep_41 : decode cX3_partingStep 41 = .ok (.getfield 35, 3) := by decide +kernel
theorem dX3_partingStep_44 : decode cX3_partingStep 44 = .ok (.iload 4, 2) := by decide +kernel
theorem dX3_partingStep_46 : decode cX3_partingStep 46 = .ok (.baload, 1) := by decide +kernel
theorem dX3_partingStep_47 : decode cX3_partingStep 47 = .ok (.ifCond .eq 7, 3) := by decide +kernel
theorem dX3_partingStep_50 : decode cX3_partingStep 50 = .ok (.iconst 1, 1) := by decide +kernel
theorem dX3_partingStep_51 : decode cX3_partingStep 51 = .ok (.goto 4, 3) := by decide +kernel
theorem dX3_partingStep_54 : decode cX3_partingStep 54 = .ok (.iconst 0, 1) := by decide +kernel
theorem dX3_partingStep_55 : decode cX3_partingStep 55 = .ok (.istore_n 3, 1) := by decide +kernel
theorem dX3_partingStep_56 : decode cX3_partingStep 56 = .ok (.iinc 4 1, 3) := by decide +kernel
theorem dX3_partingStep_59 : decode cX3_partingStep 59 = .ok (.goto (-54), 3) := by decide +kernel
theorem dX3_partingStep_62 : decode cX3_partingStep 62 = .ok (.iload_n 3, 1) := by decide +kernel
theorem dX3_partingStep_63 : decode cX3_partingStep 63 = .ok (.ifCond .ne 5, 3) := by decide +kernel
theorem dX3_partingStep_66 : decode cX3_partingStep 66 = .ok (.iconst (-1), 1) := by decide +kernel
theorem dX3_partingStep_67 : decode cX3_partingStep 67 = .ok (.ireturn, 1) := by decide +kernel
theorem dX3_partingStep_68 : decode cX3_partingStep 68 = .ok (.iconst 1, 1) := by decide +kernel
theorem dX3_partingStep_69 : decode cX3_partingStep 69 = .ok (.istore 4, 2) := by decide +kernel
theorem dX3_partingStep_71 : decode cX3_partingStep 71 = .ok (.aload_n 0, 1) := by decide +kernel
theorem dX3_partingStep_72 : decode cX3_partingStep 72 = .ok (.iconst 1, 1) := by decide +kernel
theorem dX3_partingStep_73 : decode cX3_partingStep 73 = .ok (.aload_n 1, 1) := by decide +kernel
theorem dX3_partingStep_74 : decode cX3_partingStep 74 = .ok (.iload_n 2, 1) := by decide +kernel
theorem dX3_partingStep_75 : decode cX3_partingStep 75 = .ok (.invokevirtual 61, 3) := by decide +kernel
theorem dX3_partingStep_78 : decode cX3_partingStep 78 = .ok (.istore 5, 2) := by decide +kernel
theorem dX3_partingStep_80 : decode cX3_partingStep 80 = .ok (.iconst 2, 1) := by decide +kernel
theorem dX3_partingStep_81 : decode cX3_partingStep 81 = .ok (.istore 6, 2) := by decide +kernel
theorem dX3_partingStep_83 : decode cX3_partingStep 83 = .ok (.iload 6, 2) := by decide +kernel
theorem dX3_partingStep_85 : decode cX3_partingStep 85 = .ok (.aload_n 1, 1) := by decide +kernel
theorem dX3_partingStep_86 : decode cX3_partingStep 86 = .ok (.getfield 59, 3) := by decide +kernel
theorem dX3_partingStep_89 : decode cX3_partingStep 89 = .ok (.if_icmp .gt 34, 3) := by decide +kernel
theorem dX3_partingStep_92 : decode cX3_partingStep 92 = .ok (.aload_n 0, 1) := by decide +kernel
theorem dX3_partingStep_93 : decode cX3_partingStep 93 = .ok (.iload 6, 2) := by decide +kernel
theorem dX3_partingStep_95 : decode cX3_partingStep 95 = .ok (.aload_n 1, 1) := by decide +kernel
theorem dX3_partingStep_96 : decode cX3_partingStep 96 = .ok (.iload_n 2, 1) := by decide +kernel
theorem dX3_partingStep_97 : decode cX3_partingStep 97 = .ok (.invokevirtual 61, 3) := by decide +kernel
theorem dX3_partingStep_100 : decode cX3_partingStep 100 = .ok (.istore 7, 2) := by decide +kernel
theorem dX3_partingStep_102 : decode cX3_partingStep 102 = .ok (.iload 7, 2) := by decide +kernel
theorem dX3_partingStep_104 : decode cX3_partingStep 104 = .ok (.iload 5, 2) := by decide +kernel
theorem dX3_partingStep_106 : decode cX3_partingStep 106 = .ok (.if_icmp .ge 11, 3) := by decide +kernel
theorem dX3_partingStep_109 : decode cX3_partingStep 109 = .ok (.iload 7, 2) := by decide +kernel
theorem dX3_partingStep_111 : decode cX3_partingStep 111 = .ok (.istore 5, 2) := by decide +kernel
theorem dX3_partingStep_113 : decode cX3_partingStep 113 = .ok (.iload 6, 2) := by decide +kernel
theorem dX3_partingStep_115 : decode cX3_partingStep 115 = .ok (.istore 4, 2) := by decide +kernel
theorem dX3_partingStep_117 : decode cX3_partingStep 117 = .ok (.iinc 6 1, 3) := by decide +kernel
theorem dX3_partingStep_120 : decode cX3_partingStep 120 = .ok (.goto (-37), 3) := by decide +kernel
theorem dX3_partingStep_123 : decode cX3_partingStep 123 = .ok (.iload 4, 2) := by decide +kernel
theorem dX3_partingStep_125 : decode cX3_partingStep 125 = .ok (.ireturn, 1) := by decide +kernel
theorem dX3_differenceBy_0 : decode cX3_differenceBy 0 = .ok (.iconst 0, 1) := by decide +kernel
theorem dX3_differenceBy_1 : decode cX3_differenceBy 1 = .ok (.istore 4, 2) := by decide +kernel
theorem dX3_differenceBy_3 : decode cX3_differenceBy 3 = .ok (.iconst 0, 1) := by decide +kernel
theorem dX3_differenceBy_4 : decode cX3_differenceBy 4 = .ok (.istore 5, 2) := by decide +kernel
theorem dX3_differenceBy_6 : decode cX3_differenceBy 6 = .ok (.iload 5, 2) := by decide +kernel
theorem dX3_differenceBy_8 : decode cX3_differenceBy 8 = .ok (.aload_n 2, 1) := by decide +kernel
theorem dX3_differenceBy_9 : decode cX3_differenceBy 9 = .ok (.getfield 59, 3) := by decide +kernel
theorem dX3_differenceBy_12 : decode cX3_differenceBy 12 = .ok (.if_icmp .gt 53, 3) := by decide +kernel
theorem dX3_differenceBy_15 : decode cX3_differenceBy 15 = .ok (.aload_n 0, 1) := by decide +kernel
theorem dX3_differenceBy_16 : decode cX3_differenceBy 16 = .ok (.getfield 35, 3) := by decide +kernel
theorem dX3_differenceBy_19 : decode cX3_differenceBy 19 = .ok (.iload 5, 2) := by decide +kernel
theorem dX3_differenceBy_21 : decode cX3_differenceBy 21 = .ok (.baload, 1) := by decide +kernel
theorem dX3_differenceBy_22 : decode cX3_differenceBy 22 = .ok (.ifCond .eq 37, 3) := by decide +kernel
theorem dX3_differenceBy_25 : decode cX3_differenceBy 25 = .ok (.iload 4, 2) := by decide +kernel
theorem dX3_differenceBy_27 : decode cX3_differenceBy 27 = .ok (.aload_n 2, 1) := by decide +kernel
theorem dX3_differenceBy_28 : decode cX3_differenceBy 28 = .ok (.iload_n 3, 1) := by decide +kernel
theorem dX3_differenceBy_29 : decode cX3_differenceBy 29 = .ok (.iload_n 1, 1) := by decide +kernel
theorem dX3_differenceBy_30 : decode cX3_differenceBy 30 = .ok (.iload 5, 2) := by decide +kernel
theorem dX3_differenceBy_32 : decode cX3_differenceBy 32 = .ok (.invokevirtual 45, 3) := by decide +kernel
theorem dX3_differenceBy_35 : decode cX3_differenceBy 35 = .ok (.ifCond .eq 13, 3) := by decide +kernel
theorem dX3_differenceBy_38 : decode cX3_differenceBy 38 = .ok (.aload_n 2, 1) := by decide +kernel
theorem dX3_differenceBy_39 : decode cX3_differenceBy 39 = .ok (.getfield 65, 3) := by decide +kernel
theorem dX3_differenceBy_42 : decode cX3_differenceBy 42 = .ok (.iload 5, 2) := by decide +kernel
theorem dX3_differenceBy_44 : decode cX3_differenceBy 44 = .ok (.iaload, 1) := by decide +kernel
theorem dX3_differenceBy_45 : decode cX3_differenceBy 45 = .ok (.goto 11, 3) := by decide +kernel
theorem dX3_differenceBy_48 : decode cX3_differenceBy 48 = .ok (.aload_n 2, 1) := by decide +kernel
theorem dX3_differenceBy_49 : decode cX3_differenceBy 49 = .ok (.getfield 65, 3) := by decide +kernel
theorem dX3_differenceBy_52 : decode cX3_differenceBy 52 = .ok (.iload 5, 2) := by decide +kernel
theorem dX3_differenceBy_54 : decode cX3_differenceBy 54 = .ok (.iaload, 1) := by decide +kernel
theorem dX3_differenceBy_55 : decode cX3_differenceBy 55 = .ok (.ineg, 1) := by decide +kernel
theorem dX3_differenceBy_56 : decode cX3_differenceBy 56 = .ok (.iadd, 1) := by decide +kernel
theorem dX3_differenceBy_57 : decode cX3_differenceBy 57 = .ok (.istore 4, 2) := by decide +kernel
theorem dX3_differenceBy_59 : decode cX3_differenceBy 59 = .ok (.iinc 5 1, 3) := by decide +kernel
theorem dX3_differenceBy_62 : decode cX3_differenceBy 62 = .ok (.goto (-56), 3) := by decide +kernel
theorem dX3_differenceBy_65 : decode cX3_differenceBy 65 = .ok (.iload 4, 2) := by decide +kernel
theorem dX3_differenceBy_67 : decode cX3_differenceBy 67 = .ok (.invokestatic 68, 3) := by decide +kernel
theorem dX3_differenceBy_70 : decode cX3_differenceBy 70 = .ok (.ireturn, 1) := by decide +kernel
theorem dX4_init_0 : decode cX4_init 0 = .ok (.aload_n 0, 1) := by decide +kernel
theorem dX4_init_1 : decode cX4_init 1 = .ok (.invokespecial 1, 3) := by decide +kernel
theorem dX4_init_4 : decode cX4_init 4 = .ok (.aload_n 0, 1) := by decide +kernel
theorem dX4_init_5 : decode cX4_init 5 = .ok (.iconst 0, 1) := by decide +kernel
theorem dX4_init_6 : decode cX4_init 6 = .ok (.putfield 7, 3) := by decide +kernel
theorem dX4_init_9 : decode cX4_init 9 = .ok (.aload_n 0, 1) := by decide +kernel
theorem dX4_init_10 : decode cX4_init 10 = .ok (.iconst 0, 1) := by decide +kernel
theorem dX4_init_11 : decode cX4_init 11 = .ok (.putfield 13, 3) := by decide +kernel
theorem dX4_init_14 : decode cX4_init 14 = .ok (.aload_n 0, 1) := by decide +kernel
theorem dX4_init_15 : decode cX4_init 15 = .ok (.bipush 12, 2) := by decide +kernel
theorem dX4_init_17 : decode cX4_init 17 = .ok (.newarray .int, 2) := by decide +kernel
theorem dX4_init_19 : decode cX4_init 19 = .ok (.putfield 16, 3) := by decide +kernel
theorem dX4_init_22 : decode cX4_init 22 = .ok (.aload_n 0, 1) := by decide +kernel
theorem dX4_init_23 : decode cX4_init 23 = .ok (.bipush 12, 2) := by decide +kernel
theorem dX4_init_25 : decode cX4_init 25 = .ok (.newarray .int, 2) := by decide +kernel
theorem dX4_init_27 : decode cX4_init 27 = .ok (.putfield 20, 3) := by decide +kernel
theorem dX4_init_30 : decode cX4_init 30 = .ok (.aload_n 0, 1) := by decide +kernel
theorem dX4_init_31 : decode cX4_init 31 = .ok (.bipush 12, 2) := by decide +kernel
theorem dX4_init_33 : decode cX4_init 33 = .ok (.newarray .int, 2) := by decide +kernel
theorem dX4_init_35 : decode cX4_init 35 = .ok (.putfield 23, 3) := by decide +kernel
theorem dX4_init_38 : decode cX4_init 38 = .ok (.aload_n 0, 1) := by decide +kernel
theorem dX4_init_39 : decode cX4_init 39 = .ok (.bipush 64, 2) := by decide +kernel
theorem dX4_init_41 : decode cX4_init 41 = .ok (.newarray .int, 2) := by decide +kernel
theorem dX4_init_43 : decode cX4_init 43 = .ok (.putfield 26, 3) := by decide +kernel
theorem dX4_init_46 : decode cX4_init 46 = .ok (.return_, 1) := by decide +kernel
theorem dX4_clear_0 : decode cX4_clear 0 = .ok (.aload_n 0, 1) := by decide +kernel
theorem dX4_clear_1 : decode cX4_clear 1 = .ok (.iconst 0, 1) := by decide +kernel
theorem dX4_clear_2 : decode cX4_clear 2 = .ok (.putfield 7, 3) := by decide +kernel
theorem dX4_clear_5 : decode cX4_clear 5 = .ok (.aload_n 0, 1) := by decide +kernel
theorem dX4_clear_6 : decode cX4_clear 6 = .ok (.iconst 0, 1) := by decide +kernel
theorem dX4_clear_7 : decode cX4_clear 7 = .ok (.putfield 13, 3) := by decide +kernel
theorem dX4_clear_10 : decode cX4_clear 10 = .ok (.return_, 1) := by decide +kernel
theorem dX4_conditionFrom_0 : decode cX4_conditionFrom 0 = .ok (.iload_n 1, 1) := by decide +kernel
theorem dX4_conditionFrom_1 : decode cX4_conditionFrom 1 = .ok (.ifCond .le 14, 3) := by decide +kernel
theorem dX4_conditionFrom_4 : decode cX4_conditionFrom 4 = .ok (.aload_n 0, 1) := by decide +kernel
theorem dX4_conditionFrom_5 : decode cX4_conditionFrom 5 = .ok (.getfield 23, 3) := by decide +kernel
theorem dX4_conditionFrom_8 : decode cX4_conditionFrom 8 = .ok (.iload_n 1, 1) := by decide +kernel
theorem dX4_conditionFrom_9 : decode cX4_conditionFrom 9 = .ok (.iconst 1, 1) := by decide +kernel
theorem dX4_conditionFrom_10 : decode cX4_conditionFrom 10 = .ok (.isub, 1) := by decide +kernel
theorem dX4_conditionFrom_11 : decode cX4_conditionFrom 11 = .ok (.iaload, 1) := by decide +kernel
theorem dX4_conditionFrom_12 : decode cX4_conditionFrom 12 = .ok (.goto 4, 3) := by decide +kernel
theorem dX4_conditionFrom_15 : decode cX4_conditionFrom 15 = .ok (.iconst 0, 1) := by decide +kernel
theorem dX4_conditionFrom_16 : decode cX4_conditionFrom 16 = .ok (.ireturn, 1) := by decide +kernel
theorem dX4_hasCondition_0 : decode cX4_hasCondition 0 = .ok (.aload_n 0, 1) := by decide +kernel
theorem dX4_hasCondition_1 : decode cX4_hasCondition 1 = .ok (.getfield 20, 3) := by decide +kernel
theorem dX4_hasCondition_4 : decode cX4_hasCondition 4 = .ok (.iload_n 1, 1) := by decide +kernel
theorem dX4_hasCondition_5 : decode cX4_hasCondition 5 = .ok (.iaload, 1) := by decide +kernel
theorem dX4_hasCondition_6 : decode cX4_hasCondition 6 = .ok (.aload_n 0, 1) := by decide +kernel
theorem dX4_hasCondition_7 : decode cX4_hasCondition 7 = .ok (.iload_n 1, 1) := by decide +kernel
theorem dX4_hasCondition_8 : decode cX4_hasCondition 8 = .ok (.invokevirtual 29, 3) := by decide +kernel
theorem dX4_hasCondition_11 : decode cX4_hasCondition 11 = .ok (.if_icmp .le 7, 3) := by decide +kernel
theorem dX4_hasCondition_14 : decode cX4_hasCondition 14 = .ok (.iconst 1, 1) := by decide +kernel
theorem dX4_hasCondition_15 : decode cX4_hasCondition 15 = .ok (.goto 4, 3) := by decide +kernel
theorem dX4_hasCondition_18 : decode cX4_hasCondition 18 = .ok (.iconst 0, 1) := by decide +kernel
theorem dX4_hasCondition_19 : decode cX4_hasCondition 19 = .ok (.ireturn, 1) := by decide +kernel
theorem dX5_init_0 : decode cX5_init 0 = .ok (.aload_n 0, 1) := by decide +kernel
theorem dX5_init_1 : decode cX5_init 1 = .ok (.invokespecial 3, 3) := by decide +kernel
theorem dX5_init_4 : decode cX5_init 4 = .ok (.aload_n 0, 1) := by decide +kernel
theorem dX5_init_5 : decode cX5_init 5 = .ok (.new 9, 3) := by decide +kernel
theorem dX5_init_8 : decode cX5_init 8 = .ok (.dup, 1) := by decide +kernel
theorem dX5_init_9 : decode cX5_init 9 = .ok (.invokespecial 11, 3) := by decide +kernel
theorem dX5_init_12 : decode cX5_init 12 = .ok (.putfield 12, 3) := by decide +kernel
theorem dX5_init_15 : decode cX5_init 15 = .ok (.aload_n 0, 1) := by decide +kernel
theorem dX5_init_16 : decode cX5_init 16 = .ok (.new 18, 3) := by decide +kernel
theorem dX5_init_19 : decode cX5_init 19 = .ok (.dup, 1) := by decide +kernel
theorem dX5_init_20 : decode cX5_init 20 = .ok (.invokespecial 20, 3) := by decide +kernel
theorem dX5_init_23 : decode cX5_init 23 = .ok (.putfield 21, 3) := by decide +kernel
theorem dX5_init_26 : decode cX5_init 26 = .ok (.aload_n 0, 1) := by decide +kernel
theorem dX5_init_27 : decode cX5_init 27 = .ok (.bipush 72, 2) := by decide +kernel
theorem dX5_init_29 : decode cX5_init 29 = .ok (.newarray .int, 2) := by decide +kernel
theorem dX5_init_31 : decode cX5_init 31 = .ok (.putfield 25, 3) := by decide +kernel
theorem dX5_init_34 : decode cX5_init 34 = .ok (.aload_n 0, 1) := by decide +kernel
theorem dX5_init_35 : decode cX5_init 35 = .ok (.iconst 0, 1) := by decide +kernel
theorem dX5_init_36 : decode cX5_init 36 = .ok (.putfield 29, 3) := by decide +kernel
theorem dX5_init_39 : decode cX5_init 39 = .ok (.aload_n 0, 1) := by decide +kernel
theorem dX5_init_40 : decode cX5_init 40 = .ok (.iconst 0, 1) := by decide +kernel
theorem dX5_init_41 : decode cX5_init 41 = .ok (.putfield 33, 3) := by decide +kernel
theorem dX5_init_44 : decode cX5_init 44 = .ok (.aload_n 0, 1) := by decide +kernel
theorem dX5_init_45 : decode cX5_init 45 = .ok (.iconst 0, 1) := by decide +kernel
theorem dX5_init_46 : decode cX5_init 46 = .ok (.putfield 36, 3) := by decide +kernel
theorem dX5_init_49 : decode cX5_init 49 = .ok (.aload_n 0, 1) := by decide +kernel
theorem dX5_init_50 : decode cX5_init 50 = .ok (.iconst 0, 1) := by decide +kernel
theorem dX5_init_51 : decode cX5_init 51 = .ok (.putfield 39, 3) := by decide +kernel
theorem dX5_init_54 : decode cX5_init 54 = .ok (.aload_n 0, 1) := by decide +kernel
theorem dX5_init_55 : decode cX5_init 55 = .ok (.iconst 0, 1) := by decide +kernel
theorem dX5_init_56 : decode cX5_init 56 = .ok (.putfield 42, 3) := by decide +kernel
theorem dX5_init_59 : decode cX5_init 59 = .ok (.aload_n 0, 1) := by decide +kernel
theorem dX5_init_60 : decode cX5_init 60 = .ok (.bipush 9, 2) := by decide +kernel
theorem dX5_init_62 : decode cX5_init 62 = .ok (.newarray .boolean, 2) := by decide +kernel
theorem dX5_init_64 : decode cX5_init 64 = .ok (.putfield 45, 3) := by decide +kernel
theorem dX5_init_67 : decode cX5_init 67 = .ok (.aload_n 0, 1) := by decide +kernel
theorem dX5_init_68 : decode cX5_init 68 = .ok (.iconst 0, 1) := by decide +kernel
theorem dX5_init_69 : decode cX5_init 69 = .ok (.putfield 49, 3) := by decide +kernel
theorem dX5_init_72 : decode cX5_init 72 = .ok (.aload_n 0, 1) := by decide +kernel
theorem dX5_init_73 : decode cX5_init 73 = .ok (.iconst 0, 1) := by decide +kernel
theorem dX5_init_74 : decode cX5_init 74 = .ok (.putfield 53, 3) := by decide +kernel
theorem dX5_init_77 : decode cX5_init 77 = .ok (.aload_n 0, 1) := by decide +kernel
theorem dX5_init_78 : decode cX5_init 78 = .ok (.iconst 0, 1) := by decide +kernel
theorem dX5_init_79 : decode cX5_init 79 = .ok (.putfield 56, 3) := by decide +kernel
theorem dX5_init_82 : decode cX5_init 82 = .ok (.aload_n 0, 1) := by decide +kernel
theorem dX5_init_83 : decode cX5_init 83 = .ok (.iconst (-1), 1) := by decide +kernel
theorem dX5_init_84 : decode cX5_init 84 = .ok (.putfield 59, 3) := by decide +kernel
theorem dX5_init_87 : decode cX5_init 87 = .ok (.return_, 1) := by decide +kernel
theorem dX5_read_0 : decode cX5_read 0 = .ok (.aload_n 0, 1) := by decide +kernel
theorem dX5_read_1 : decode cX5_read 1 = .ok (.getfield 12, 3) := by decide +kernel
theorem dX5_read_4 : decode cX5_read 4 = .ok (.aload_n 1, 1) := by decide +kernel
theorem dX5_read_5 : decode cX5_read 5 = .ok (.iload_n 2, 1) := by decide +kernel
theorem dX5_read_6 : decode cX5_read 6 = .ok (.invokevirtual 62, 3) := by decide +kernel
theorem dX5_read_9 : decode cX5_read 9 = .ok (.aload_n 0, 1) := by decide +kernel
theorem dX5_read_10 : decode cX5_read 10 = .ok (.aload_n 3, 1) := by decide +kernel
theorem dX5_read_11 : decode cX5_read 11 = .ok (.putfield 21, 3) := by decide +kernel
theorem dX5_read_14 : decode cX5_read 14 = .ok (.aload_n 0, 1) := by decide +kernel
theorem dX5_read_15 : decode cX5_read 15 = .ok (.getfield 21, 3) := by decide +kernel
theorem dX5_read_18 : decode cX5_read 18 = .ok (.invokevirtual 65, 3) := by decide +kernel
theorem dX5_read_21 : decode cX5_read 21 = .ok (.aload_n 0, 1) := by decide +kernel
theorem dX5_read_22 : decode cX5_read 22 = .ok (.iconst 0, 1) := by decide +kernel
theorem dX5_read_23 : decode cX5_read 23 = .ok (.putfield 39, 3) := by decide +kernel
theorem dX5_read_26 : decode cX5_read 26 = .ok (.aload_n 0, 1) := by decide +kernel
theorem dX5_read_27 : decode cX5_read 27 = .ok (.iconst 0, 1) := by decide +kernel
theorem dX5_read_28 : decode cX5_read 28 = .ok (.putfield 33, 3) := by decide +kernel
theorem dX5_read_31 : decode cX5_read 31 = .ok (.aload_n 0, 1) := by decide +kernel
theorem dX5_read_32 : decode cX5_read 32 = .ok (.iconst 0, 1) := by decide +kernel
theorem dX5_read_33 : decode cX5_read 33 = .ok (.putfield 36, 3) := by decide +kernel
theorem dX5_read_36 : decode cX5_read 36 = .ok (.aload_n 0, 1) := by decide +kernel
theorem dX5_read_37 : decode cX5_read 37 = .ok (.iconst 0, 1) := by decide +kernel
theorem dX5_read_38 : decode cX5_read 38 = .ok (.putfield 56, 3) := by decide +kernel
theorem dX5_read_41 : decode cX5_read 41 = .ok (.aload_n 0, 1) := by decide +kernel
theorem dX5_read_42 : decode cX5_read 42 = .ok (.iconst (-1), 1) := by decide +kernel
theorem dX5_read_43 : decode cX5_read 43 = .ok (.putfield 59, 3) := by decide +kernel
theorem dX5_read_46 : decode cX5_read 46 = .ok (.iconst 0, 1) := by decide +kernel
theorem dX5_read_47 : decode cX5_read 47 = .ok (.istore 4, 2) := by decide +kernel
theorem dX5_read_49 : decode cX5_read 49 = .ok (.iload 4, 2) := by decide +kernel
theorem dX5_read_51 : decode cX5_read 51 = .ok (.iload_n 2, 1) := by decide +kernel
theorem dX5_read_52 : decode cX5_read 52 = .ok (.if_icmp .gt 63, 3) := by decide +kernel
theorem dX5_read_55 : decode cX5_read 55 = .ok (.aload_n 0, 1) := by decide +kernel
theorem dX5_read_56 : decode cX5_read 56 = .ok (.getfield 12, 3) := by decide +kernel
theorem dX5_read_59 : decode cX5_read 59 = .ok (.invokevirtual 68, 3) := by decide +kernel
theorem dX5_read_62 : decode cX5_read 62 = .ok (.aload_n 0, 1) := by decide +kernel
theorem dX5_read_63 : decode cX5_read 63 = .ok (.aload_n 0, 1) := by decide +kernel
theorem dX5_read_64 : decode cX5_read 64 = .ok (.aload_n 0, 1) := by decide +kernel
theorem dX5_read_65 : decode cX5_read 65 = .ok (.getfield 12, 3) := by decide +kernel
theorem dX5_read_68 : decode cX5_read 68 = .ok (.getfield 71, 3) := by decide +kernel
theorem dX5_read_71 : decode cX5_read 71 = .ok (.invokevirtual 74, 3) := by decide +kernel
theorem dX5_read_74 : decode cX5_read 74 = .ok (.putfield 56, 3) := by decide +kernel
theorem dX5_read_77 : decode cX5_read 77 = .ok (.aload_n 0, 1) := by decide +kernel
theorem dX5_read_78 : decode cX5_read 78 = .ok (.getfield 56, 3) := by decide +kernel
theorem dX5_read_81 : decode cX5_read 81 = .ok (.ifCond .eq 15, 3) := by decide +kernel
theorem dX5_read_84 : decode cX5_read 84 = .ok (.aload_n 0, 1) := by decide +kernel
theorem dX5_read_85 : decode cX5_read 85 = .ok (.aload_n 0, 1) := by decide +kernel
theorem dX5_read_86 : decode cX5_read 86 = .ok (.getfield 12, 3) := by decide +kernel
theorem dX5_read_89 : decode cX5_read 89 = .ok (.getfield 78, 3) := by decide +kernel
theorem dX5_read_92 : decode cX5_read 92 = .ok (.putfield 59, 3) := by decide +kernel
theorem dX5_read_95 : decode cX5_read 95 = .ok (.return_, 1) := by decide +kernel
theorem dX5_read_96 : decode cX5_read 96 = .ok (.aload_n 0, 1) := by decide +kernel
theorem dX5_read_97 : decode cX5_read 97 = .ok (.getfield 12, 3) := by decide +kernel
theorem dX5_read_100 : decode cX5_read 100 = .ok (.getfield 71, 3) := by decide +kernel
theorem dX5_read_103 : decode cX5_read 103 = .ok (.ifCond .ne 6, 3) := by decide +kernel
theorem dX5_read_106 : decode cX5_read 106 = .ok (.goto 9, 3) := by decide +kernel
theorem dX5_read_109 : decode cX5_read 109 = .ok (.iinc 4 1, 3) := by decide +kernel
theorem dX5_read_112 : decode cX5_read 112 = .ok (.goto (-63), 3) := by decide +kernel
theorem dX5_read_115 : decode cX5_read 115 = .ok (.aload_n 0, 1) := by decide +kernel
theorem dX5_read_116 : decode cX5_read 116 = .ok (.getfield 21, 3) := by decide +kernel
theorem dX5_read_119 : decode cX5_read 119 = .ok (.aload_n 0, 1) := by decide +kernel
theorem dX5_read_120 : decode cX5_read 120 = .ok (.getfield 33, 3) := by decide +kernel
theorem dX5_read_123 : decode cX5_read 123 = .ok (.putfield 79, 3) := by decide +kernel
theorem dX5_read_126 : decode cX5_read 126 = .ok (.return_, 1) := by decide +kernel
theorem dX5_take_0 : decode cX5_take 0 = .ok (.aload_n 0, 1) := by decide +kernel
theorem dX5_take_1 : decode cX5_take 1 = .ok (.getfield 39, 3) := by decide +kernel
theorem dX5_take_4 : decode cX5_take 4 = .ok (.tableswitch 46 0 2 #[28, 34, 40], 28) := by decide +kernel
theorem dX5_take_32 : decode cX5_take 32 = .ok (.aload_n 0, 1) := by decide +kernel
theorem dX5_take_33 : decode cX5_take 33 = .ok (.iload_n 1, 1) := by decide +kernel
theorem dX5_take_34 : decode cX5_take 34 = .ok (.invokevirtual 82, 3) := by decide +kernel
theorem dX5_take_37 : decode cX5_take 37 = .ok (.ireturn, 1) := by decide +kernel
theorem dX5_take_38 : decode cX5_take 38 = .ok (.aload_n 0, 1) := by decide +kernel
theorem dX5_take_39 : decode cX5_take 39 = .ok (.iload_n 1, 1) := by decide +kernel
theorem dX5_take_40 : decode cX5_take 40 = .ok (.invokevirtual 85, 3) := by decide +kernel
theorem dX5_take_43 : decode cX5_take 43 = .ok (.ireturn, 1) := by decide +kernel
theorem dX5_take_44 : decode cX5_take 44 = .ok (.aload_n 0, 1) := by decide +kernel
theorem dX5_take_45 : decode cX5_take 45 = .ok (.iload_n 1, 1) := by decide +kernel
theorem dX5_take_46 : decode cX5_take 46 = .ok (.invokevirtual 88, 3) := by decide +kernel
theorem dX5_take_49 : decode cX5_take 49 = .ok (.ireturn, 1) := by decide +kernel
theorem dX5_take_50 : decode cX5_take 50 = .ok (.aload_n 0, 1) := by decide +kernel
theorem dX5_take_51 : decode cX5_take 51 = .ok (.iload_n 1, 1) := by decide +kernel
theorem dX5_take_52 : decode cX5_take 52 = .ok (.invokevirtual 91, 3) := by decide +kernel
theorem dX5_take_55 : decode cX5_take 55 = .ok (.ireturn, 1) := by decide +kernel
theorem dX5_takeAtLine_0 : decode cX5_takeAtLine 0 = .ok (.iload_n 1, 1) := by decide +kernel
theorem dX5_takeAtLine_1 : decode cX5_takeAtLine 1 = .ok (.ifCond .ne 5, 3) := by decide +kernel
theorem dX5_takeAtLine_4 : decode cX5_takeAtLine 4 = .ok (.iconst 0, 1) := by decide +kernel
theorem dX5_takeAtLine_5 : decode cX5_takeAtLine 5 = .ok (.ireturn, 1) := by decide +kernel
theorem dX5_takeAtLine_6 : decode cX5_takeAtLine 6 = .ok (.iload_n 1, 1) := by decide +kernel
theorem dX5_takeAtLine_7 : decode cX5_takeAtLine 7 = .ok (.bipush 6, 2) := by decide +kernel
theorem dX5_takeAtLine_9 : decode cX5_takeAtLine 9 = .ok (.if_icmp .eq 17, 3) := by decide +kernel
theorem dX5_takeAtLine_12 : decode cX5_takeAtLine 12 = .ok (.iload_n 1, 1) := by decide +kernel
theorem dX5_takeAtLine_13 : decode cX5_takeAtLine 13 = .ok (.bipush 7, 2) := by decide +kernel
theorem dX5_takeAtLine_15 : decode cX5_takeAtLine 15 = .ok (.if_icmp .eq 11, 3) := by decide +kernel
theorem dX5_takeAtLine_18 : decode cX5_takeAtLine 18 = .ok (.iload_n 1, 1) := by decide +kernel
theorem dX5_takeAtLine_19 : decode cX5_takeAtLine 19 = .ok (.bipush 8, 2) := by decide +kernel
theorem dX5_takeAtLine_21 : decode cX5_takeAtLine 21 = .ok (.if_icmp .eq 5, 3) := by decide +kernel
theorem dX5_takeAtLine_24 : decode cX5_takeAtLine 24 = .ok (.iconst 1, 1) := by decide +kernel
theorem dX5_takeAtLine_25 : decode cX5_takeAtLine 25 = .ok (.ireturn, 1) := by decide +kernel
theorem dX5_takeAtLine_26 : decode cX5_takeAtLine 26 = .ok (.aload_n 0, 1) := by decide +kernel
theorem dX5_takeAtLine_27 : decode cX5_takeAtLine 27 = .ok (.getfield 21, 3) := by decide +kernel
theorem dX5_takeAtLine_30 : decode cX5_takeAtLine 30 = .ok (.getfield 94, 3) := by decide +kernel
theorem dX5_takeAtLine_33 : decode cX5_takeAtLine 33 = .ok (.bipush 12, 2) := by decide +kernel
theorem dX5_takeAtLine_35 : decode cX5_takeAtLine 35 = .ok (.if_icmp .lt 5, 3) := by decide +kernel
theorem dX5_takeAtLine_38 : decode cX5_takeAtLine 38 = .ok (.iconst 2, 1) := by decide +kernel
theorem dX5_takeAtLine_39 : decode cX5_takeAtLine 39 = .ok (.ireturn, 1) := by decide +kernel
theorem dX5_takeAtLine_40 : decode cX5_takeAtLine 40 = .ok (.iload_n 1, 1) := by decide +kernel
theorem dX5_takeAtLine_41 : decode cX5_takeAtLine 41 = .ok (.bipush 6, 2) := by decide +kernel
theorem dX5_takeAtLine_43 : decode cX5_takeAtLine 43 = .ok (.if_icmp .ne 15, 3) := by decide +kernel
theorem dX5_takeAtLine_46 : decode cX5_takeAtLine 46 = .ok (.aload_n 0, 1) := by decide +kernel
theorem dX5_takeAtLine_47 : decode cX5_takeAtLine 47 = .ok (.iconst 1, 1) := by decide +kernel
theorem dX5_takeAtLine_48 : decode cX5_takeAtLine 48 = .ok (.putfield 53, 3) := by decide +kernel
theorem dX5_takeAtLine_51 : decode cX5_takeAtLine 51 = .ok (.aload_n 0, 1) := by decide +kernel
theorem dX5_takeAtLine_52 : decode cX5_takeAtLine 52 = .ok (.invokevirtual 97, 3) := by decide +kernel
theorem dX5_takeAtLine_55 : decode cX5_takeAtLine 55 = .ok (.goto 8, 3) := by decide +kernel
theorem dX5_takeAtLine_58 : decode cX5_takeAtLine 58 = .ok (.aload_n 0, 1) := by decide +kernel
theorem dX5_takeAtLine_59 : decode cX5_takeAtLine 59 = .ok (.iload_n 1, 1) := by decide +kernel
theorem dX5_takeAtLine_60 : decode cX5_takeAtLine 60 = .ok (.invokevirtual 100, 3) := by decide +kernel
theorem dX5_takeAtLine_63 : decode cX5_takeAtLine 63 = .ok (.iconst 0, 1) := by decide +kernel
theorem dX5_takeAtLine_64 : decode cX5_takeAtLine 64 = .ok (.ireturn, 1) := by decide +kernel
theorem dX5_startDeed_0 : decode cX5_startDeed 0 = .ok (.aload_n 0, 1) := by decide +kernel
theorem dX5_startDeed_1 : decode cX5_startDeed 1 = .ok (.iconst 0, 1) := by decide +kernel
theorem dX5_startDeed_2 : decode cX5_startDeed 2 = .ok (.putfield 53, 3) := by decide +kernel
theorem dX5_startDeed_5 : decode cX5_startDeed 5 = .ok (.aload_n 0, 1) := by decide +kernel
theorem dX5_startDeed_6 : decode cX5_startDeed 6 = .ok (.getfield 21, 3) := by decide +kernel
theorem dX5_startDeed_9 : decode cX5_startDeed 9 = .ok (.getfield 104, 3) := by decide +kernel
theorem dX5_startDeed_12 : decode cX5_startDeed 12 = .ok (.aload_n 0, 1) := by decide +kernel
theorem dX5_startDeed_13 : decode cX5_startDeed 13 = .ok (.getfield 21, 3) := by decide +kernel
theorem dX5_startDeed_16 : decode cX5_startDeed 16 = .ok (.getfield 94, 3) := by decide +kernel
theorem dX5_startDeed_19 : decode cX5_startDeed 19 = .ok (.aload_n 0, 1) := by decide +kernel
theorem dX5_startDeed_20 : decode cX5_startDeed 20 = .ok (.getfield 36, 3) := by decide +kernel
theorem dX5_startDeed_23 : decode cX5_startDeed 23 = .ok (.iastore, 1) := by decide +kernel
theorem dX5_startDeed_24 : decode cX5_startDeed 24 = .ok (.iload_n 1, 1) := by decide +kernel
theorem dX5_startDeed_25 : decode cX5_startDeed 25 = .ok (.bipush 7, 2) := by decide +kernel
theorem dX5_startDeed_27 : decode cX5_startDeed 27 = .ok (.if_icmp .ne 11, 3) := by decide +kernel
theorem dX5_startDeed_30 : decode cX5_startDeed 30 = .ok (.aload_n 0, 1) := by decide +kernel
theorem dX5_startDeed_31 : decode cX5_startDeed 31 = .ok (.iconst 1, 1) := by decide +kernel
theorem dX5_startDeed_32 : decode cX5_startDeed 32 = .ok (.putfield 39, 3) := by decide +kernel
theorem dX5_startDeed_35 : decode cX5_startDeed 35 = .ok (.goto 23, 3) := by decide +kernel
theorem dX5_startDeed_38 : decode cX5_startDeed 38 = .ok (.aload_n 0, 1) := by decide +kernel
theorem dX5_startDeed_39 : decode cX5_startDeed 39 = .ok (.getfield 21, 3) := by decide +kernel
theorem dX5_startDeed_42 : decode cX5_startDeed 42 = .ok (.getfield 107, 3) := by decide +kernel
theorem dX5_startDeed_45 : decode cX5_startDeed 45 = .ok (.aload_n 0, 1) := by decide +kernel
theorem dX5_startDeed_46 : decode cX5_startDeed 46 = .ok (.getfield 21, 3) := by decide +kernel
theorem dX5_startDeed_49 : decode cX5_startDeed 49 = .ok (.getfield 94, 3) := by decide +kernel
theorem dX5_startDeed_52 : decode cX5_startDeed 52 = .ok (.iconst 3, 1) := by decide +kernel
theorem dX5_startDeed_53 : decode cX5_startDeed 53 = .ok (.iastore, 1) := by decide +kernel
theorem dX5_startDeed_54 : decode cX5_startDeed 54 = .ok (.aload_n 0, 1) := by decide +kernel
theorem dX5_startDeed_55 : decode cX5_startDeed 55 = .ok (.invokevirtual 97, 3) := by decide +kernel
theorem dX5_startDeed_58 : decode cX5_startDeed 58 = .ok (.return_, 1) := by decide +kernel
theorem dX5_takeKind_0 : decode cX5_takeKind 0 = .ok (.iload_n 1, 1) := by decide +kernel
theorem dX5_takeKind_1 : decode cX5_takeKind 1 = .ok (.iconst 2, 1) := by decide +kernel
theorem dX5_takeKind_2 : decode cX5_takeKind 2 = .ok (.if_icmp .eq 5, 3) := by decide +kernel
theorem dX5_takeKind_5 : decode cX5_takeKind 5 = .ok (.iconst 1, 1) := by decide +kernel
theorem dX5_takeKind_6 : decode cX5_takeKind 6 = .ok (.ireturn, 1) := by decide +kernel
theorem dX5_takeKind_7 : decode cX5_takeKind 7 = .ok (.aload_n 0, 1) := by decide +kernel
theorem dX5_takeKind_8 : decode cX5_takeKind 8 = .ok (.getfield 12, 3) := by decide +kernel
theorem dX5_takeKind_11 : decode cX5_takeKind 11 = .ok (.getfield 110, 3) := by decide +kernel
theorem dX5_takeKind_14 : decode cX5_takeKind 14 = .ok (.iconst 3, 1) := by decide +kernel
theorem dX5_takeKind_15 : decode cX5_takeKind 15 = .ok (.if_icmp .lt 5, 3) := by decide +kernel
theorem dX5_takeKind_18 : decode cX5_takeKind 18 = .ok (.iconst 2, 1) := by decide +kernel
theorem dX5_takeKind_19 : decode cX5_takeKind 19 = .ok (.ireturn, 1) := by decide +kernel
theorem dX5_takeKind_20 : decode cX5_takeKind 20 = .ok (.aload_n 0, 1) := by decide +kernel
theorem dX5_takeKind_21 : decode cX5_takeKind 21 = .ok (.getfield 21, 3) := by decide +kernel
theorem dX5_takeKind_24 : decode cX5_takeKind 24 = .ok (.getfield 107, 3) := by decide +kernel
theorem dX5_takeKind_27 : decode cX5_takeKind 27 = .ok (.aload_n 0, 1) := by decide +kernel
theorem dX5_takeKind_28 : decode cX5_takeKind 28 = .ok (.getfield 21, 3) := by decide +kernel
theorem dX5_takeKind_31 : decode cX5_takeKind 31 = .ok (.getfield 94, 3) := by decide +kernel
theorem dX5_takeKind_34 : decode cX5_takeKind 34 = .ok (.aload_n 0, 1) := by decide +kernel
theorem dX5_takeKind_35 : decode cX5_takeKind 35 = .ok (.getfield 12, 3) := by decide +kernel
theorem dX5_takeKind_38 : decode cX5_takeKind 38 = .ok (.getfield 110, 3) := by decide +kernel
theorem dX5_takeKind_41 : decode cX5_takeKind 41 = .ok (.iastore, 1) := by decide +kernel
theorem dX5_takeKind_42 : decode cX5_takeKind 42 = .ok (.aload_n 0, 1) := by decide +kernel
theorem dX5_takeKind_43 : decode cX5_takeKind 43 = .ok (.invokevirtual 97, 3) := by decide +kernel
theorem dX5_takeKind_46 : decode cX5_takeKind 46 = .ok (.iconst 0, 1) := by decide +kernel
theorem dX5_takeKind_47 : decode cX5_takeKind 47 = .ok (.ireturn, 1) := by decide +kernel
theorem dX5_startExpression_0 : decode cX5_startExpression 0 = .ok (.aload_n 0, 1) := by decide +kernel
theorem dX5_startExpression_1 : decode cX5_startExpression 1 = .ok (.iconst 0, 1) := by decide +kernel
theorem dX5_startExpression_2 : decode cX5_startExpression 2 = .ok (.putfield 29, 3) := by decide +kernel
theorem dX5_startExpression_5 : decode cX5_startExpression 5 = .ok (.aload_n 0, 1) := by decide +kernel
theorem dX5_startExpression_6 : decode cX5_startExpression 6 = .ok (.iconst 0, 1) := by decide +kernel
theorem dX5_startExpression_7 : decode cX5_startExpression 7 = .ok (.putfield 42, 3) := by decide +kernel
theorem dX5_startExpression_10 : decode cX5_startExpression 10 = .ok (.aload_n 0, 1) := by decide +kernel
theorem dX5_startExpression_11 : decode cX5_startExpression 11 = .ok (.getfield 45, 3) := by decide +kernel
theorem dX5_startExpression_14 : decode cX5_startExpression 14 = .ok (.iconst 0, 1) := by decide +kernel
theorem dX5_startExpression_15 : decode cX5_startExpression 15 = .ok (.iconst 0, 1) := by decide +kernel
theorem dX5_startExpression_16 : decode cX5_startExpression 16 = .ok (.bastore, 1) := by decide +kernel
theorem dX5_startExpression_17 : decode cX5_startExpression 17 = .ok (.aload_n 0, 1) := by decide +kernel
theorem dX5_startExpression_18 : decode cX5_startExpression 18 = .ok (.iconst 1, 1) := by decide +kernel
theorem dX5_startExpression_19 : decode cX5_startExpression 19 = .ok (.putfield 49, 3) := by decide +kernel
theorem dX5_startExpression_22 : decode cX5_startExpression 22 = .ok (.aload_n 0, 1) := by decide +kernel
theorem dX5_startExpression_23 : decode cX5_startExpression 23 = .ok (.iconst 2, 1) := by decide +kernel
theorem dX5_startExpression_24 : decode cX5_startExpression 24 = .ok (.putfield 39, 3) := by decide +kernel
theorem dX5_startExpression_27 : decode cX5_startExpression 27 = .ok (.return_, 1) := by decide +kernel
theorem dX5_takeOperand_0 : decode cX5_takeOperand 0 = .ok (.iload_n 1, 1) := by decide +kernel
theorem dX5_takeOperand_1 : decode cX5_takeOperand 1 = .ok (.iconst 3, 1) := by decide +kernel
theorem dX5_takeOperand_2 : decode cX5_takeOperand 2 = .ok (.if_icmp .ne 8, 3) := by decide +kernel
theorem dX5_takeOperand_5 : decode cX5_takeOperand 5 = .ok (.aload_n 0, 1) := by decide +kernel
theorem dX5_takeOperand_6 : decode cX5_takeOperand 6 = .ok (.invokevirtual 113, 3) := by decide +kernel
theorem dX5_takeOperand_9 : decode cX5_takeOperand 9 = .ok (.ireturn, 1) := by decide +kernel
theorem dX5_takeOperand_10 : decode cX5_takeOperand 10 = .ok (.iload_n 1, 1) := by decide +kernel
theorem dX5_takeOperand_11 : decode cX5_takeOperand 11 = .ok (.bipush 9, 2) := by decide +kernel
theorem dX5_takeOperand_13 : decode cX5_takeOperand 13 = .ok (.if_icmp .ne 20, 3) := by decide +kernel
theorem dX5_takeOperand_16 : decode cX5_takeOperand 16 = .ok (.aload_n 0, 1) := by decide +kernel
theorem dX5_takeOperand_17 : decode cX5_takeOperand 17 = .ok (.getfield 49, 3) := by decide +kernel
theorem dX5_takeOperand_20 : decode cX5_takeOperand 20 = .ok (.ifCond .eq 11, 3) := by decide +kernel
theorem dX5_takeOperand_23 : decode cX5_takeOperand 23 = .ok (.aload_n 0, 1) := by decide +kernel
theorem dX5_takeOperand_24 : decode cX5_takeOperand 24 = .ok (.iload_n 1, 1) := by decide +kernel
theorem dX5_takeOperand_25 : decode cX5_takeOperand 25 = .ok (.invokevirtual 117, 3) := by decide +kernel
theorem dX5_takeOperand_28 : decode cX5_takeOperand 28 = .ok (.goto 4, 3) := by decide +kernel
theorem dX5_takeOperand_31 : decode cX5_takeOperand 31 = .ok (.iconst 1, 1) := by decide +kernel
theorem dX5_takeOperand_32 : decode cX5_takeOperand 32 = .ok (.ireturn, 1) := by decide +kernel
theorem dX5_takeOperand_33 : decode cX5_takeOperand 33 = .ok (.iload_n 1, 1) := by decide +kernel
theorem dX5_takeOperand_34 : decode cX5_takeOperand 34 = .ok (.iconst 2, 1) := by decide +kernel
theorem dX5_takeOperand_35 : decode cX5_takeOperand 35 = .ok (.if_icmp .eq 12, 3) := by decide +kernel
theorem dX5_takeOperand_38 : decode cX5_takeOperand 38 = .ok (.iload_n 1, 1) := by decide +kernel
theorem dX5_takeOperand_39 : decode cX5_takeOperand 39 = .ok (.invokestatic 120, 3) := by decide +kernel
theorem dX5_takeOperand_42 : decode cX5_takeOperand 42 = .ok (.ifCond .ne 5, 3) := by decide +kernel
theorem dX5_takeOperand_45 : decode cX5_takeOperand 45 = .ok (.iconst 1, 1) := by decide +kernel
theorem dX5_takeOperand_46 : decode cX5_takeOperand 46 = .ok (.ireturn, 1) := by decide +kernel
theorem dX5_takeOperand_47 : decode cX5_takeOperand 47 = .ok (.aload_n 0, 1) := by decide +kernel
theorem dX5_takeOperand_48 : decode cX5_takeOperand 48 = .ok (.getfield 33, 3) := by decide +kernel
theorem dX5_takeOperand_51 : decode cX5_takeOperand 51 = .ok (.bipush 64, 2) := by decide +kernel
theorem dX5_takeOperand_53 : decode cX5_takeOperand 53 = .ok (.if_icmp .ge 16, 3) := by decide +kernel
theorem dX5_takeOperand_56 : decode cX5_takeOperand 56 = .ok (.aload_n 0, 1) := by decide +kernel
theorem dX5_takeOperand_57 : decode cX5_takeOperand 57 = .ok (.getfield 12, 3) := by decide +kernel
theorem dX5_takeOperand_60 : decode cX5_takeOperand 60 = .ok (.getfield 110, 3) := by decide +kernel
theorem dX5_takeOperand_63 : decode cX5_takeOperand 63 = .ok (.sipush 1000, 3) := by decide +kernel
theorem dX5_takeOperand_66 : decode cX5_takeOperand 66 = .ok (.if_icmp .lt 5, 3) := by decide +kernel
theorem dX5_takeOperand_69 : decode cX5_takeOperand 69 = .ok (.iconst 2, 1) := by decide +kernel
theorem dX5_takeOperand_70 : decode cX5_takeOperand 70 = .ok (.ireturn, 1) := by decide +kernel
theorem dX5_takeOperand_71 : decode cX5_takeOperand 71 = .ok (.aload_n 0, 1) := by decide +kernel
theorem dX5_takeOperand_72 : decode cX5_takeOperand 72 = .ok (.dup, 1) := by decide +kernel
theorem dX5_takeOperand_73 : decode cX5_takeOperand 73 = .ok (.getfield 33, 3) := by decide +kernel
theorem dX5_takeOperand_76 : decode cX5_takeOperand 76 = .ok (.iconst 1, 1) := by decide +kernel
theorem dX5_takeOperand_77 : decode cX5_takeOperand 77 = .ok (.iadd, 1) := by decide +kernel
theorem dX5_takeOperand_78 : decode cX5_takeOperand 78 = .ok (.putfield 33, 3) := by decide +kernel
theorem dX5_takeOperand_81 : decode cX5_takeOperand 81 = .ok (.aload_n 0, 1) := by decide +kernel
theorem dX5_takeOperand_82 : decode cX5_takeOperand 82 = .ok (.iload_n 1, 1) := by decide +kernel
theorem dX5_takeOperand_83 : decode cX5_takeOperand 83 = .ok (.iconst 2, 1) := by decide +kernel
theorem dX5_takeOperand_84 : decode cX5_takeOperand 84 = .ok (.if_icmp .ne 13, 3) := by decide +kernel
theorem dX5_takeOperand_87 : decode cX5_takeOperand 87 = .ok (.aload_n 0, 1) := by decide +kernel
theorem dX5_takeOperand_88 : decode cX5_takeOperand 88 = .ok (.getfield 12, 3) := by decide +kernel
theorem dX5_takeOperand_91 : decode cX5_takeOperand 91 = .ok (.getfield 110, 3) := by decide +kernel
theorem dX5_takeOperand_94 : decode cX5_takeOperand 94 = .ok (.goto 8, 3) := by decide +kernel
theorem dX5_takeOperand_97 : decode cX5_takeOperand 97 = .ok (.sipush 1000, 3) := by decide +kernel
theorem dX5_takeOperand_100 : decode cX5_takeOperand 100 = .ok (.iload_n 1, 1) := by decide +kernel
theorem dX5_takeOperand_101 : decode cX5_takeOperand 101 = .ok (.iadd, 1) := by decide +kernel
theorem dX5_takeOperand_102 : decode cX5_takeOperand 102 = .ok (.invokevirtual 124, 3) := by decide +kernel
theorem dX5_takeOperand_105 : decode cX5_takeOperand 105 = .ok (.aload_n 0, 1) := by decide +kernel
theorem dX5_takeOperand_106 : decode cX5_takeOperand 106 = .ok (.iconst 3, 1) := by decide +kernel
theorem dX5_takeOperand_107 : decode cX5_takeOperand 107 = .ok (.putfield 39, 3) := by decide +kernel
theorem dX5_takeOperand_110 : decode cX5_takeOperand 110 = .ok (.iconst 0, 1) := by decide +kernel
theorem dX5_takeOperand_111 : decode cX5_takeOperand 111 = .ok (.ireturn, 1) := by decide +kernel
theorem dX5_takeOpen_0 : decode cX5_takeOpen 0 = .ok (.aload_n 0, 1) := by decide +kernel
theorem dX5_takeOpen_1 : decode cX5_takeOpen 1 = .ok (.getfield 42, 3) := by decide +kernel
theorem dX5_takeOpen_4 : decode cX5_takeOpen 4 = .ok (.bipush 8, 2) := by decide +kernel
theorem dX5_takeOpen_6 : decode cX5_takeOpen 6 = .ok (.if_icmp .lt 5, 3) := by decide +kernel
theorem dX5_takeOpen_9 : decode cX5_takeOpen 9 = .ok (.iconst 2, 1) := by decide +kernel
theorem dX5_takeOpen_10 : decode cX5_takeOpen 10 = .ok (.ireturn, 1) := by decide +kernel
theorem dX5_takeOpen_11 : decode cX5_takeOpen 11 = .ok (.aload_n 0, 1) := by decide +kernel
theorem dX5_takeOpen_12 : decode cX5_takeOpen 12 = .ok (.dup, 1) := by decide +kernel
theorem dX5_takeOpen_13 : decode cX5_takeOpen 13 = .ok (.getfield 42, 3) := by decide +kernel
theorem dX5_takeOpen_16 : decode cX5_takeOpen 16 = .ok (.iconst 1, 1) := by decide +kernel
theorem dX5_takeOpen_17 : decode cX5_takeOpen 17 = .ok (.iadd, 1) := by decide +kernel
theorem dX5_takeOpen_18 : decode cX5_takeOpen 18 = .ok (.putfield 42, 3) := by decide +kernel
theorem dX5_takeOpen_21 : decode cX5_takeOpen 21 = .ok (.aload_n 0, 1) := by decide +kernel
theorem dX5_takeOpen_22 : decode cX5_takeOpen 22 = .ok (.getfield 45, 3) := by decide +kernel
theorem dX5_takeOpen_25 : decode cX5_takeOpen 25 = .ok (.aload_n 0, 1) := by decide +kernel
theorem dX5_takeOpen_26 : decode cX5_takeOpen 26 = .ok (.getfield 42, 3) := by decide +kernel
theorem dX5_takeOpen_29 : decode cX5_takeOpen 29 = .ok (.iconst 0, 1) := by decide +kernel
theorem dX5_takeOpen_30 : decode cX5_takeOpen 30 = .ok (.bastore, 1) := by decide +kernel
theorem dX5_takeOpen_31 : decode cX5_takeOpen 31 = .ok (.aload_n 0, 1) := by decide +kernel
theorem dX5_takeOpen_32 : decode cX5_takeOpen 32 = .ok (.iconst 1, 1) := by decide +kernel
theorem dX5_takeOpen_33 : decode cX5_takeOpen 33 = .ok (.putfield 49, 3) := by decide +kernel
theorem dX5_takeOpen_36 : decode cX5_takeOpen 36 = .ok (.aload_n 0, 1) := by decide +kernel
theorem dX5_takeOpen_37 : decode cX5_takeOpen 37 = .ok (.iconst 3, 1) := by decide +kernel
theorem dX5_takeOpen_38 : decode cX5_takeOpen 38 = .ok (.invokevirtual 127, 3) := by decide +kernel
theorem dX5_takeOpen_41 : decode cX5_takeOpen 41 = .ok (.iconst 0, 1) := by decide +kernel
theorem dX5_takeOpen_42 : decode cX5_takeOpen 42 = .ok (.ireturn, 1) := by decide +kernel
theorem dX5_takeBehindOperand_0 : decode cX5_takeBehindOperand 0 = .ok (.iload_n 1, 1) := by decide +kernel
theorem dX5_takeBehindOperand_1 : decode cX5_takeBehindOperand 1 = .ok (.iconst 4, 1) := by decide +kernel
theorem dX5_takeBehindOperand_2 : decode cX5_takeBehindOperand 2 = .ok (.if_icmp .ne 8, 3) := by decide +kernel
theorem dX5_takeBehindOperand_5 : decode cX5_takeBehindOperand 5 = .ok (.aload_n 0, 1) := by decide +kernel
theorem dX5_takeBehindOperand_6 : decode cX5_takeBehindOperand 6 = .ok (.invokevirtual 130, 3) := by decide +kernel
theorem dX5_takeBehindOperand_9 : decode cX5_takeBehindOperand 9 = .ok (.ireturn, 1) := by decide +kernel
theorem dX5_takeBehindOperand_10 : decode cX5_takeBehindOperand 10 = .ok (.iload_n 1, 1) := by decide +kernel
theorem dX5_takeBehindOperand_11 : decode cX5_takeBehindOperand 11 = .ok (.invokestatic 133, 3) := by decide +kernel
theorem dX5_takeBehindOperand_14 : decode cX5_takeBehindOperand 14 = .ok (.ifCond .eq 17, 3) := by decide +kernel
theorem dX5_takeBehindOperand_17 : decode cX5_takeBehindOperand 17 = .ok (.aload_n 0, 1) := by decide +kernel
theorem dX5_takeBehindOperand_18 : decode cX5_takeBehindOperand 18 = .ok (.getfield 45, 3) := by decide +kernel
theorem dX5_takeBehindOperand_21 : decode cX5_takeBehindOperand 21 = .ok (.aload_n 0, 1) := by decide +kernel
theorem dX5_takeBehindOperand_22 : decode cX5_takeBehindOperand 22 = .ok (.getfield 42, 3) := by decide +kernel
theorem dX5_takeBehindOperand_25 : decode cX5_takeBehindOperand 25 = .ok (.baload, 1) := by decide +kernel
theorem dX5_takeBehindOperand_26 : decode cX5_takeBehindOperand 26 = .ok (.ifCond .eq 5, 3) := by decide +kernel
theorem dX5_takeBehindOperand_29 : decode cX5_takeBehindOperand 29 = .ok (.iconst 1, 1) := by decide +kernel
theorem dX5_takeBehindOperand_30 : decode cX5_takeBehindOperand 30 = .ok (.ireturn, 1) := by decide +kernel
theorem dX5_takeBehindOperand_31 : decode cX5_takeBehindOperand 31 = .ok (.iload_n 1, 1) := by decide +kernel
theorem dX5_takeBehindOperand_32 : decode cX5_takeBehindOperand 32 = .ok (.invokestatic 136, 3) := by decide +kernel
theorem dX5_takeBehindOperand_35 : decode cX5_takeBehindOperand 35 = .ok (.ifCond .le 15, 3) := by decide +kernel
theorem dX5_takeBehindOperand_38 : decode cX5_takeBehindOperand 38 = .ok (.iload_n 1, 1) := by decide +kernel
theorem dX5_takeBehindOperand_39 : decode cX5_takeBehindOperand 39 = .ok (.bipush 9, 2) := by decide +kernel
theorem dX5_takeBehindOperand_41 : decode cX5_takeBehindOperand 41 = .ok (.if_icmp .eq 9, 3) := by decide +kernel
theorem dX5_takeBehindOperand_44 : decode cX5_takeBehindOperand 44 = .ok (.aload_n 0, 1) := by decide +kernel
theorem dX5_takeBehindOperand_45 : decode cX5_takeBehindOperand 45 = .ok (.iload_n 1, 1) := by decide +kernel
theorem dX5_takeBehindOperand_46 : decode cX5_takeBehindOperand 46 = .ok (.invokevirtual 117, 3) := by decide +kernel
theorem dX5_takeBehindOperand_49 : decode cX5_takeBehindOperand 49 = .ok (.ireturn, 1) := by decide +kernel
theorem dX5_takeBehindOperand_50 : decode cX5_takeBehindOperand 50 = .ok (.aload_n 0, 1) := by decide +kernel
theorem dX5_takeBehindOperand_51 : decode cX5_takeBehindOperand 51 = .ok (.getfield 42, 3) := by decide +kernel
theorem dX5_takeBehindOperand_54 : decode cX5_takeBehindOperand 54 = .ok (.ifCond .le 5, 3) := by decide +kernel
theorem dX5_takeBehindOperand_57 : decode cX5_takeBehindOperand 57 = .ok (.iconst 1, 1) := by decide +kernel
theorem dX5_takeBehindOperand_58 : decode cX5_takeBehindOperand 58 = .ok (.ireturn, 1) := by decide +kernel
theorem dX5_takeBehindOperand_59 : decode cX5_takeBehindOperand 59 = .ok (.aload_n 0, 1) := by decide +kernel
theorem dX5_takeBehindOperand_60 : decode cX5_takeBehindOperand 60 = .ok (.getfield 53, 3) := by decide +kernel
theorem dX5_takeBehindOperand_63 : decode cX5_takeBehindOperand 63 = .ok (.ifCond .eq 27, 3) := by decide +kernel
theorem dX5_takeBehindOperand_66 : decode cX5_takeBehindOperand 66 = .ok (.iload_n 1, 1) := by decide +kernel
theorem dX5_takeBehindOperand_67 : decode cX5_takeBehindOperand 67 = .ok (.bipush 7, 2) := by decide +kernel
theorem dX5_takeBehindOperand_69 : decode cX5_takeBehindOperand 69 = .ok (.if_icmp .eq 9, 3) := by decide +kernel
theorem dX5_takeBehindOperand_72 : decode cX5_takeBehindOperand 72 = .ok (.iload_n 1, 1) := by decide +kernel
theorem dX5_takeBehindOperand_73 : decode cX5_takeBehindOperand 73 = .ok (.bipush 8, 2) := by decide +kernel
theorem dX5_takeBehindOperand_75 : decode cX5_takeBehindOperand 75 = .ok (.if_icmp .ne 15, 3) := by decide +kernel
theorem dX5_takeBehindOperand_78 : decode cX5_takeBehindOperand 78 = .ok (.aload_n 0, 1) := by decide +kernel
theorem dX5_takeBehindOperand_79 : decode cX5_takeBehindOperand 79 = .ok (.iconst 1, 1) := by decide +kernel
theorem dX5_takeBehindOperand_80 : decode cX5_takeBehindOperand 80 = .ok (.invokevirtual 139, 3) := by decide +kernel
theorem dX5_takeBehindOperand_83 : decode cX5_takeBehindOperand 83 = .ok (.aload_n 0, 1) := by decide +kernel
theorem dX5_takeBehindOperand_84 : decode cX5_takeBehindOperand 84 = .ok (.iload_n 1, 1) := by decide +kernel
theorem dX5_takeBehindOperand_85 : decode cX5_takeBehindOperand 85 = .ok (.invokevirtual 100, 3) := by decide +kernel
theorem dX5_takeBehindOperand_88 : decode cX5_takeBehindOperand 88 = .ok (.iconst 0, 1) := by decide +kernel
theorem dX5_takeBehindOperand_89 : decode cX5_takeBehindOperand 89 = .ok (.ireturn, 1) := by decide +kernel
theorem dX5_takeBehindOperand_90 : decode cX5_takeBehindOperand 90 = .ok (.aload_n 0, 1) := by decide +kernel
theorem dX5_takeBehindOperand_91 : decode cX5_takeBehindOperand 91 = .ok (.getfield 53, 3) := by decide +kernel
theorem dX5_takeBehindOperand_94 : decode cX5_takeBehindOperand 94 = .ok (.ifCond .ne 52, 3) := by decide +kernel
theorem dX5_takeBehindOperand_97 : decode cX5_takeBehindOperand 97 = .ok (.iload_n 1, 1) := by decide +kernel
theorem dX5_takeBehindOperand_98 : decode cX5_takeBehindOperand 98 = .ok (.iconst 5, 1) := by decide +kernel
theorem dX5_takeBehindOperand_99 : decode cX5_takeBehindOperand 99 = .ok (.if_icmp .ne 47, 3) := by decide +kernel
theorem dX5_takeBehindOperand_102 : decode cX5_takeBehindOperand 102 = .ok (.aload_n 0, 1) := by decide +kernel
theorem dX5_takeBehindOperand_103 : decode cX5_takeBehindOperand 103 = .ok (.iconst 1, 1) := by decide +kernel
theorem dX5_takeBehindOperand_104 : decode cX5_takeBehindOperand 104 = .ok (.invokevirtual 139, 3) := by decide +kernel
theorem dX5_takeBehindOperand_107 : decode cX5_takeBehindOperand 107 = .ok (.aload_n 0, 1) := by decide +kernel
theorem dX5_takeBehindOperand_108 : decode cX5_takeBehindOperand 108 = .ok (.getfield 21, 3) := by decide +kernel
theorem dX5_takeBehindOperand_111 : decode cX5_takeBehindOperand 111 = .ok (.getfield 142, 3) := by decide +kernel
theorem dX5_takeBehindOperand_114 : decode cX5_takeBehindOperand 114 = .ok (.aload_n 0, 1) := by decide +kernel
theorem dX5_takeBehindOperand_115 : decode cX5_takeBehindOperand 115 = .ok (.getfield 21, 3) := by decide +kernel
theorem dX5_takeBehindOperand_118 : decode cX5_takeBehindOperand 118 = .ok (.getfield 94, 3) := by decide +kernel
theorem dX5_takeBehindOperand_121 : decode cX5_takeBehindOperand 121 = .ok (.aload_n 0, 1) := by decide +kernel
theorem dX5_takeBehindOperand_122 : decode cX5_takeBehindOperand 122 = .ok (.getfield 36, 3) := by decide +kernel
theorem dX5_takeBehindOperand_125 : decode cX5_takeBehindOperand 125 = .ok (.iastore, 1) := by decide +kernel
theorem dX5_takeBehindOperand_126 : decode cX5_takeBehindOperand 126 = .ok (.aload_n 0, 1) := by decide +kernel
theorem dX5_takeBehindOperand_127 : decode cX5_takeBehindOperand 127 = .ok (.getfield 21, 3) := by decide +kernel
theorem dX5_takeBehindOperand_130 : decode cX5_takeBehindOperand 130 = .ok (.dup, 1) := by decide +kernel
theorem dX5_takeBehindOperand_131 : decode cX5_takeBehindOperand 131 = .ok (.getfield 94, 3) := by decide +kernel
theorem dX5_takeBehindOperand_134 : decode cX5_takeBehindOperand 134 = .ok (.iconst 1, 1) := by decide +kernel
theorem dX5_takeBehindOperand_135 : decode cX5_takeBehindOperand 135 = .ok (.iadd, 1) := by decide +kernel
theorem dX5_takeBehindOperand_136 : decode cX5_takeBehindOperand 136 = .ok (.putfield 94, 3) := by decide +kernel
theorem dX5_takeBehindOperand_139 : decode cX5_takeBehindOperand 139 = .ok (.aload_n 0, 1) := by decide +kernel
theorem dX5_takeBehindOperand_140 : decode cX5_takeBehindOperand 140 = .ok (.iconst 0, 1) := by decide +kernel
theorem dX5_takeBehindOperand_141 : decode cX5_takeBehindOperand 141 = .ok (.putfield 39, 3) := by decide +kernel
theorem dX5_takeBehindOperand_144 : decode cX5_takeBehindOperand 144 = .ok (.iconst 0, 1) := by decide +kernel
theorem dX5_takeBehindOperand_145 : decode cX5_takeBehindOperand 145 = .ok (.ireturn, 1) := by decide +kernel
theorem dX5_takeBehindOperand_146 : decode cX5_takeBehindOperand 146 = .ok (.iconst 1, 1) := by decide +kernel
theorem dX5_takeBehindOperand_147 : decode cX5_takeBehindOperand 147 = .ok (.ireturn, 1) := by decide +kernel
theorem dX5_takeClose_0 : decode cX5_takeClose 0 = .ok (.aload_n 0, 1) := by decide +kernel
theorem dX5_takeClose_1 : decode cX5_takeClose 1 = .ok (.getfield 42, 3) := by decide +kernel
theorem dX5_takeClose_4 : decode cX5_takeClose 4 = .ok (.ifCond .ne 5, 3) := by decide +kernel
theorem dX5_takeClose_7 : decode cX5_takeClose 7 = .ok (.iconst 1, 1) := by decide +kernel
theorem dX5_takeClose_8 : decode cX5_takeClose 8 = .ok (.ireturn, 1) := by decide +kernel
theorem dX5_takeClose_9 : decode cX5_takeClose 9 = .ok (.aload_n 0, 1) := by decide +kernel
theorem dX5_takeClose_10 : decode cX5_takeClose 10 = .ok (.iconst 1, 1) := by decide +kernel
theorem dX5_takeClose_11 : decode cX5_takeClose 11 = .ok (.invokevirtual 139, 3) := by decide +kernel
theorem dX5_takeClose_14 : decode cX5_takeClose 14 = .ok (.aload_n 0, 1) := by decide +kernel
theorem dX5_takeClose_15 : decode cX5_takeClose 15 = .ok (.dup, 1) := by decide +kernel
theorem dX5_takeClose_16 : decode cX5_takeClose 16 = .ok (.getfield 29, 3) := by decide +kernel
theorem dX5_takeClose_19 : decode cX5_takeClose 19 = .ok (.iconst 1, 1) := by decide +kernel
theorem dX5_takeClose_20 : decode cX5_takeClose 20 = .ok (.isub, 1) := by decide +kernel
theorem dX5_takeClose_21 : decode cX5_takeClose 21 = .ok (.putfield 29, 3) := by decide +kernel
theorem dX5_takeClose_24 : decode cX5_takeClose 24 = .ok (.aload_n 0, 1) := by decide +kernel
theorem dX5_takeClose_25 : decode cX5_takeClose 25 = .ok (.dup, 1) := by decide +kernel
theorem dX5_takeClose_26 : decode cX5_takeClose 26 = .ok (.getfield 42, 3) := by decide +kernel
theorem dX5_takeClose_29 : decode cX5_takeClose 29 = .ok (.iconst 1, 1) := by decide +kernel
theorem dX5_takeClose_30 : decode cX5_takeClose 30 = .ok (.isub, 1) := by decide +kernel
theorem dX5_takeClose_31 : decode cX5_takeClose 31 = .ok (.putfield 42, 3) := by decide +kernel
theorem dX5_takeClose_34 : decode cX5_takeClose 34 = .ok (.iconst 0, 1) := by decide +kernel
theorem dX5_takeClose_35 : decode cX5_takeClose 35 = .ok (.ireturn, 1) := by decide +kernel
theorem dX5_takeOperator_0 : decode cX5_takeOperator 0 = .ok (.aload_n 0, 1) := by decide +kernel
theorem dX5_takeOperator_1 : decode cX5_takeOperator 1 = .ok (.getfield 33, 3) := by decide +kernel
theorem dX5_takeOperator_4 : decode cX5_takeOperator 4 = .ok (.bipush 64, 2) := by decide +kernel
theorem dX5_takeOperator_6 : decode cX5_takeOperator 6 = .ok (.if_icmp .lt 5, 3) := by decide +kernel
theorem dX5_takeOperator_9 : decode cX5_takeOperator 9 = .ok (.iconst 2, 1) := by decide +kernel
theorem dX5_takeOperator_10 : decode cX5_takeOperator 10 = .ok (.ireturn, 1) := by decide +kernel
theorem dX5_takeOperator_11 : decode cX5_takeOperator 11 = .ok (.aload_n 0, 1) := by decide +kernel
theorem dX5_takeOperator_12 : decode cX5_takeOperator 12 = .ok (.dup, 1) := by decide +kernel
theorem dX5_takeOperator_13 : decode cX5_takeOperator 13 = .ok (.getfield 33, 3) := by decide +kernel
theorem dX5_takeOperator_16 : decode cX5_takeOperator 16 = .ok (.iconst 1, 1) := by decide +kernel
theorem dX5_takeOperator_17 : decode cX5_takeOperator 17 = .ok (.iadd, 1) := by decide +kernel
theorem dX5_takeOperator_18 : decode cX5_takeOperator 18 = .ok (.putfield 33, 3) := by decide +kernel
theorem dX5_takeOperator_21 : decode cX5_takeOperator 21 = .ok (.iload_n 1, 1) := by decide +kernel
theorem dX5_takeOperator_22 : decode cX5_takeOperator 22 = .ok (.bipush 9, 2) := by decide +kernel
theorem dX5_takeOperator_24 : decode cX5_takeOperator 24 = .ok (.if_icmp .eq 11, 3) := by decide +kernel
theorem dX5_takeOperator_27 : decode cX5_takeOperator 27 = .ok (.aload_n 0, 1) := by decide +kernel
theorem dX5_takeOperator_28 : decode cX5_takeOperator 28 = .ok (.iload_n 1, 1) := by decide +kernel
theorem dX5_takeOperator_29 : decode cX5_takeOperator 29 = .ok (.invokestatic 136, 3) := by decide +kernel
theorem dX5_takeOperator_32 : decode cX5_takeOperator 32 = .ok (.invokevirtual 139, 3) := by decide +kernel
theorem dX5_takeOperator_35 : decode cX5_takeOperator 35 = .ok (.aload_n 0, 1) := by decide +kernel
theorem dX5_takeOperator_36 : decode cX5_takeOperator 36 = .ok (.iload_n 1, 1) := by decide +kernel
theorem dX5_takeOperator_37 : decode cX5_takeOperator 37 = .ok (.invokevirtual 127, 3) := by decide +kernel
theorem dX5_takeOperator_40 : decode cX5_takeOperator 40 = .ok (.aload_n 0, 1) := by decide +kernel
theorem dX5_takeOperator_41 : decode cX5_takeOperator 41 = .ok (.iload_n 1, 1) := by decide +kernel
theorem dX5_takeOperator_42 : decode cX5_takeOperator 42 = .ok (.bipush 9, 2) := by decide +kernel
theorem dX5_takeOperator_44 : decode cX5_takeOperator 44 = .ok (.if_icmp .eq 15, 3) := by decide +kernel
theorem dX5_takeOperator_47 : decode cX5_takeOperator 47 = .ok (.iload_n 1, 1) := by decide +kernel
theorem dX5_takeOperator_48 : decode cX5_takeOperator 48 = .ok (.bipush 11, 2) := by decide +kernel
theorem dX5_takeOperator_50 : decode cX5_takeOperator 50 = .ok (.if_icmp .eq 9, 3) := by decide +kernel
theorem dX5_takeOperator_53 : decode cX5_takeOperator 53 = .ok (.iload_n 1, 1) := by decide +kernel
theorem dX5_takeOperator_54 : decode cX5_takeOperator 54 = .ok (.bipush 10, 2) := by decide +kernel
theorem dX5_takeOperator_56 : decode cX5_takeOperator 56 = .ok (.if_icmp .ne 7, 3) := by decide +kernel
theorem dX5_takeOperator_59 : decode cX5_takeOperator 59 = .ok (.iconst 1, 1) := by decide +kernel
theorem dX5_takeOperator_60 : decode cX5_takeOperator 60 = .ok (.goto 4, 3) := by decide +kernel
theorem dX5_takeOperator_63 : decode cX5_takeOperator 63 = .ok (.iconst 0, 1) := by decide +kernel
theorem dX5_takeOperator_64 : decode cX5_takeOperator 64 = .ok (.putfield 49, 3) := by decide +kernel
theorem dX5_takeOperator_67 : decode cX5_takeOperator 67 = .ok (.iload_n 1, 1) := by decide +kernel
theorem dX5_takeOperator_68 : decode cX5_takeOperator 68 = .ok (.invokestatic 133, 3) := by decide +kernel
theorem dX5_takeOperator_71 : decode cX5_takeOperator 71 = .ok (.ifCond .eq 16, 3) := by decide +kernel
theorem dX5_takeOperator_74 : decode cX5_takeOperator 74 = .ok (.aload_n 0, 1) := by decide +kernel
theorem dX5_takeOperator_75 : decode cX5_takeOperator 75 = .ok (.getfield 45, 3) := by decide +kernel
theorem dX5_takeOperator_78 : decode cX5_takeOperator 78 = .ok (.aload_n 0, 1) := by decide +kernel
theorem dX5_takeOperator_79 : decode cX5_takeOperator 79 = .ok (.getfield 42, 3) := by decide +kernel
theorem dX5_takeOperator_82 : decode cX5_takeOperator 82 = .ok (.iconst 1, 1) := by decide +kernel
theorem dX5_takeOperator_83 : decode cX5_takeOperator 83 = .ok (.bastore, 1) := by decide +kernel
theorem dX5_takeOperator_84 : decode cX5_takeOperator 84 = .ok (.goto 20, 3) := by decide +kernel
theorem dX5_takeOperator_87 : decode cX5_takeOperator 87 = .ok (.aload_n 0, 1) := by decide +kernel
theorem dX5_takeOperator_88 : decode cX5_takeOperator 88 = .ok (.getfield 49, 3) := by decide +kernel
theorem dX5_takeOperator_91 : decode cX5_takeOperator 91 = .ok (.ifCond .eq 13, 3) := by decide +kernel
theorem dX5_takeOperator_94 : decode cX5_takeOperator 94 = .ok (.aload_n 0, 1) := by decide +kernel
theorem dX5_takeOperator_95 : decode cX5_takeOperator 95 = .ok (.getfield 45, 3) := by decide +kernel
theorem dX5_takeOperator_98 : decode cX5_takeOperator 98 = .ok (.aload_n 0, 1) := by decide +kernel
theorem dX5_takeOperator_99 : decode cX5_takeOperator 99 = .ok (.getfield 42, 3) := by decide +kernel
theorem dX5_takeOperator_102 : decode cX5_takeOperator 102 = .ok (.iconst 0, 1) := by decide +kernel
theorem dX5_takeOperator_103 : decode cX5_takeOperator 103 = .ok (.bastore, 1) := by decide +kernel
theorem dX5_takeOperator_104 : decode cX5_takeOperator 104 = .ok (.aload_n 0, 1) := by decide +kernel
theorem dX5_takeOperator_105 : decode cX5_takeOperator 105 = .ok (.iconst 2, 1) := by decide +kernel
theorem dX5_takeOperator_106 : decode cX5_takeOperator 106 = .ok (.putfield 39, 3) := by decide +kernel
theorem dX5_takeOperator_109 : decode cX5_takeOperator 109 = .ok (.iconst 0, 1) := by decide +kernel
theorem dX5_takeOperator_110 : decode cX5_takeOperator 110 = .ok (.ireturn, 1) := by decide +kernel
theorem dX5_hold_0 : decode cX5_hold 0 = .ok (.aload_n 0, 1) := by decide +kernel
theorem dX5_hold_1 : decode cX5_hold 1 = .ok (.getfield 29, 3) := by decide +kernel
theorem dX5_hold_4 : decode cX5_hold 4 = .ok (.aload_n 0, 1) := by decide +kernel
theorem dX5_hold_5 : decode cX5_hold 5 = .ok (.getfield 25, 3) := by decide +kernel
theorem dX5_hold_8 : decode cX5_hold 8 = .ok (.arraylength, 1) := by decide +kernel
theorem dX5_hold_9 : decode cX5_hold 9 = .ok (.if_icmp .ge 23, 3) := by decide +kernel
theorem dX5_hold_12 : decode cX5_hold 12 = .ok (.aload_n 0, 1) := by decide +kernel
theorem dX5_hold_13 : decode cX5_hold 13 = .ok (.getfield 25, 3) := by decide +kernel
theorem dX5_hold_16 : decode cX5_hold 16 = .ok (.aload_n 0, 1) := by decide +kernel
theorem dX5_hold_17 : decode cX5_hold 17 = .ok (.getfield 29, 3) := by decide +kernel
theorem dX5_hold_20 : decode cX5_hold 20 = .ok (.iload_n 1, 1) := by decide +kernel
theorem dX5_hold_21 : decode cX5_hold 21 = .ok (.iastore, 1) := by decide +kernel
theorem dX5_hold_22 : decode cX5_hold 22 = .ok (.aload_n 0, 1) := by decide +kernel
theorem dX5_hold_23 : decode cX5_hold 23 = .ok (.dup, 1) := by decide +kernel
theorem dX5_hold_24 : decode cX5_hold 24 = .ok (.getfield 29, 3) := by decide +kernel
theorem dX5_hold_27 : decode cX5_hold 27 = .ok (.iconst 1, 1) := by decide +kernel
theorem dX5_hold_28 : decode cX5_hold 28 = .ok (.iadd, 1) := by decide +kernel
theorem dX5_hold_29 : decode cX5_hold 29 = .ok (.putfield 29, 3) := by decide +kernel
theorem dX5_hold_32 : decode cX5_hold 32 = .ok (.return_, 1) := by decide +kernel
theorem dX5_release_0 : decode cX5_release 0 = .ok (.aload_n 0, 1) := by decide +kernel
theorem dX5_release_1 : decode cX5_release 1 = .ok (.getfield 29, 3) := by decide +kernel
theorem dX5_release_4 : decode cX5_release 4 = .ok (.ifCond .le 51, 3) := by decide +kernel
theorem dX5_release_7 : decode cX5_release 7 = .ok (.aload_n 0, 1) := by decide +kernel
theorem dX5_release_8 : decode cX5_release 8 = .ok (.getfield 25, 3) := by decide +kernel
theorem dX5_release_11 : decode cX5_release 11 = .ok (.aload_n 0, 1) := by decide +kernel
theorem dX5_release_12 : decode cX5_release 12 = .ok (.getfield 29, 3) := by decide +kernel
theorem dX5_release_15 : decode cX5_release 15 = .ok (.iconst 1, 1) := by decide +kernel
theorem dX5_release_16 : decode cX5_release 16 = .ok (.isub, 1) := by decide +kernel
theorem dX5_release_17 : decode cX5_release 17 = .ok (.iaload, 1) := by decide +kernel
theorem dX5_release_18 : decode cX5_release 18 = .ok (.invokestatic 136, 3) := by decide +kernel
theorem dX5_release_21 : decode cX5_release 21 = .ok (.iload_n 1, 1) := by decide +kernel
theorem dX5_release_22 : decode cX5_release 22 = .ok (.if_icmp .lt 33, 3) := by decide +kernel
theorem dX5_release_25 : decode cX5_release 25 = .ok (.aload_n 0, 1) := by decide +kernel
theorem dX5_release_26 : decode cX5_release 26 = .ok (.dup, 1) := by decide +kernel
theorem dX5_release_27 : decode cX5_release 27 = .ok (.getfield 29, 3) := by decide +kernel
theorem dX5_release_30 : decode cX5_release 30 = .ok (.iconst 1, 1) := by decide +kernel
theorem dX5_release_31 : decode cX5_release 31 = .ok (.isub, 1) := by decide +kernel
theorem dX5_release_32 : decode cX5_release 32 = .ok (.putfield 29, 3) := by decide +kernel
theorem dX5_release_35 : decode cX5_release 35 = .ok (.aload_n 0, 1) := by decide +kernel
theorem dX5_release_36 : decode cX5_release 36 = .ok (.sipush 1000, 3) := by decide +kernel
theorem dX5_release_39 : decode cX5_release 39 = .ok (.aload_n 0, 1) := by decide +kernel
theorem dX5_release_40 : decode cX5_release 40 = .ok (.getfield 25, 3) := by decide +kernel
theorem dX5_release_43 : decode cX5_release 43 = .ok (.aload_n 0, 1) := by decide +kernel
theorem dX5_release_44 : decode cX5_release 44 = .ok (.getfield 29, 3) := by decide +kernel
theorem dX5_release_47 : decode cX5_release 47 = .ok (.iaload, 1) := by decide +kernel
theorem dX5_release_48 : decode cX5_release 48 = .ok (.iadd, 1) := by decide +kernel
theorem dX5_release_49 : decode cX5_release 49 = .ok (.invokevirtual 124, 3) := by decide +kernel
theorem dX5_release_52 : decode cX5_release 52 = .ok (.goto (-52), 3) := by decide +kernel
theorem dX5_release_55 : decode cX5_release 55 = .ok (.return_, 1) := by decide +kernel
theorem dX5_write_0 : decode cX5_write 0 = .ok (.aload_n 0, 1) := by decide +kernel
theorem dX5_write_1 : decode cX5_write 1 = .ok (.getfield 36, 3) := by decide +kernel
theorem dX5_write_4 : decode cX5_write 4 = .ok (.bipush 64, 2) := by decide +kernel
theorem dX5_write_6 : decode cX5_write 6 = .ok (.if_icmp .ge 26, 3) := by decide +kernel
theorem dX5_write_9 : decode cX5_write 9 = .ok (.aload_n 0, 1) := by decide +kernel
theorem dX5_write_10 : decode cX5_write 10 = .ok (.getfield 21, 3) := by decide +kernel
theorem dX5_write_13 : decode cX5_write 13 = .ok (.getfield 145, 3) := by decide +kernel
theorem dX5_write_16 : decode cX5_write 16 = .ok (.aload_n 0, 1) := by decide +kernel
theorem dX5_write_17 : decode cX5_write 17 = .ok (.getfield 36, 3) := by decide +kernel
theorem dX5_write_20 : decode cX5_write 20 = .ok (.iload_n 1, 1) := by decide +kernel
theorem dX5_write_21 : decode cX5_write 21 = .ok (.iastore, 1) := by decide +kernel
theorem dX5_write_22 : decode cX5_write 22 = .ok (.aload_n 0, 1) := by decide +kernel
theorem dX5_write_23 : decode cX5_write 23 = .ok (.dup, 1) := by decide +kernel
theorem dX5_write_24 : decode cX5_write 24 = .ok (.getfield 36, 3) := by decide +kernel
theorem dX5_write_27 : decode cX5_write 27 = .ok (.iconst 1, 1) := by decide +kernel
theorem dX5_write_28 : decode cX5_write 28 = .ok (.iadd, 1) := by decide +kernel
theorem dX5_write_29 : decode cX5_write 29 = .ok (.putfield 36, 3) := by decide +kernel
theorem dX5_write_32 : decode cX5_write 32 = .ok (.return_, 1) := by decide +kernel
theorem dX6_init_0 : decode cX6_init 0 = .ok (.aload_n 0, 1) := by decide +kernel
theorem dX6_init_1 : decode cX6_init 1 = .ok (.invokespecial 3, 3) := by decide +kernel
theorem dX6_init_4 : decode cX6_init 4 = .ok (.aload_n 0, 1) := by decide +kernel
theorem dX6_init_5 : decode cX6_init 5 = .ok (.new 9, 3) := by decide +kernel
theorem dX6_init_8 : decode cX6_init 8 = .ok (.dup, 1) := by decide +kernel
theorem dX6_init_9 : decode cX6_init 9 = .ok (.sipush 200, 3) := by decide +kernel
theorem dX6_init_12 : decode cX6_init 12 = .ok (.invokespecial 11, 3) := by decide +kernel
theorem dX6_init_15 : decode cX6_init 15 = .ok (.putfield 14, 3) := by decide +kernel
theorem dX6_init_18 : decode cX6_init 18 = .ok (.aload_n 0, 1) := by decide +kernel
theorem dX6_init_19 : decode cX6_init 19 = .ok (.new 20, 3) := by decide +kernel
theorem dX6_init_22 : decode cX6_init 22 = .ok (.dup, 1) := by decide +kernel
theorem dX6_init_23 : decode cX6_init 23 = .ok (.invokespecial 22, 3) := by decide +kernel
theorem dX6_init_26 : decode cX6_init 26 = .ok (.putfield 23, 3) := by decide +kernel
theorem dX6_init_29 : decode cX6_init 29 = .ok (.aload_n 0, 1) := by decide +kernel
theorem dX6_init_30 : decode cX6_init 30 = .ok (.iconst 3, 1) := by decide +kernel
theorem dX6_init_31 : decode cX6_init 31 = .ok (.putfield 27, 3) := by decide +kernel
theorem dX6_init_34 : decode cX6_init 34 = .ok (.aload_n 0, 1) := by decide +kernel
theorem dX6_init_35 : decode cX6_init 35 = .ok (.ldc2_w 31, 3) := by decide +kernel
theorem dX6_init_38 : decode cX6_init 38 = .ok (.putfield 33, 3) := by decide +kernel
theorem dX6_init_41 : decode cX6_init 41 = .ok (.return_, 1) := by decide +kernel
theorem dX6_run_0 : decode cX6_run 0 = .ok (.aload_n 0, 1) := by decide +kernel
theorem dX6_run_1 : decode cX6_run 1 = .ok (.getfield 14, 3) := by decide +kernel
theorem dX6_run_4 : decode cX6_run 4 = .ok (.aload_n 1, 1) := by decide +kernel
theorem dX6_run_5 : decode cX6_run 5 = .ok (.iload_n 3, 1) := by decide +kernel
theorem dX6_run_6 : decode cX6_run 6 = .ok (.invokevirtual 37, 3) := by decide +kernel
theorem dX6_run_9 : decode cX6_run 9 = .ok (.aload_n 0, 1) := by decide +kernel
theorem dX6_run_10 : decode cX6_run 10 = .ok (.iconst (-1), 1) := by decide +kernel
theorem dX6_run_11 : decode cX6_run 11 = .ok (.putfield 27, 3) := by decide +kernel
theorem dX6_run_14 : decode cX6_run 14 = .ok (.aload_n 0, 1) := by decide +kernel
theorem dX6_run_15 : decode cX6_run 15 = .ok (.ldc2_w 31, 3) := by decide +kernel
theorem dX6_run_18 : decode cX6_run 18 = .ok (.putfield 33, 3) := by decide +kernel
theorem dX6_run_21 : decode cX6_run 21 = .ok (.iconst 0, 1) := by decide +kernel
theorem dX6_run_22 : decode cX6_run 22 = .ok (.istore 4, 2) := by decide +kernel
theorem dX6_run_24 : decode cX6_run 24 = .ok (.iload 4, 2) := by decide +kernel
theorem dX6_run_26 : decode cX6_run 26 = .ok (.sipush 201, 3) := by decide +kernel
theorem dX6_run_29 : decode cX6_run 29 = .ok (.if_icmp .gt 54, 3) := by decide +kernel
theorem dX6_run_32 : decode cX6_run 32 = .ok (.aload_n 0, 1) := by decide +kernel
theorem dX6_run_33 : decode cX6_run 33 = .ok (.getfield 27, 3) := by decide +kernel
theorem dX6_run_36 : decode cX6_run 36 = .ok (.iconst (-1), 1) := by decide +kernel
theorem dX6_run_37 : decode cX6_run 37 = .ok (.if_icmp .ne 46, 3) := by decide +kernel
theorem dX6_run_40 : decode cX6_run 40 = .ok (.aload_n 0, 1) := by decide +kernel
theorem dX6_run_41 : decode cX6_run 41 = .ok (.getfield 14, 3) := by decide +kernel
theorem dX6_run_44 : decode cX6_run 44 = .ok (.getfield 41, 3) := by decide +kernel
theorem dX6_run_47 : decode cX6_run 47 = .ok (.aload_n 0, 1) := by decide +kernel
theorem dX6_run_48 : decode cX6_run 48 = .ok (.getfield 14, 3) := by decide +kernel
theorem dX6_run_51 : decode cX6_run 51 = .ok (.getfield 44, 3) := by decide +kernel
theorem dX6_run_54 : decode cX6_run 54 = .ok (.if_icmp .ge 12, 3) := by decide +kernel
theorem dX6_run_57 : decode cX6_run 57 = .ok (.aload_n 0, 1) := by decide +kernel
theorem dX6_run_58 : decode cX6_run 58 = .ok (.aload_n 1, 1) := by decide +kernel
theorem dX6_run_59 : decode cX6_run 59 = .ok (.aload_n 2, 1) := by decide +kernel
theorem dX6_run_60 : decode cX6_run 60 = .ok (.invokevirtual 47, 3) := by decide +kernel
theorem dX6_run_63 : decode cX6_run 63 = .ok (.goto 14, 3) := by decide +kernel
theorem dX6_run_66 : decode cX6_run 66 = .ok (.aload_n 0, 1) := by decide +kernel
theorem dX6_run_67 : decode cX6_run 67 = .ok (.iconst 0, 1) := by decide +kernel
theorem dX6_run_68 : decode cX6_run 68 = .ok (.putfield 27, 3) := by decide +kernel
theorem dX6_run_71 : decode cX6_run 71 = .ok (.aload_n 0, 1) := by decide +kernel
theorem dX6_run_72 : decode cX6_run 72 = .ok (.iload_n 3, 1) := by decide +kernel
theorem dX6_run_73 : decode cX6_run 73 = .ok (.i2l, 1) := by decide +kernel
theorem dX6_run_74 : decode cX6_run 74 = .ok (.putfield 33, 3) := by decide +kernel
theorem dX6_run_77 : decode cX6_run 77 = .ok (.iinc 4 1, 3) := by decide +kernel
theorem dX6_run_80 : decode cX6_run 80 = .ok (.goto (-56), 3) := by decide +kernel
theorem dX6_run_83 : decode cX6_run 83 = .ok (.return_, 1) := by decide +kernel
theorem dX6_takeTurn_0 : decode cX6_takeTurn 0 = .ok (.aload_n 0, 1) := by decide +kernel
theorem dX6_takeTurn_1 : decode cX6_takeTurn 1 = .ok (.aload_n 2, 1) := by decide +kernel
theorem dX6_takeTurn_2 : decode cX6_takeTurn 2 = .ok (.invokevirtual 51, 3) := by decide +kernel
theorem dX6_takeTurn_5 : decode cX6_takeTurn 5 = .ok (.istore_n 3, 1) := by decide +kernel
theorem dX6_takeTurn_6 : decode cX6_takeTurn 6 = .ok (.iload_n 3, 1) := by decide +kernel
theorem dX6_takeTurn_7 : decode cX6_takeTurn 7 = .ok (.iconst (-1), 1) := by decide +kernel
theorem dX6_takeTurn_8 : decode cX6_takeTurn 8 = .ok (.if_icmp .ne 9, 3) := by decide +kernel
theorem dX6_takeTurn_11 : decode cX6_takeTurn 11 = .ok (.aload_n 0, 1) := by decide +kernel
theorem dX6_takeTurn_12 : decode cX6_takeTurn 12 = .ok (.iconst 3, 1) := by decide +kernel
theorem dX6_takeTurn_13 : decode cX6_takeTurn 13 = .ok (.putfield 27, 3) := by decide +kernel
theorem dX6_takeTurn_16 : decode cX6_takeTurn 16 = .ok (.return_, 1) := by decide +kernel
theorem dX6_takeTurn_17 : decode cX6_takeTurn 17 = .ok (.aload_n 0, 1) := by decide +kernel
theorem dX6_takeTurn_18 : decode cX6_takeTurn 18 = .ok (.getfield 23, 3) := by decide +kernel
theorem dX6_takeTurn_21 : decode cX6_takeTurn 21 = .ok (.aload_n 2, 1) := by decide +kernel
theorem dX6_takeTurn_22 : decode cX6_takeTurn 22 = .ok (.aload_n 2, 1) := by decide +kernel
theorem dX6_takeTurn_23 : decode cX6_takeTurn 23 = .ok (.getfield 55, 3) := by decide +kernel
theorem dX6_takeTurn_26 : decode cX6_takeTurn 26 = .ok (.iload_n 3, 1) := by decide +kernel
theorem dX6_takeTurn_27 : decode cX6_takeTurn 27 = .ok (.iaload, 1) := by decide +kernel
theorem dX6_takeTurn_28 : decode cX6_takeTurn 28 = .ok (.aload_n 2, 1) := by decide +kernel
theorem dX6_takeTurn_29 : decode cX6_takeTurn 29 = .ok (.getfield 61, 3) := by decide +kernel
theorem dX6_takeTurn_32 : decode cX6_takeTurn 32 = .ok (.iload_n 3, 1) := by decide +kernel
theorem dX6_takeTurn_33 : decode cX6_takeTurn 33 = .ok (.iaload, 1) := by decide +kernel
theorem dX6_takeTurn_34 : decode cX6_takeTurn 34 = .ok (.aload_n 0, 1) := by decide +kernel
theorem dX6_takeTurn_35 : decode cX6_takeTurn 35 = .ok (.getfield 14, 3) := by decide +kernel
theorem dX6_takeTurn_38 : decode cX6_takeTurn 38 = .ok (.invokevirtual 64, 3) := by decide +kernel
theorem dX6_takeTurn_41 : decode cX6_takeTurn 41 = .ok (.lstore 4, 2) := by decide +kernel
theorem dX6_takeTurn_43 : decode cX6_takeTurn 43 = .ok (.aload_n 0, 1) := by decide +kernel
theorem dX6_takeTurn_44 : decode cX6_takeTurn 44 = .ok (.getfield 23, 3) := by decide +kernel
theorem dX6_takeTurn_47 : decode cX6_takeTurn 47 = .ok (.getfield 68, 3) := by decide +kernel
theorem dX6_takeTurn_50 : decode cX6_takeTurn 50 = .ok (.ifCond .eq 11, 3) := by decide +kernel
theorem dX6_takeTurn_53 : decode cX6_takeTurn 53 = .ok (.aload_n 0, 1) := by decide +kernel
theorem dX6_takeTurn_54 : decode cX6_takeTurn 54 = .ok (.iconst 3, 1) := by decide +kernel
theorem dX6_takeTurn_55 : decode cX6_takeTurn 55 = .ok (.putfield 27, 3) := by decide +kernel
theorem dX6_takeTurn_58 : decode cX6_takeTurn 58 = .ok (.goto 58, 3) := by decide +kernel
theorem dX6_takeTurn_61 : decode cX6_takeTurn 61 = .ok (.aload_n 2, 1) := by decide +kernel
theorem dX6_takeTurn_62 : decode cX6_takeTurn 62 = .ok (.getfield 72, 3) := by decide +kernel
theorem dX6_takeTurn_65 : decode cX6_takeTurn 65 = .ok (.iload_n 3, 1) := by decide +kernel
theorem dX6_takeTurn_66 : decode cX6_takeTurn 66 = .ok (.iaload, 1) := by decide +kernel
theorem dX6_takeTurn_67 : decode cX6_takeTurn 67 = .ok (.iconst 3, 1) := by decide +kernel
theorem dX6_takeTurn_68 : decode cX6_takeTurn 68 = .ok (.if_icmp .ne 35, 3) := by decide +kernel
theorem dX6_takeTurn_71 : decode cX6_takeTurn 71 = .ok (.aload_n 0, 1) := by decide +kernel
theorem dX6_takeTurn_72 : decode cX6_takeTurn 72 = .ok (.lload 4, 2) := by decide +kernel
theorem dX6_takeTurn_74 : decode cX6_takeTurn 74 = .ok (.putfield 33, 3) := by decide +kernel
theorem dX6_takeTurn_77 : decode cX6_takeTurn 77 = .ok (.aload_n 0, 1) := by decide +kernel
theorem dX6_takeTurn_78 : decode cX6_takeTurn 78 = .ok (.lload 4, 2) := by decide +kernel
theorem dX6_takeTurn_80 : decode cX6_takeTurn 80 = .ok (.aload_n 0, 1) := by decide +kernel
theorem dX6_takeTurn_81 : decode cX6_takeTurn 81 = .ok (.getfield 14, 3) := by decide +kernel
theorem dX6_takeTurn_84 : decode cX6_takeTurn 84 = .ok (.getfield 75, 3) := by decide +kernel
theorem dX6_takeTurn_87 : decode cX6_takeTurn 87 = .ok (.i2l, 1) := by decide +kernel
theorem dX6_takeTurn_88 : decode cX6_takeTurn 88 = .ok (.lcmp, 1) := by decide +kernel
theorem dX6_takeTurn_89 : decode cX6_takeTurn 89 = .ok (.ifCond .ne 7, 3) := by decide +kernel
theorem dX6_takeTurn_92 : decode cX6_takeTurn 92 = .ok (.iconst 1, 1) := by decide +kernel
theorem dX6_takeTurn_93 : decode cX6_takeTurn 93 = .ok (.goto 4, 3) := by decide +kernel
theorem dX6_takeTurn_96 : decode cX6_takeTurn 96 = .ok (.iconst 2, 1) := by decide +kernel
theorem dX6_takeTurn_97 : decode cX6_takeTurn 97 = .ok (.putfield 27, 3) := by decide +kernel
theorem dX6_takeTurn_100 : decode cX6_takeTurn 100 = .ok (.goto 16, 3) := by decide +kernel
theorem dX6_takeTurn_103 : decode cX6_takeTurn 103 = .ok (.aload_n 0, 1) := by decide +kernel
theorem dX6_takeTurn_104 : decode cX6_takeTurn 104 = .ok (.aload_n 1, 1) := by decide +kernel
theorem dX6_takeTurn_105 : decode cX6_takeTurn 105 = .ok (.aload_n 2, 1) := by decide +kernel
theorem dX6_takeTurn_106 : decode cX6_takeTurn 106 = .ok (.getfield 72, 3) := by decide +kernel
theorem dX6_takeTurn_109 : decode cX6_takeTurn 109 = .ok (.iload_n 3, 1) := by decide +kernel
theorem dX6_takeTurn_110 : decode cX6_takeTurn 110 = .ok (.iaload, 1) := by decide +kernel
theorem dX6_takeTurn_111 : decode cX6_takeTurn 111 = .ok (.lload 4, 2) := by decide +kernel
theorem dX6_takeTurn_113 : decode cX6_takeTurn 113 = .ok (.invokevirtual 78, 3) := by decide +kernel
theorem dX6_takeTurn_116 : decode cX6_takeTurn 116 = .ok (.return_, 1) := by decide +kernel
theorem dX6_lineThatHolds_0 : decode cX6_lineThatHolds 0 = .ok (.iconst 0, 1) := by decide +kernel
theorem dX6_lineThatHolds_1 : decode cX6_lineThatHolds 1 = .ok (.istore_n 2, 1) := by decide +kernel
theorem dX6_lineThatHolds_2 : decode cX6_lineThatHolds 2 = .ok (.iload_n 2, 1) := by decide +kernel
theorem dX6_lineThatHolds_3 : decode cX6_lineThatHolds 3 = .ok (.aload_n 1, 1) := by decide +kernel
theorem dX6_lineThatHolds_4 : decode cX6_lineThatHolds 4 = .ok (.getfield 82, 3) := by decide +kernel
theorem dX6_lineThatHolds_7 : decode cX6_lineThatHolds 7 = .ok (.if_icmp .ge 49, 3) := by decide +kernel
theorem dX6_lineThatHolds_10 : decode cX6_lineThatHolds 10 = .ok (.aload_n 1, 1) := by decide +kernel
theorem dX6_lineThatHolds_11 : decode cX6_lineThatHolds 11 = .ok (.iload_n 2, 1) := by decide +kernel
theorem dX6_lineThatHolds_12 : decode cX6_lineThatHolds 12 = .ok (.invokevirtual 85, 3) := by decide +kernel
theorem dX6_lineThatHolds_15 : decode cX6_lineThatHolds 15 = .ok (.ifCond .ne 5, 3) := by decide +kernel
theorem dX6_lineThatHolds_18 : decode cX6_lineThatHolds 18 = .ok (.iload_n 2, 1) := by decide +kernel
theorem dX6_lineThatHolds_19 : decode cX6_lineThatHolds 19 = .ok (.ireturn, 1) := by decide +kernel
theorem dX6_lineThatHolds_20 : decode cX6_lineThatHolds 20 = .ok (.aload_n 0, 1) := by decide +kernel
theorem dX6_lineThatHolds_21 : decode cX6_lineThatHolds 21 = .ok (.getfield 23, 3) := by decide +kernel
theorem dX6_lineThatHolds_24 : decode cX6_lineThatHolds 24 = .ok (.aload_n 1, 1) := by decide +kernel
theorem dX6_lineThatHolds_25 : decode cX6_lineThatHolds 25 = .ok (.aload_n 1, 1) := by decide +kernel
theorem dX6_lineThatHolds_26 : decode cX6_lineThatHolds 26 = .ok (.iload_n 2, 1) := by decide +kernel
theorem dX6_lineThatHolds_27 : decode cX6_lineThatHolds 27 = .ok (.invokevirtual 89, 3) := by decide +kernel
theorem dX6_lineThatHolds_30 : decode cX6_lineThatHolds 30 = .ok (.aload_n 1, 1) := by decide +kernel
theorem dX6_lineThatHolds_31 : decode cX6_lineThatHolds 31 = .ok (.getfield 55, 3) := by decide +kernel
theorem dX6_lineThatHolds_34 : decode cX6_lineThatHolds 34 = .ok (.iload_n 2, 1) := by decide +kernel
theorem dX6_lineThatHolds_35 : decode cX6_lineThatHolds 35 = .ok (.iaload, 1) := by decide +kernel
theorem dX6_lineThatHolds_36 : decode cX6_lineThatHolds 36 = .ok (.aload_n 0, 1) := by decide +kernel
theorem dX6_lineThatHolds_37 : decode cX6_lineThatHolds 37 = .ok (.getfield 14, 3) := by decide +kernel
theorem dX6_lineThatHolds_40 : decode cX6_lineThatHolds 40 = .ok (.invokevirtual 64, 3) := by decide +kernel
theorem dX6_lineThatHolds_43 : decode cX6_lineThatHolds 43 = .ok (.lconst 0, 1) := by decide +kernel
theorem dX6_lineThatHolds_44 : decode cX6_lineThatHolds 44 = .ok (.lcmp, 1) := by decide +kernel
theorem dX6_lineThatHolds_45 : decode cX6_lineThatHolds 45 = .ok (.ifCond .eq 5, 3) := by decide +kernel
theorem dX6_lineThatHolds_48 : decode cX6_lineThatHolds 48 = .ok (.iload_n 2, 1) := by decide +kernel
theorem dX6_lineThatHolds_49 : decode cX6_lineThatHolds 49 = .ok (.ireturn, 1) := by decide +kernel
theorem dX6_lineThatHolds_50 : decode cX6_lineThatHolds 50 = .ok (.iinc 2 1, 3) := by decide +kernel
theorem dX6_lineThatHolds_53 : decode cX6_lineThatHolds 53 = .ok (.goto (-51), 3) := by decide +kernel
theorem dX6_lineThatHolds_56 : decode cX6_lineThatHolds 56 = .ok (.iconst (-1), 1) := by decide +kernel
theorem dX6_lineThatHolds_57 : decode cX6_lineThatHolds 57 = .ok (.ireturn, 1) := by decide +kernel
theorem dX6_letFall_0 : decode cX6_letFall 0 = .ok (.lload_n 3, 1) := by decide +kernel
theorem dX6_letFall_1 : decode cX6_letFall 1 = .ok (.lconst 1, 1) := by decide +kernel
theorem dX6_letFall_2 : decode cX6_letFall 2 = .ok (.lcmp, 1) := by decide +kernel
theorem dX6_letFall_3 : decode cX6_letFall 3 = .ok (.ifCond .lt 27, 3) := by decide +kernel
theorem dX6_letFall_6 : decode cX6_letFall 6 = .ok (.lload_n 3, 1) := by decide +kernel
theorem dX6_letFall_7 : decode cX6_letFall 7 = .ok (.aload_n 1, 1) := by decide +kernel
theorem dX6_letFall_8 : decode cX6_letFall 8 = .ok (.getfield 93, 3) := by decide +kernel
theorem dX6_letFall_11 : decode cX6_letFall 11 = .ok (.i2l, 1) := by decide +kernel
theorem dX6_letFall_12 : decode cX6_letFall 12 = .ok (.lcmp, 1) := by decide +kernel
theorem dX6_letFall_13 : decode cX6_letFall 13 = .ok (.ifCond .gt 17, 3) := by decide +kernel
theorem dX6_letFall_16 : decode cX6_letFall 16 = .ok (.aload_n 0, 1) := by decide +kernel
theorem dX6_letFall_17 : decode cX6_letFall 17 = .ok (.getfield 14, 3) := by decide +kernel
theorem dX6_letFall_20 : decode cX6_letFall 20 = .ok (.aload_n 1, 1) := by decide +kernel
theorem dX6_letFall_21 : decode cX6_letFall 21 = .ok (.iload_n 2, 1) := by decide +kernel
theorem dX6_letFall_22 : decode cX6_letFall 22 = .ok (.lload_n 3, 1) := by decide +kernel
theorem dX6_letFall_23 : decode cX6_letFall 23 = .ok (.l2i, 1) := by decide +kernel
theorem dX6_letFall_24 : decode cX6_letFall 24 = .ok (.invokevirtual 98, 3) := by decide +kernel
theorem dX6_letFall_27 : decode cX6_letFall 27 = .ok (.ifCond .ne 11, 3) := by decide +kernel
theorem dX6_letFall_30 : decode cX6_letFall 30 = .ok (.aload_n 0, 1) := by decide +kernel
theorem dX6_letFall_31 : decode cX6_letFall 31 = .ok (.iconst 3, 1) := by decide +kernel
theorem dX6_letFall_32 : decode cX6_letFall 32 = .ok (.putfield 27, 3) := by decide +kernel
theorem dX6_letFall_35 : decode cX6_letFall 35 = .ok (.goto 15, 3) := by decide +kernel
theorem dX6_letFall_38 : decode cX6_letFall 38 = .ok (.aload_n 0, 1) := by decide +kernel
theorem dX6_letFall_39 : decode cX6_letFall 39 = .ok (.getfield 14, 3) := by decide +kernel
theorem dX6_letFall_42 : decode cX6_letFall 42 = .ok (.aload_n 1, 1) := by decide +kernel
theorem dX6_letFall_43 : decode cX6_letFall 43 = .ok (.iload_n 2, 1) := by decide +kernel
theorem dX6_letFall_44 : decode cX6_letFall 44 = .ok (.lload_n 3, 1) := by decide +kernel
theorem dX6_letFall_45 : decode cX6_letFall 45 = .ok (.l2i, 1) := by decide +kernel
theorem dX6_letFall_46 : decode cX6_letFall 46 = .ok (.invokevirtual 102, 3) := by decide +kernel
theorem dX6_letFall_49 : decode cX6_letFall 49 = .ok (.pop, 1) := by decide +kernel
theorem dX6_letFall_50 : decode cX6_letFall 50 = .ok (.return_, 1) := by decide +kernel
theorem dX6_shareOf_0 : decode cX6_shareOf 0 = .ok (.iload_n 1, 1) := by decide +kernel
theorem dX6_shareOf_1 : decode cX6_shareOf 1 = .ok (.tableswitch 92 0 4 #[35, 44, 53, 65, 77], 35) := by decide +kernel
theorem dX6_shareOf_36 : decode cX6_shareOf 36 = .ok (.aload_n 0, 1) := by decide +kernel
theorem dX6_shareOf_37 : decode cX6_shareOf 37 = .ok (.getfield 14, 3) := by decide +kernel
theorem dX6_shareOf_40 : decode cX6_shareOf 40 = .ok (.getfield 104, 3) := by decide +kernel
theorem dX6_shareOf_43 : decode cX6_shareOf 43 = .ok (.i2l, 1) := by decide +kernel
theorem dX6_shareOf_44 : decode cX6_shareOf 44 = .ok (.lreturn, 1) := by decide +kernel
theorem dX6_shareOf_45 : decode cX6_shareOf 45 = .ok (.aload_n 0, 1) := by decide +kernel
theorem dX6_shareOf_46 : decode cX6_shareOf 46 = .ok (.getfield 14, 3) := by decide +kernel
theorem dX6_shareOf_49 : decode cX6_shareOf 49 = .ok (.getfield 107, 3) := by decide +kernel
theorem dX6_shareOf_52 : decode cX6_shareOf 52 = .ok (.i2l, 1) := by decide +kernel
theorem dX6_shareOf_53 : decode cX6_shareOf 53 = .ok (.lreturn, 1) := by decide +kernel
theorem dX6_shareOf_54 : decode cX6_shareOf 54 = .ok (.iload_n 2, 1) := by decide +kernel
theorem dX6_shareOf_55 : decode cX6_shareOf 55 = .ok (.i2l, 1) := by decide +kernel
theorem dX6_shareOf_56 : decode cX6_shareOf 56 = .ok (.aload_n 0, 1) := by decide +kernel
theorem dX6_shareOf_57 : decode cX6_shareOf 57 = .ok (.getfield 14, 3) := by decide +kernel
theorem dX6_shareOf_60 : decode cX6_shareOf 60 = .ok (.getfield 104, 3) := by decide +kernel
theorem dX6_shareOf_63 : decode cX6_shareOf 63 = .ok (.i2l, 1) := by decide +kernel
theorem dX6_shareOf_64 : decode cX6_shareOf 64 = .ok (.lmul, 1) := by decide +kernel
theorem dX6_shareOf_65 : decode cX6_shareOf 65 = .ok (.lreturn, 1) := by decide +kernel
theorem dX6_shareOf_66 : decode cX6_shareOf 66 = .ok (.iload_n 2, 1) := by decide +kernel
theorem dX6_shareOf_67 : decode cX6_shareOf 67 = .ok (.i2l, 1) := by decide +kernel
theorem dX6_shareOf_68 : decode cX6_shareOf 68 = .ok (.aload_n 0, 1) := by decide +kernel
theorem dX6_shareOf_69 : decode cX6_shareOf 69 = .ok (.getfield 14, 3) := by decide +kernel
theorem dX6_shareOf_72 : decode cX6_shareOf 72 = .ok (.getfield 107, 3) := by decide +kernel
theorem dX6_shareOf_75 : decode cX6_shareOf 75 = .ok (.i2l, 1) := by decide +kernel
theorem dX6_shareOf_76 : decode cX6_shareOf 76 = .ok (.lmul, 1) := by decide +kernel
theorem dX6_shareOf_77 : decode cX6_shareOf 77 = .ok (.lreturn, 1) := by decide +kernel
theorem dX6_shareOf_78 : decode cX6_shareOf 78 = .ok (.aload_n 0, 1) := by decide +kernel
theorem dX6_shareOf_79 : decode cX6_shareOf 79 = .ok (.getfield 27, 3) := by decide +kernel
theorem dX6_shareOf_82 : decode cX6_shareOf 82 = .ok (.iconst 2, 1) := by decide +kernel
theorem dX6_shareOf_83 : decode cX6_shareOf 83 = .ok (.if_icmp .ne 8, 3) := by decide +kernel
theorem dX6_shareOf_86 : decode cX6_shareOf 86 = .ok (.iload_n 2, 1) := by decide +kernel
theorem dX6_shareOf_87 : decode cX6_shareOf 87 = .ok (.i2l, 1) := by decide +kernel
theorem dX6_shareOf_88 : decode cX6_shareOf 88 = .ok (.goto 4, 3) := by decide +kernel
theorem dX6_shareOf_91 : decode cX6_shareOf 91 = .ok (.lconst 0, 1) := by decide +kernel
theorem dX6_shareOf_92 : decode cX6_shareOf 92 = .ok (.lreturn, 1) := by decide +kernel
theorem dX6_shareOf_93 : decode cX6_shareOf 93 = .ok (.aload_n 0, 1) := by decide +kernel
theorem dX6_shareOf_94 : decode cX6_shareOf 94 = .ok (.getfield 27, 3) := by decide +kernel
theorem dX6_shareOf_97 : decode cX6_shareOf 97 = .ok (.iconst 3, 1) := by decide +kernel
theorem dX6_shareOf_98 : decode cX6_shareOf 98 = .ok (.if_icmp .ne 8, 3) := by decide +kernel
theorem dX6_shareOf_101 : decode cX6_shareOf 101 = .ok (.iload_n 2, 1) := by decide +kernel
theorem dX6_shareOf_102 : decode cX6_shareOf 102 = .ok (.i2l, 1) := by decide +kernel
theorem dX6_shareOf_103 : decode cX6_shareOf 103 = .ok (.goto 4, 3) := by decide +kernel
theorem dX6_shareOf_106 : decode cX6_shareOf 106 = .ok (.lconst 0, 1) := by decide +kernel
theorem dX6_shareOf_107 : decode cX6_shareOf 107 = .ok (.lreturn, 1) := by decide +kernel
theorem dX7_init_0 : decode cX7_init 0 = .ok (.aload_n 0, 1) := by decide +kernel
theorem dX7_init_1 : decode cX7_init 1 = .ok (.invokespecial 1, 3) := by decide +kernel
theorem dX7_init_4 : decode cX7_init 4 = .ok (.aload_n 0, 1) := by decide +kernel
theorem dX7_init_5 : decode cX7_init 5 = .ok (.bipush 64, 2) := by decide +kernel
theorem dX7_init_7 : decode cX7_init 7 = .ok (.newarray .long, 2) := by decide +kernel
theorem dX7_init_9 : decode cX7_init 9 = .ok (.putfield 9, 3) := by decide +kernel
theorem dX7_init_12 : decode cX7_init 12 = .ok (.aload_n 0, 1) := by decide +kernel
theorem dX7_init_13 : decode cX7_init 13 = .ok (.iconst 0, 1) := by decide +kernel
theorem dX7_init_14 : decode cX7_init 14 = .ok (.putfield 15, 3) := by decide +kernel
theorem dX7_init_17 : decode cX7_init 17 = .ok (.aload_n 0, 1) := by decide +kernel
theorem dX7_init_18 : decode cX7_init 18 = .ok (.iconst 0, 1) := by decide +kernel
theorem dX7_init_19 : decode cX7_init 19 = .ok (.putfield 19, 3) := by decide +kernel
theorem dX7_init_22 : decode cX7_init 22 = .ok (.return_, 1) := by decide +kernel
theorem dX7_work_0 : decode cX7_work 0 = .ok (.aload_n 0, 1) := by decide +kernel
theorem dX7_work_1 : decode cX7_work 1 = .ok (.iconst 0, 1) := by decide +kernel
theorem dX7_work_2 : decode cX7_work 2 = .ok (.putfield 15, 3) := by decide +kernel
theorem dX7_work_5 : decode cX7_work 5 = .ok (.aload_n 0, 1) := by decide +kernel
theorem dX7_work_6 : decode cX7_work 6 = .ok (.iconst 0, 1) := by decide +kernel
theorem dX7_work_7 : decode cX7_work 7 = .ok (.putfield 19, 3) := by decide +kernel
theorem dX7_work_10 : decode cX7_work 10 = .ok (.iload_n 2, 1) := by decide +kernel
theorem dX7_work_11 : decode cX7_work 11 = .ok (.istore 5, 2) := by decide +kernel
theorem dX7_work_13 : decode cX7_work 13 = .ok (.iload 5, 2) := by decide +kernel
theorem dX7_work_15 : decode cX7_work 15 = .ok (.iload_n 3, 1) := by decide +kernel
theorem dX7_work_16 : decode cX7_work 16 = .ok (.if_icmp .ge 83, 3) := by decide +kernel
theorem dX7_work_19 : decode cX7_work 19 = .ok (.aload_n 0, 1) := by decide +kernel
theorem dX7_work_20 : decode cX7_work 20 = .ok (.getfield 19, 3) := by decide +kernel
theorem dX7_work_23 : decode cX7_work 23 = .ok (.ifCond .ne 76, 3) := by decide +kernel
theorem dX7_work_26 : decode cX7_work 26 = .ok (.aload_n 1, 1) := by decide +kernel
theorem dX7_work_27 : decode cX7_work 27 = .ok (.getfield 23, 3) := by decide +kernel
theorem dX7_work_30 : decode cX7_work 30 = .ok (.iload 5, 2) := by decide +kernel
theorem dX7_work_32 : decode cX7_work 32 = .ok (.iaload, 1) := by decide +kernel
theorem dX7_work_33 : decode cX7_work 33 = .ok (.istore 6, 2) := by decide +kernel
theorem dX7_work_35 : decode cX7_work 35 = .ok (.iload 6, 2) := by decide +kernel
theorem dX7_work_37 : decode cX7_work 37 = .ok (.sipush 1000, 3) := by decide +kernel
theorem dX7_work_40 : decode cX7_work 40 = .ok (.if_icmp .ge 13, 3) := by decide +kernel
theorem dX7_work_43 : decode cX7_work 43 = .ok (.aload_n 0, 1) := by decide +kernel
theorem dX7_work_44 : decode cX7_work 44 = .ok (.iload 6, 2) := by decide +kernel
theorem dX7_work_46 : decode cX7_work 46 = .ok (.i2l, 1) := by decide +kernel
theorem dX7_work_47 : decode cX7_work 47 = .ok (.invokevirtual 27, 3) := by decide +kernel
theorem dX7_work_50 : decode cX7_work 50 = .ok (.goto 43, 3) := by decide +kernel
theorem dX7_work_53 : decode cX7_work 53 = .ok (.iload 6, 2) := by decide +kernel
theorem dX7_work_55 : decode cX7_work 55 = .ok (.sipush 1000, 3) := by decide +kernel
theorem dX7_work_58 : decode cX7_work 58 = .ok (.isub, 1) := by decide +kernel
theorem dX7_work_59 : decode cX7_work 59 = .ok (.invokestatic 31, 3) := by decide +kernel
theorem dX7_work_62 : decode cX7_work 62 = .ok (.ifCond .eq 21, 3) := by decide +kernel
theorem dX7_work_65 : decode cX7_work 65 = .ok (.aload_n 0, 1) := by decide +kernel
theorem dX7_work_66 : decode cX7_work 66 = .ok (.iload 6, 2) := by decide +kernel
theorem dX7_work_68 : decode cX7_work 68 = .ok (.sipush 1000, 3) := by decide +kernel
theorem dX7_work_71 : decode cX7_work 71 = .ok (.isub, 1) := by decide +kernel
theorem dX7_work_72 : decode cX7_work 72 = .ok (.aload 4, 2) := by decide +kernel
theorem dX7_work_74 : decode cX7_work 74 = .ok (.invokestatic 37, 3) := by decide +kernel
theorem dX7_work_77 : decode cX7_work 77 = .ok (.invokevirtual 27, 3) := by decide +kernel
theorem dX7_work_80 : decode cX7_work 80 = .ok (.goto 13, 3) := by decide +kernel
theorem dX7_work_83 : decode cX7_work 83 = .ok (.aload_n 0, 1) := by decide +kernel
theorem dX7_work_84 : decode cX7_work 84 = .ok (.iload 6, 2) := by decide +kernel
theorem dX7_work_86 : decode cX7_work 86 = .ok (.sipush 1000, 3) := by decide +kernel
theorem dX7_work_89 : decode cX7_work 89 = .ok (.isub, 1) := by decide +kernel
theorem dX7_work_90 : decode cX7_work 90 = .ok (.invokevirtual 41, 3) := by decide +kernel
theorem dX7_work_93 : decode cX7_work 93 = .ok (.iinc 5 1, 3) := by decide +kernel
theorem dX7_work_96 : decode cX7_work 96 = .ok (.goto (-83), 3) := by decide +kernel
theorem dX7_work_99 : decode cX7_work 99 = .ok (.aload_n 0, 1) := by decide +kernel
theorem dX7_work_100 : decode cX7_work 100 = .ok (.getfield 19, 3) := by decide +kernel
theorem dX7_work_103 : decode cX7_work 103 = .ok (.ifCond .eq 7, 3) := by decide +kernel
theorem dX7_work_106 : decode cX7_work 106 = .ok (.lconst 0, 1) := by decide +kernel
theorem dX7_work_107 : decode cX7_work 107 = .ok (.goto 7, 3) := by decide +kernel
theorem dX7_work_110 : decode cX7_work 110 = .ok (.aload_n 0, 1) := by decide +kernel
theorem dX7_work_111 : decode cX7_work 111 = .ok (.invokevirtual 45, 3) := by decide +kernel
theorem dX7_work_114 : decode cX7_work 114 = .ok (.lreturn, 1) := by decide +kernel
theorem dX7_push_0 : decode cX7_push 0 = .ok (.aload_n 0, 1) := by decide +kernel
theorem dX7_push_1 : decode cX7_push 1 = .ok (.getfield 15, 3) := by decide +kernel
theorem dX7_push_4 : decode cX7_push 4 = .ok (.aload_n 0, 1) := by decide +kernel
theorem dX7_push_5 : decode cX7_push 5 = .ok (.getfield 9, 3) := by decide +kernel
theorem dX7_push_8 : decode cX7_push 8 = .ok (.arraylength, 1) := by decide +kernel
theorem dX7_push_9 : decode cX7_push 9 = .ok (.if_icmp .ge 42, 3) := by decide +kernel
theorem dX7_push_12 : decode cX7_push 12 = .ok (.lload_n 1, 1) := by decide +kernel
theorem dX7_push_13 : decode cX7_push 13 = .ok (.ldc2_w 49, 3) := by decide +kernel
theorem dX7_push_16 : decode cX7_push 16 = .ok (.lcmp, 1) := by decide +kernel
theorem dX7_push_17 : decode cX7_push 17 = .ok (.ifCond .gt 34, 3) := by decide +kernel
theorem dX7_push_20 : decode cX7_push 20 = .ok (.lload_n 1, 1) := by decide +kernel
theorem dX7_push_21 : decode cX7_push 21 = .ok (.ldc2_w 51, 3) := by decide +kernel
theorem dX7_push_24 : decode cX7_push 24 = .ok (.lcmp, 1) := by decide +kernel
theorem dX7_push_25 : decode cX7_push 25 = .ok (.ifCond .lt 26, 3) := by decide +kernel
theorem dX7_push_28 : decode cX7_push 28 = .ok (.aload_n 0, 1) := by decide +kernel
theorem dX7_push_29 : decode cX7_push 29 = .ok (.getfield 9, 3) := by decide +kernel
theorem dX7_push_32 : decode cX7_push 32 = .ok (.aload_n 0, 1) := by decide +kernel
theorem dX7_push_33 : decode cX7_push 33 = .ok (.getfield 15, 3) := by decide +kernel
theorem dX7_push_36 : decode cX7_push 36 = .ok (.lload_n 1, 1) := by decide +kernel
theorem dX7_push_37 : decode cX7_push 37 = .ok (.lastore, 1) := by decide +kernel
theorem dX7_push_38 : decode cX7_push 38 = .ok (.aload_n 0, 1) := by decide +kernel
theorem dX7_push_39 : decode cX7_push 39 = .ok (.dup, 1) := by decide +kernel
theorem dX7_push_40 : decode cX7_push 40 = .ok (.getfield 15, 3) := by decide +kernel
theorem dX7_push_43 : decode cX7_push 43 = .ok (.iconst 1, 1) := by decide +kernel
theorem dX7_push_44 : decode cX7_push 44 = .ok (.iadd, 1) := by decide +kernel
theorem dX7_push_45 : decode cX7_push 45 = .ok (.putfield 15, 3) := by decide +kernel
theorem dX7_push_48 : decode cX7_push 48 = .ok (.goto 8, 3) := by decide +kernel
theorem dX7_push_51 : decode cX7_push 51 = .ok (.aload_n 0, 1) := by decide +kernel
theorem dX7_push_52 : decode cX7_push 52 = .ok (.iconst 1, 1) := by decide +kernel
theorem dX7_push_53 : decode cX7_push 53 = .ok (.putfield 19, 3) := by decide +kernel
theorem dX7_push_56 : decode cX7_push 56 = .ok (.return_, 1) := by decide +kernel
theorem dX7_pop_0 : decode cX7_pop 0 = .ok (.aload_n 0, 1) := by decide +kernel
theorem dX7_pop_1 : decode cX7_pop 1 = .ok (.getfield 15, 3) := by decide +kernel
theorem dX7_pop_4 : decode cX7_pop 4 = .ok (.ifCond .ne 10, 3) := by decide +kernel
theorem dX7_pop_7 : decode cX7_pop 7 = .ok (.aload_n 0, 1) := by decide +kernel
theorem dX7_pop_8 : decode cX7_pop 8 = .ok (.iconst 1, 1) := by decide +kernel
theorem dX7_pop_9 : decode cX7_pop 9 = .ok (.putfield 19, 3) := by decide +kernel
theorem dX7_pop_12 : decode cX7_pop 12 = .ok (.lconst 0, 1) := by decide +kernel
theorem dX7_pop_13 : decode cX7_pop 13 = .ok (.lreturn, 1) := by decide +kernel
theorem dX7_pop_14 : decode cX7_pop 14 = .ok (.aload_n 0, 1) := by decide +kernel
theorem dX7_pop_15 : decode cX7_pop 15 = .ok (.dup, 1) := by decide +kernel
theorem dX7_pop_16 : decode cX7_pop 16 = .ok (.getfield 15, 3) := by decide +kernel
theorem dX7_pop_19 : decode cX7_pop 19 = .ok (.iconst 1, 1) := by decide +kernel
theorem dX7_pop_20 : decode cX7_pop 20 = .ok (.isub, 1) := by decide +kernel
theorem dX7_pop_21 : decode cX7_pop 21 = .ok (.putfield 15, 3) := by decide +kernel
theorem dX7_pop_24 : decode cX7_pop 24 = .ok (.aload_n 0, 1) := by decide +kernel
theorem dX7_pop_25 : decode cX7_pop 25 = .ok (.getfield 9, 3) := by decide +kernel
theorem dX7_pop_28 : decode cX7_pop 28 = .ok (.aload_n 0, 1) := by decide +kernel
theorem dX7_pop_29 : decode cX7_pop 29 = .ok (.getfield 15, 3) := by decide +kernel
theorem dX7_pop_32 : decode cX7_pop 32 = .ok (.laload, 1) := by decide +kernel
theorem dX7_pop_33 : decode cX7_pop 33 = .ok (.lreturn, 1) := by decide +kernel
theorem dX7_valueOfName_0 : decode cX7_valueOfName 0 = .ok (.iload_n 0, 1) := by decide +kernel
theorem dX7_valueOfName_1 : decode cX7_valueOfName 1 = .ok (.tableswitch 104 12 19 #[47, 53, 59, 70, 76, 82, 88, 96], 47) := by decide +kernel
theorem dX7_valueOfName_48 : decode cX7_valueOfName 48 = .ok (.aload_n 1, 1) := by decide +kernel
theorem dX7_valueOfName_49 : decode cX7_valueOfName 49 = .ok (.getfield 53, 3) := by decide +kernel
theorem dX7_valueOfName_52 : decode cX7_valueOfName 52 = .ok (.i2l, 1) := by decide +kernel
theorem dX7_valueOfName_53 : decode cX7_valueOfName 53 = .ok (.lreturn, 1) := by decide +kernel
theorem dX7_valueOfName_54 : decode cX7_valueOfName 54 = .ok (.aload_n 1, 1) := by decide +kernel
theorem dX7_valueOfName_55 : decode cX7_valueOfName 55 = .ok (.getfield 58, 3) := by decide +kernel
theorem dX7_valueOfName_58 : decode cX7_valueOfName 58 = .ok (.i2l, 1) := by decide +kernel
theorem dX7_valueOfName_59 : decode cX7_valueOfName 59 = .ok (.lreturn, 1) := by decide +kernel
theorem dX7_valueOfName_60 : decode cX7_valueOfName 60 = .ok (.aload_n 1, 1) := by decide +kernel
theorem dX7_valueOfName_61 : decode cX7_valueOfName 61 = .ok (.getfield 58, 3) := by decide +kernel
theorem dX7_valueOfName_64 : decode cX7_valueOfName 64 = .ok (.aload_n 1, 1) := by decide +kernel
theorem dX7_valueOfName_65 : decode cX7_valueOfName 65 = .ok (.getfield 53, 3) := by decide +kernel
theorem dX7_valueOfName_68 : decode cX7_valueOfName 68 = .ok (.isub, 1) := by decide +kernel
theorem dX7_valueOfName_69 : decode cX7_valueOfName 69 = .ok (.i2l, 1) := by decide +kernel
theorem dX7_valueOfName_70 : decode cX7_valueOfName 70 = .ok (.lreturn, 1) := by decide +kernel
theorem dX7_valueOfName_71 : decode cX7_valueOfName 71 = .ok (.aload_n 1, 1) := by decide +kernel
theorem dX7_valueOfName_72 : decode cX7_valueOfName 72 = .ok (.getfield 61, 3) := by decide +kernel
theorem dX7_valueOfName_75 : decode cX7_valueOfName 75 = .ok (.i2l, 1) := by decide +kernel
theorem dX7_valueOfName_76 : decode cX7_valueOfName 76 = .ok (.lreturn, 1) := by decide +kernel
theorem dX7_valueOfName_77 : decode cX7_valueOfName 77 = .ok (.aload_n 1, 1) := by decide +kernel
theorem dX7_valueOfName_78 : decode cX7_valueOfName 78 = .ok (.invokevirtual 64, 3) := by decide +kernel
theorem dX7_valueOfName_81 : decode cX7_valueOfName 81 = .ok (.i2l, 1) := by decide +kernel
theorem dX7_valueOfName_82 : decode cX7_valueOfName 82 = .ok (.lreturn, 1) := by decide +kernel
theorem dX7_valueOfName_83 : decode cX7_valueOfName 83 = .ok (.aload_n 1, 1) := by decide +kernel
theorem dX7_valueOfName_84 : decode cX7_valueOfName 84 = .ok (.invokevirtual 68, 3) := by decide +kernel
theorem dX7_valueOfName_87 : decode cX7_valueOfName 87 = .ok (.i2l, 1) := by decide +kernel
theorem dX7_valueOfName_88 : decode cX7_valueOfName 88 = .ok (.lreturn, 1) := by decide +kernel
theorem dX7_valueOfName_89 : decode cX7_valueOfName 89 = .ok (.aload_n 1, 1) := by decide +kernel
theorem dX7_valueOfName_90 : decode cX7_valueOfName 90 = .ok (.getfield 71, 3) := by decide +kernel
theorem dX7_valueOfName_93 : decode cX7_valueOfName 93 = .ok (.iconst 0, 1) := by decide +kernel
theorem dX7_valueOfName_94 : decode cX7_valueOfName 94 = .ok (.iaload, 1) := by decide +kernel
theorem dX7_valueOfName_95 : decode cX7_valueOfName 95 = .ok (.i2l, 1) := by decide +kernel
theorem dX7_valueOfName_96 : decode cX7_valueOfName 96 = .ok (.lreturn, 1) := by decide +kernel
theorem dX7_valueOfName_97 : decode cX7_valueOfName 97 = .ok (.aload_n 1, 1) := by decide +kernel
theorem dX7_valueOfName_98 : decode cX7_valueOfName 98 = .ok (.getfield 71, 3) := by decide +kernel
theorem dX7_valueOfName_101 : decode cX7_valueOfName 101 = .ok (.iconst 1, 1) := by decide +kernel
theorem dX7_valueOfName_102 : decode cX7_valueOfName 102 = .ok (.iaload, 1) := by decide +kernel
theorem dX7_valueOfName_103 : decode cX7_valueOfName 103 = .ok (.i2l, 1) := by decide +kernel
theorem dX7_valueOfName_104 : decode cX7_valueOfName 104 = .ok (.lreturn, 1) := by decide +kernel
theorem dX7_valueOfName_105 : decode cX7_valueOfName 105 = .ok (.aload_n 1, 1) := by decide +kernel
theorem dX7_valueOfName_106 : decode cX7_valueOfName 106 = .ok (.getfield 71, 3) := by decide +kernel
theorem dX7_valueOfName_109 : decode cX7_valueOfName 109 = .ok (.iconst 2, 1) := by decide +kernel
theorem dX7_valueOfName_110 : decode cX7_valueOfName 110 = .ok (.iaload, 1) := by decide +kernel
theorem dX7_valueOfName_111 : decode cX7_valueOfName 111 = .ok (.i2l, 1) := by decide +kernel
theorem dX7_valueOfName_112 : decode cX7_valueOfName 112 = .ok (.lreturn, 1) := by decide +kernel
theorem dX7_operate_0 : decode cX7_operate 0 = .ok (.aload_n 0, 1) := by decide +kernel
theorem dX7_operate_1 : decode cX7_operate 1 = .ok (.invokevirtual 45, 3) := by decide +kernel
theorem dX7_operate_4 : decode cX7_operate 4 = .ok (.lstore_n 2, 1) := by decide +kernel
theorem dX7_operate_5 : decode cX7_operate 5 = .ok (.iload_n 1, 1) := by decide +kernel
theorem dX7_operate_6 : decode cX7_operate 6 = .ok (.bipush 9, 2) := by decide +kernel
theorem dX7_operate_8 : decode cX7_operate 8 = .ok (.if_icmp .ne 19, 3) := by decide +kernel
theorem dX7_operate_11 : decode cX7_operate 11 = .ok (.aload_n 0, 1) := by decide +kernel
theorem dX7_operate_12 : decode cX7_operate 12 = .ok (.lload_n 2, 1) := by decide +kernel
theorem dX7_operate_13 : decode cX7_operate 13 = .ok (.lconst 0, 1) := by decide +kernel
theorem dX7_operate_14 : decode cX7_operate 14 = .ok (.lcmp, 1) := by decide +kernel
theorem dX7_operate_15 : decode cX7_operate 15 = .ok (.ifCond .ne 7, 3) := by decide +kernel
theorem dX7_operate_18 : decode cX7_operate 18 = .ok (.lconst 1, 1) := by decide +kernel
theorem dX7_operate_19 : decode cX7_operate 19 = .ok (.goto 4, 3) := by decide +kernel
theorem dX7_operate_22 : decode cX7_operate 22 = .ok (.lconst 0, 1) := by decide +kernel
theorem dX7_operate_23 : decode cX7_operate 23 = .ok (.invokevirtual 27, 3) := by decide +kernel
theorem dX7_operate_26 : decode cX7_operate 26 = .ok (.return_, 1) := by decide +kernel
theorem dX7_operate_27 : decode cX7_operate 27 = .ok (.aload_n 0, 1) := by decide +kernel
theorem dX7_operate_28 : decode cX7_operate 28 = .ok (.invokevirtual 45, 3) := by decide +kernel
theorem dX7_operate_31 : decode cX7_operate 31 = .ok (.lstore 4, 2) := by decide +kernel
theorem dX7_operate_33 : decode cX7_operate 33 = .ok (.iload_n 1, 1) := by decide +kernel
theorem dX7_operate_34 : decode cX7_operate 34 = .ok (.tableswitch 72 27 30 #[30, 41, 52, 62], 30) := by decide +kernel
theorem dX7_operate_64 : decode cX7_operate 64 = .ok (.aload_n 0, 1) := by decide +kernel
theorem dX7_operate_65 : decode cX7_operate 65 = .ok (.lload 4, 2) := by decide +kernel
theorem dX7_operate_67 : decode cX7_operate 67 = .ok (.lload_n 2, 1) := by decide +kernel
theorem dX7_operate_68 : decode cX7_operate 68 = .ok (.ladd, 1) := by decide +kernel
theorem dX7_operate_69 : decode cX7_operate 69 = .ok (.invokevirtual 27, 3) := by decide +kernel
theorem dX7_operate_72 : decode cX7_operate 72 = .ok (.goto 53, 3) := by decide +kernel
theorem dX7_operate_75 : decode cX7_operate 75 = .ok (.aload_n 0, 1) := by decide +kernel
theorem dX7_operate_76 : decode cX7_operate 76 = .ok (.lload 4, 2) := by decide +kernel
theorem dX7_operate_78 : decode cX7_operate 78 = .ok (.lload_n 2, 1) := by decide +kernel
theorem dX7_operate_79 : decode cX7_operate 79 = .ok (.lsub, 1) := by decide +kernel
theorem dX7_operate_80 : decode cX7_operate 80 = .ok (.invokevirtual 27, 3) := by decide +kernel
theorem dX7_operate_83 : decode cX7_operate 83 = .ok (.goto 42, 3) := by decide +kernel
theorem dX7_operate_86 : decode cX7_operate 86 = .ok (.aload_n 0, 1) := by decide +kernel
theorem dX7_operate_87 : decode cX7_operate 87 = .ok (.lload 4, 2) := by decide +kernel
theorem dX7_operate_89 : decode cX7_operate 89 = .ok (.lload_n 2, 1) := by decide +kernel
theorem dX7_operate_90 : decode cX7_operate 90 = .ok (.invokevirtual 74, 3) := by decide +kernel
theorem dX7_operate_93 : decode cX7_operate 93 = .ok (.goto 32, 3) := by decide +kernel
theorem dX7_operate_96 : decode cX7_operate 96 = .ok (.aload_n 0, 1) := by decide +kernel
theorem dX7_operate_97 : decode cX7_operate 97 = .ok (.lload 4, 2) := by decide +kernel
theorem dX7_operate_99 : decode cX7_operate 99 = .ok (.lload_n 2, 1) := by decide +kernel
theorem dX7_operate_100 : decode cX7_operate 100 = .ok (.invokevirtual 78, 3) := by decide +kernel
theorem dX7_operate_103 : decode cX7_operate 103 = .ok (.goto 22, 3) := by decide +kernel
theorem dX7_operate_106 : decode cX7_operate 106 = .ok (.aload_n 0, 1) := by decide +kernel
theorem dX7_operate_107 : decode cX7_operate 107 = .ok (.iload_n 1, 1) := by decide +kernel
theorem dX7_operate_108 : decode cX7_operate 108 = .ok (.lload 4, 2) := by decide +kernel
theorem dX7_operate_110 : decode cX7_operate 110 = .ok (.lload_n 2, 1) := by decide +kernel
theorem dX7_operate_111 : decode cX7_operate 111 = .ok (.invokestatic 81, 3) := by decide +kernel
theorem dX7_operate_114 : decode cX7_operate 114 = .ok (.ifCond .eq 7, 3) := by decide +kernel
theorem dX7_operate_117 : decode cX7_operate 117 = .ok (.lconst 1, 1) := by decide +kernel
theorem dX7_operate_118 : decode cX7_operate 118 = .ok (.goto 4, 3) := by decide +kernel
theorem dX7_operate_121 : decode cX7_operate 121 = .ok (.lconst 0, 1) := by decide +kernel
theorem dX7_operate_122 : decode cX7_operate 122 = .ok (.invokevirtual 27, 3) := by decide +kernel
theorem dX7_operate_125 : decode cX7_operate 125 = .ok (.return_, 1) := by decide +kernel
theorem dX7_multiply_0 : decode cX7_multiply 0 = .ok (.lload_n 1, 1) := by decide +kernel
theorem dX7_multiply_1 : decode cX7_multiply 1 = .ok (.lconst 0, 1) := by decide +kernel
theorem dX7_multiply_2 : decode cX7_multiply 2 = .ok (.lcmp, 1) := by decide +kernel
theorem dX7_multiply_3 : decode cX7_multiply 3 = .ok (.ifCond .eq 27, 3) := by decide +kernel
theorem dX7_multiply_6 : decode cX7_multiply 6 = .ok (.lload_n 3, 1) := by decide +kernel
theorem dX7_multiply_7 : decode cX7_multiply 7 = .ok (.invokestatic 85, 3) := by decide +kernel
theorem dX7_multiply_10 : decode cX7_multiply 10 = .ok (.ldc2_w 49, 3) := by decide +kernel
theorem dX7_multiply_13 : decode cX7_multiply 13 = .ok (.lload_n 1, 1) := by decide +kernel
theorem dX7_multiply_14 : decode cX7_multiply 14 = .ok (.invokestatic 85, 3) := by decide +kernel
theorem dX7_multiply_17 : decode cX7_multiply 17 = .ok (.ldiv, 1) := by decide +kernel
theorem dX7_multiply_18 : decode cX7_multiply 18 = .ok (.lcmp, 1) := by decide +kernel
theorem dX7_multiply_19 : decode cX7_multiply 19 = .ok (.ifCond .le 11, 3) := by decide +kernel
theorem dX7_multiply_22 : decode cX7_multiply 22 = .ok (.aload_n 0, 1) := by decide +kernel
theorem dX7_multiply_23 : decode cX7_multiply 23 = .ok (.iconst 1, 1) := by decide +kernel
theorem dX7_multiply_24 : decode cX7_multiply 24 = .ok (.putfield 19, 3) := by decide +kernel
theorem dX7_multiply_27 : decode cX7_multiply 27 = .ok (.goto 10, 3) := by decide +kernel
theorem dX7_multiply_30 : decode cX7_multiply 30 = .ok (.aload_n 0, 1) := by decide +kernel
theorem dX7_multiply_31 : decode cX7_multiply 31 = .ok (.lload_n 1, 1) := by decide +kernel
theorem dX7_multiply_32 : decode cX7_multiply 32 = .ok (.lload_n 3, 1) := by decide +kernel
theorem dX7_multiply_33 : decode cX7_multiply 33 = .ok (.lmul, 1) := by decide +kernel
theorem dX7_multiply_34 : decode cX7_multiply 34 = .ok (.invokevirtual 27, 3) := by decide +kernel
theorem dX7_multiply_37 : decode cX7_multiply 37 = .ok (.return_, 1) := by decide +kernel
theorem dX7_divide_0 : decode cX7_divide 0 = .ok (.lload_n 3, 1) := by decide +kernel
theorem dX7_divide_1 : decode cX7_divide 1 = .ok (.lconst 0, 1) := by decide +kernel
theorem dX7_divide_2 : decode cX7_divide 2 = .ok (.lcmp, 1) := by decide +kernel
theorem dX7_divide_3 : decode cX7_divide 3 = .ok (.ifCond .ne 11, 3) := by decide +kernel
theorem dX7_divide_6 : decode cX7_divide 6 = .ok (.aload_n 0, 1) := by decide +kernel
theorem dX7_divide_7 : decode cX7_divide 7 = .ok (.iconst 1, 1) := by decide +kernel
theorem dX7_divide_8 : decode cX7_divide 8 = .ok (.putfield 19, 3) := by decide +kernel
theorem dX7_divide_11 : decode cX7_divide 11 = .ok (.goto 10, 3) := by decide +kernel
theorem dX7_divide_14 : decode cX7_divide 14 = .ok (.aload_n 0, 1) := by decide +kernel
theorem dX7_divide_15 : decode cX7_divide 15 = .ok (.lload_n 1, 1) := by decide +kernel
theorem dX7_divide_16 : decode cX7_divide 16 = .ok (.lload_n 3, 1) := by decide +kernel
theorem dX7_divide_17 : decode cX7_divide 17 = .ok (.ldiv, 1) := by decide +kernel
theorem dX7_divide_18 : decode cX7_divide 18 = .ok (.invokevirtual 27, 3) := by decide +kernel
theorem dX7_divide_21 : decode cX7_divide 21 = .ok (.return_, 1) := by decide +kernel
theorem dX7_holds_0 : decode cX7_holds 0 = .ok (.iload_n 0, 1) := by decide +kernel
theorem dX7_holds_1 : decode cX7_holds 1 = .ok (.tableswitch 175 10 25 #[79, 97, 175, 175, 175, 175, 175, 175, 175, 175, 175, 115, 127, 139, 151, 163], 79) := by decide +kernel
theorem dX7_holds_80 : decode cX7_holds 80 = .ok (.lload_n 1, 1) := by decide +kernel
theorem dX7_holds_81 : decode cX7_holds 81 = .ok (.lconst 0, 1) := by decide +kernel
theorem dX7_holds_82 : decode cX7_holds 82 = .ok (.lcmp, 1) := by decide +kernel
theorem dX7_holds_83 : decode cX7_holds 83 = .ok (.ifCond .ne 9, 3) := by decide +kernel
theorem dX7_holds_86 : decode cX7_holds 86 = .ok (.lload_n 3, 1) := by decide +kernel
theorem dX7_holds_87 : decode cX7_holds 87 = .ok (.lconst 0, 1) := by decide +kernel
theorem dX7_holds_88 : decode cX7_holds 88 = .ok (.lcmp, 1) := by decide +kernel
theorem dX7_holds_89 : decode cX7_holds 89 = .ok (.ifCond .eq 7, 3) := by decide +kernel
theorem dX7_holds_92 : decode cX7_holds 92 = .ok (.iconst 1, 1) := by decide +kernel
theorem dX7_holds_93 : decode cX7_holds 93 = .ok (.goto 4, 3) := by decide +kernel
theorem dX7_holds_96 : decode cX7_holds 96 = .ok (.iconst 0, 1) := by decide +kernel
theorem dX7_holds_97 : decode cX7_holds 97 = .ok (.ireturn, 1) := by decide +kernel
theorem dX7_holds_98 : decode cX7_holds 98 = .ok (.lload_n 1, 1) := by decide +kernel
theorem dX7_holds_99 : decode cX7_holds 99 = .ok (.lconst 0, 1) := by decide +kernel
theorem dX7_holds_100 : decode cX7_holds 100 = .ok (.lcmp, 1) := by decide +kernel
theorem dX7_holds_101 : decode cX7_holds 101 = .ok (.ifCond .eq 13, 3) := by decide +kernel
theorem dX7_holds_104 : decode cX7_holds 104 = .ok (.lload_n 3, 1) := by decide +kernel
theorem dX7_holds_105 : decode cX7_holds 105 = .ok (.lconst 0, 1) := by decide +kernel
theorem dX7_holds_106 : decode cX7_holds 106 = .ok (.lcmp, 1) := by decide +kernel
theorem dX7_holds_107 : decode cX7_holds 107 = .ok (.ifCond .eq 7, 3) := by decide +kernel
theorem dX7_holds_110 : decode cX7_holds 110 = .ok (.iconst 1, 1) := by decide +kernel
theorem dX7_holds_111 : decode cX7_holds 111 = .ok (.goto 4, 3) := by decide +kernel
theorem dX7_holds_114 : decode cX7_holds 114 = .ok (.iconst 0, 1) := by decide +kernel
theorem dX7_holds_115 : decode cX7_holds 115 = .ok (.ireturn, 1) := by decide +kernel
theorem dX7_holds_116 : decode cX7_holds 116 = .ok (.lload_n 1, 1) := by decide +kernel
theorem dX7_holds_117 : decode cX7_holds 117 = .ok (.lload_n 3, 1) := by decide +kernel
theorem dX7_holds_118 : decode cX7_holds 118 = .ok (.lcmp, 1) := by decide +kernel
theorem dX7_holds_119 : decode cX7_holds 119 = .ok (.ifCond .ge 7, 3) := by decide +kernel
theorem dX7_holds_122 : decode cX7_holds 122 = .ok (.iconst 1, 1) := by decide +kernel
theorem dX7_holds_123 : decode cX7_holds 123 = .ok (.goto 4, 3) := by decide +kernel
theorem dX7_holds_126 : decode cX7_holds 126 = .ok (.iconst 0, 1) := by decide +kernel
theorem dX7_holds_127 : decode cX7_holds 127 = .ok (.ireturn, 1) := by decide +kernel
theorem dX7_holds_128 : decode cX7_holds 128 = .ok (.lload_n 1, 1) := by decide +kernel
theorem dX7_holds_129 : decode cX7_holds 129 = .ok (.lload_n 3, 1) := by decide +kernel
theorem dX7_holds_130 : decode cX7_holds 130 = .ok (.lcmp, 1) := by decide +kernel
theorem dX7_holds_131 : decode cX7_holds 131 = .ok (.ifCond .gt 7, 3) := by decide +kernel
theorem dX7_holds_134 : decode cX7_holds 134 = .ok (.iconst 1, 1) := by decide +kernel
theorem dX7_holds_135 : decode cX7_holds 135 = .ok (.goto 4, 3) := by decide +kernel
theorem dX7_holds_138 : decode cX7_holds 138 = .ok (.iconst 0, 1) := by decide +kernel
theorem dX7_holds_139 : decode cX7_holds 139 = .ok (.ireturn, 1) := by decide +kernel
theorem dX7_holds_140 : decode cX7_holds 140 = .ok (.lload_n 1, 1) := by decide +kernel
theorem dX7_holds_141 : decode cX7_holds 141 = .ok (.lload_n 3, 1) := by decide +kernel
theorem dX7_holds_142 : decode cX7_holds 142 = .ok (.lcmp, 1) := by decide +kernel
theorem dX7_holds_143 : decode cX7_holds 143 = .ok (.ifCond .ne 7, 3) := by decide +kernel
theorem dX7_holds_146 : decode cX7_holds 146 = .ok (.iconst 1, 1) := by decide +kernel
theorem dX7_holds_147 : decode cX7_holds 147 = .ok (.goto 4, 3) := by decide +kernel
theorem dX7_holds_150 : decode cX7_holds 150 = .ok (.iconst 0, 1) := by decide +kernel
theorem dX7_holds_151 : decode cX7_holds 151 = .ok (.ireturn, 1) := by decide +kernel
theorem dX7_holds_152 : decode cX7_holds 152 = .ok (.lload_n 1, 1) := by decide +kernel
theorem dX7_holds_153 : decode cX7_holds 153 = .ok (.lload_n 3, 1) := by decide +kernel
theorem dX7_holds_154 : decode cX7_holds 154 = .ok (.lcmp, 1) := by decide +kernel
theorem dX7_holds_155 : decode cX7_holds 155 = .ok (.ifCond .eq 7, 3) := by decide +kernel
theorem dX7_holds_158 : decode cX7_holds 158 = .ok (.iconst 1, 1) := by decide +kernel
theorem dX7_holds_159 : decode cX7_holds 159 = .ok (.goto 4, 3) := by decide +kernel
theorem dX7_holds_162 : decode cX7_holds 162 = .ok (.iconst 0, 1) := by decide +kernel
theorem dX7_holds_163 : decode cX7_holds 163 = .ok (.ireturn, 1) := by decide +kernel
theorem dX7_holds_164 : decode cX7_holds 164 = .ok (.lload_n 1, 1) := by decide +kernel
theorem dX7_holds_165 : decode cX7_holds 165 = .ok (.lload_n 3, 1) := by decide +kernel
theorem dX7_holds_166 : decode cX7_holds 166 = .ok (.lcmp, 1) := by decide +kernel
theorem dX7_holds_167 : decode cX7_holds 167 = .ok (.ifCond .lt 7, 3) := by decide +kernel
theorem dX7_holds_170 : decode cX7_holds 170 = .ok (.iconst 1, 1) := by decide +kernel
theorem dX7_holds_171 : decode cX7_holds 171 = .ok (.goto 4, 3) := by decide +kernel
theorem dX7_holds_174 : decode cX7_holds 174 = .ok (.iconst 0, 1) := by decide +kernel
theorem dX7_holds_175 : decode cX7_holds 175 = .ok (.ireturn, 1) := by decide +kernel
theorem dX7_holds_176 : decode cX7_holds 176 = .ok (.lload_n 1, 1) := by decide +kernel
theorem dX7_holds_177 : decode cX7_holds 177 = .ok (.lload_n 3, 1) := by decide +kernel
theorem dX7_holds_178 : decode cX7_holds 178 = .ok (.lcmp, 1) := by decide +kernel
theorem dX7_holds_179 : decode cX7_holds 179 = .ok (.ifCond .le 7, 3) := by decide +kernel
theorem dX7_holds_182 : decode cX7_holds 182 = .ok (.iconst 1, 1) := by decide +kernel
theorem dX7_holds_183 : decode cX7_holds 183 = .ok (.goto 4, 3) := by decide +kernel
theorem dX7_holds_186 : decode cX7_holds 186 = .ok (.iconst 0, 1) := by decide +kernel
theorem dX7_holds_187 : decode cX7_holds 187 = .ok (.ireturn, 1) := by decide +kernel
theorem dX8_init_0 : decode cX8_init 0 = .ok (.aload_n 0, 1) := by decide +kernel
theorem dX8_init_1 : decode cX8_init 1 = .ok (.invokespecial 3, 3) := by decide +kernel
theorem dX8_init_4 : decode cX8_init 4 = .ok (.aload_n 0, 1) := by decide +kernel
theorem dX8_init_5 : decode cX8_init 5 = .ok (.bipush 20, 2) := by decide +kernel
theorem dX8_init_7 : decode cX8_init 7 = .ok (.putfield 9, 3) := by decide +kernel
theorem dX8_init_10 : decode cX8_init 10 = .ok (.aload_n 0, 1) := by decide +kernel
theorem dX8_init_11 : decode cX8_init 11 = .ok (.iconst 3, 1) := by decide +kernel
theorem dX8_init_12 : decode cX8_init 12 = .ok (.newarray .int, 2) := by decide +kernel
theorem dX8_init_14 : decode cX8_init 14 = .ok (.putfield 15, 3) := by decide +kernel
theorem dX8_init_17 : decode cX8_init 17 = .ok (.aload_n 0, 1) := by decide +kernel
theorem dX8_init_18 : decode cX8_init 18 = .ok (.iconst 3, 1) := by decide +kernel
theorem dX8_init_19 : decode cX8_init 19 = .ok (.newarray .int, 2) := by decide +kernel
theorem dX8_init_21 : decode cX8_init 21 = .ok (.dup, 1) := by decide +kernel
theorem dX8_init_22 : decode cX8_init 22 = .ok (.iconst 0, 1) := by decide +kernel
theorem dX8_init_23 : decode cX8_init 23 = .ok (.iconst 2, 1) := by decide +kernel
theorem dX8_init_24 : decode cX8_init 24 = .ok (.iastore, 1) := by decide +kernel
theorem dX8_init_25 : decode cX8_init 25 = .ok (.dup, 1) := by decide +kernel
theorem dX8_init_26 : decode cX8_init 26 = .ok (.iconst 1, 1) := by decide +kernel
theorem dX8_init_27 : decode cX8_init 27 = .ok (.iconst 0, 1) := by decide +kernel
theorem dX8_init_28 : decode cX8_init 28 = .ok (.iastore, 1) := by decide +kernel
theorem dX8_init_29 : decode cX8_init 29 = .ok (.dup, 1) := by decide +kernel
theorem dX8_init_30 : decode cX8_init 30 = .ok (.iconst 2, 1) := by decide +kernel
theorem dX8_init_31 : decode cX8_init 31 = .ok (.iconst 0, 1) := by decide +kernel
theorem dX8_init_32 : decode cX8_init 32 = .ok (.iastore, 1) := by decide +kernel
theorem dX8_init_33 : decode cX8_init 33 = .ok (.putfield 19, 3) := by decide +kernel
theorem dX8_init_36 : decode cX8_init 36 = .ok (.aload_n 0, 1) := by decide +kernel
theorem dX8_init_37 : decode cX8_init 37 = .ok (.iconst 3, 1) := by decide +kernel
theorem dX8_init_38 : decode cX8_init 38 = .ok (.newarray .int, 2) := by decide +kernel
theorem dX8_init_40 : decode cX8_init 40 = .ok (.dup, 1) := by decide +kernel
theorem dX8_init_41 : decode cX8_init 41 = .ok (.iconst 0, 1) := by decide +kernel
theorem dX8_init_42 : decode cX8_init 42 = .ok (.iconst 1, 1) := by decide +kernel
theorem dX8_init_43 : decode cX8_init 43 = .ok (.iastore, 1) := by decide +kernel
theorem dX8_init_44 : decode cX8_init 44 = .ok (.dup, 1) := by decide +kernel
theorem dX8_init_45 : decode cX8_init 45 = .ok (.iconst 1, 1) := by decide +kernel
theorem dX8_init_46 : decode cX8_init 46 = .ok (.iconst 1, 1) := by decide +kernel
theorem dX8_init_47 : decode cX8_init 47 = .ok (.iastore, 1) := by decide +kernel
theorem dX8_init_48 : decode cX8_init 48 = .ok (.dup, 1) := by decide +kernel
theorem dX8_init_49 : decode cX8_init 49 = .ok (.iconst 2, 1) := by decide +kernel
theorem dX8_init_50 : decode cX8_init 50 = .ok (.iconst 1, 1) := by decide +kernel
theorem dX8_init_51 : decode cX8_init 51 = .ok (.iastore, 1) := by decide +kernel
theorem dX8_init_52 : decode cX8_init 52 = .ok (.putfield 22, 3) := by decide +kernel
theorem dX8_init_55 : decode cX8_init 55 = .ok (.aload_n 0, 1) := by decide +kernel
theorem dX8_init_56 : decode cX8_init 56 = .ok (.iconst 1, 1) := by decide +kernel
theorem dX8_init_57 : decode cX8_init 57 = .ok (.putfield 25, 3) := by decide +kernel
theorem dX8_init_60 : decode cX8_init 60 = .ok (.aload_n 0, 1) := by decide +kernel
theorem dX8_init_61 : decode cX8_init 61 = .ok (.iconst 0, 1) := by decide +kernel
theorem dX8_init_62 : decode cX8_init 62 = .ok (.putfield 28, 3) := by decide +kernel
theorem dX8_init_65 : decode cX8_init 65 = .ok (.aload_n 0, 1) := by decide +kernel
theorem dX8_init_66 : decode cX8_init 66 = .ok (.bipush 41, 2) := by decide +kernel
theorem dX8_init_68 : decode cX8_init 68 = .ok (.newarray .int, 2) := by decide +kernel
theorem dX8_init_70 : decode cX8_init 70 = .ok (.putfield 31, 3) := by decide +kernel
theorem dX8_init_73 : decode cX8_init 73 = .ok (.aload_n 0, 1) := by decide +kernel
theorem dX8_init_74 : decode cX8_init 74 = .ok (.iconst 0, 1) := by decide +kernel
theorem dX8_init_75 : decode cX8_init 75 = .ok (.putfield 34, 3) := by decide +kernel
theorem dX8_init_78 : decode cX8_init 78 = .ok (.aload_n 0, 1) := by decide +kernel
theorem dX8_init_79 : decode cX8_init 79 = .ok (.getfield 31, 3) := by decide +kernel
theorem dX8_init_82 : decode cX8_init 82 = .ok (.iconst 1, 1) := by decide +kernel
theorem dX8_init_83 : decode cX8_init 83 = .ok (.invokestatic 37, 3) := by decide +kernel
theorem dX8_init_86 : decode cX8_init 86 = .ok (.return_, 1) := by decide +kernel
theorem dX8_renew_0 : decode cX8_renew 0 = .ok (.aload_n 0, 1) := by decide +kernel
theorem dX8_renew_1 : decode cX8_renew 1 = .ok (.iload_n 1, 1) := by decide +kernel
theorem dX8_renew_2 : decode cX8_renew 2 = .ok (.putfield 9, 3) := by decide +kernel
theorem dX8_renew_5 : decode cX8_renew 5 = .ok (.aload_n 0, 1) := by decide +kernel
theorem dX8_renew_6 : decode cX8_renew 6 = .ok (.getfield 31, 3) := by decide +kernel
theorem dX8_renew_9 : decode cX8_renew 9 = .ok (.iconst 1, 1) := by decide +kernel
theorem dX8_renew_10 : decode cX8_renew 10 = .ok (.invokestatic 37, 3) := by decide +kernel
theorem dX8_renew_13 : decode cX8_renew 13 = .ok (.aload_n 0, 1) := by decide +kernel
theorem dX8_renew_14 : decode cX8_renew 14 = .ok (.dup, 1) := by decide +kernel
theorem dX8_renew_15 : decode cX8_renew 15 = .ok (.getfield 34, 3) := by decide +kernel
theorem dX8_renew_18 : decode cX8_renew 18 = .ok (.iconst 1, 1) := by decide +kernel
theorem dX8_renew_19 : decode cX8_renew 19 = .ok (.iadd, 1) := by decide +kernel
theorem dX8_renew_20 : decode cX8_renew 20 = .ok (.putfield 34, 3) := by decide +kernel
theorem dX8_renew_23 : decode cX8_renew 23 = .ok (.return_, 1) := by decide +kernel
theorem dX8_setKind_0 : decode cX8_setKind 0 = .ok (.aload_n 0, 1) := by decide +kernel
theorem dX8_setKind_1 : decode cX8_setKind 1 = .ok (.getfield 15, 3) := by decide +kernel
theorem dX8_setKind_4 : decode cX8_setKind 4 = .ok (.iload_n 1, 1) := by decide +kernel
theorem dX8_setKind_5 : decode cX8_setKind 5 = .ok (.iload_n 2, 1) := by decide +kernel
theorem dX8_setKind_6 : decode cX8_setKind 6 = .ok (.iastore, 1) := by decide +kernel
theorem dX8_setKind_7 : decode cX8_setKind 7 = .ok (.aload_n 0, 1) := by decide +kernel
theorem dX8_setKind_8 : decode cX8_setKind 8 = .ok (.getfield 19, 3) := by decide +kernel
theorem dX8_setKind_11 : decode cX8_setKind 11 = .ok (.iload_n 1, 1) := by decide +kernel
theorem dX8_setKind_12 : decode cX8_setKind 12 = .ok (.iload_n 3, 1) := by decide +kernel
theorem dX8_setKind_13 : decode cX8_setKind 13 = .ok (.iastore, 1) := by decide +kernel
theorem dX8_setKind_14 : decode cX8_setKind 14 = .ok (.aload_n 0, 1) := by decide +kernel
theorem dX8_setKind_15 : decode cX8_setKind 15 = .ok (.getfield 22, 3) := by decide +kernel
theorem dX8_setKind_18 : decode cX8_setKind 18 = .ok (.iload_n 1, 1) := by decide +kernel
theorem dX8_setKind_19 : decode cX8_setKind 19 = .ok (.iload 4, 2) := by decide +kernel
theorem dX8_setKind_21 : decode cX8_setKind 21 = .ok (.iastore, 1) := by decide +kernel
theorem dX8_setKind_22 : decode cX8_setKind 22 = .ok (.aload_n 0, 1) := by decide +kernel
theorem dX8_setKind_23 : decode cX8_setKind 23 = .ok (.dup, 1) := by decide +kernel
theorem dX8_setKind_24 : decode cX8_setKind 24 = .ok (.getfield 34, 3) := by decide +kernel
theorem dX8_setKind_27 : decode cX8_setKind 27 = .ok (.iconst 1, 1) := by decide +kernel
theorem dX8_setKind_28 : decode cX8_setKind 28 = .ok (.iadd, 1) := by decide +kernel
theorem dX8_setKind_29 : decode cX8_setKind 29 = .ok (.putfield 34, 3) := by decide +kernel
theorem dX8_setKind_32 : decode cX8_setKind 32 = .ok (.return_, 1) := by decide +kernel
theorem dX8_setCosts_0 : decode cX8_setCosts 0 = .ok (.aload_n 0, 1) := by decide +kernel
theorem dX8_setCosts_1 : decode cX8_setCosts 1 = .ok (.iload_n 1, 1) := by decide +kernel
theorem dX8_setCosts_2 : decode cX8_setCosts 2 = .ok (.putfield 25, 3) := by decide +kernel
theorem dX8_setCosts_5 : decode cX8_setCosts 5 = .ok (.aload_n 0, 1) := by decide +kernel
theorem dX8_setCosts_6 : decode cX8_setCosts 6 = .ok (.iload_n 2, 1) := by decide +kernel
theorem dX8_setCosts_7 : decode cX8_setCosts 7 = .ok (.putfield 28, 3) := by decide +kernel
theorem dX8_setCosts_10 : decode cX8_setCosts 10 = .ok (.aload_n 0, 1) := by decide +kernel
theorem dX8_setCosts_11 : decode cX8_setCosts 11 = .ok (.dup, 1) := by decide +kernel
theorem dX8_setCosts_12 : decode cX8_setCosts 12 = .ok (.getfield 34, 3) := by decide +kernel
theorem dX8_setCosts_15 : decode cX8_setCosts 15 = .ok (.iconst 1, 1) := by decide +kernel
theorem dX8_setCosts_16 : decode cX8_setCosts 16 = .ok (.iadd, 1) := by decide +kernel
theorem dX8_setCosts_17 : decode cX8_setCosts 17 = .ok (.putfield 34, 3) := by decide +kernel
theorem dX8_setCosts_20 : decode cX8_setCosts 20 = .ok (.return_, 1) := by decide +kernel
theorem dX8_setWeight_0 : decode cX8_setWeight 0 = .ok (.aload_n 0, 1) := by decide +kernel
theorem dX8_setWeight_1 : decode cX8_setWeight 1 = .ok (.getfield 31, 3) := by decide +kernel
theorem dX8_setWeight_4 : decode cX8_setWeight 4 = .ok (.iload_n 1, 1) := by decide +kernel
theorem dX8_setWeight_5 : decode cX8_setWeight 5 = .ok (.iload_n 2, 1) := by decide +kernel
theorem dX8_setWeight_6 : decode cX8_setWeight 6 = .ok (.iastore, 1) := by decide +kernel
theorem dX8_setWeight_7 : decode cX8_setWeight 7 = .ok (.aload_n 0, 1) := by decide +kernel
theorem dX8_setWeight_8 : decode cX8_setWeight 8 = .ok (.dup, 1) := by decide +kernel
theorem dX8_setWeight_9 : decode cX8_setWeight 9 = .ok (.getfield 34, 3) := by decide +kernel
theorem dX8_setWeight_12 : decode cX8_setWeight 12 = .ok (.iconst 1, 1) := by decide +kernel
theorem dX8_setWeight_13 : decode cX8_setWeight 13 = .ok (.iadd, 1) := by decide +kernel
theorem dX8_setWeight_14 : decode cX8_setWeight 14 = .ok (.putfield 34, 3) := by decide +kernel
theorem dX8_setWeight_17 : decode cX8_setWeight 17 = .ok (.return_, 1) := by decide +kernel
theorem dX8_hasKind_0 : decode cX8_hasKind 0 = .ok (.iload_n 1, 1) := by decide +kernel
theorem dX8_hasKind_1 : decode cX8_hasKind 1 = .ok (.ifCond .lt 12, 3) := by decide +kernel
theorem dX8_hasKind_4 : decode cX8_hasKind 4 = .ok (.iload_n 1, 1) := by decide +kernel
theorem dX8_hasKind_5 : decode cX8_hasKind 5 = .ok (.iconst 3, 1) := by decide +kernel
theorem dX8_hasKind_6 : decode cX8_hasKind 6 = .ok (.if_icmp .ge 7, 3) := by decide +kernel
theorem dX8_hasKind_9 : decode cX8_hasKind 9 = .ok (.iconst 1, 1) := by decide +kernel
theorem dX8_hasKind_10 : decode cX8_hasKind 10 = .ok (.goto 4, 3) := by decide +kernel
theorem dX8_hasKind_13 : decode cX8_hasKind 13 = .ok (.iconst 0, 1) := by decide +kernel
theorem dX8_hasKind_14 : decode cX8_hasKind 14 = .ok (.ireturn, 1) := by decide +kernel
theorem dX8_hasStep_0 : decode cX8_hasStep 0 = .ok (.iload_n 1, 1) := by decide +kernel
theorem dX8_hasStep_1 : decode cX8_hasStep 1 = .ok (.iconst 1, 1) := by decide +kernel
theorem dX8_hasStep_2 : decode cX8_hasStep 2 = .ok (.if_icmp .lt 15, 3) := by decide +kernel
theorem dX8_hasStep_5 : decode cX8_hasStep 5 = .ok (.iload_n 1, 1) := by decide +kernel
theorem dX8_hasStep_6 : decode cX8_hasStep 6 = .ok (.aload_n 0, 1) := by decide +kernel
theorem dX8_hasStep_7 : decode cX8_hasStep 7 = .ok (.getfield 9, 3) := by decide +kernel
theorem dX8_hasStep_10 : decode cX8_hasStep 10 = .ok (.if_icmp .gt 7, 3) := by decide +kernel
theorem dX8_hasStep_13 : decode cX8_hasStep 13 = .ok (.iconst 1, 1) := by decide +kernel
theorem dX8_hasStep_14 : decode cX8_hasStep 14 = .ok (.goto 4, 3) := by decide +kernel
theorem dX8_hasStep_17 : decode cX8_hasStep 17 = .ok (.iconst 0, 1) := by decide +kernel
theorem dX8_hasStep_18 : decode cX8_hasStep 18 = .ok (.ireturn, 1) := by decide +kernel
theorem dX8_hasStrength_0 : decode cX8_hasStrength 0 = .ok (.iload_n 1, 1) := by decide +kernel
theorem dX8_hasStrength_1 : decode cX8_hasStrength 1 = .ok (.ifCond .lt 15, 3) := by decide +kernel
theorem dX8_hasStrength_4 : decode cX8_hasStrength 4 = .ok (.iload_n 1, 1) := by decide +kernel
theorem dX8_hasStrength_5 : decode cX8_hasStrength 5 = .ok (.aload_n 0, 1) := by decide +kernel
theorem dX8_hasStrength_6 : decode cX8_hasStrength 6 = .ok (.getfield 9, 3) := by decide +kernel
theorem dX8_hasStrength_9 : decode cX8_hasStrength 9 = .ok (.if_icmp .gt 7, 3) := by decide +kernel
theorem dX8_hasStrength_12 : decode cX8_hasStrength 12 = .ok (.iconst 1, 1) := by decide +kernel
theorem dX8_hasStrength_13 : decode cX8_hasStrength 13 = .ok (.goto 4, 3) := by decide +kernel
theorem dX8_hasStrength_16 : decode cX8_hasStrength 16 = .ok (.iconst 0, 1) := by decide +kernel
theorem dX8_hasStrength_17 : decode cX8_hasStrength 17 = .ok (.ireturn, 1) := by decide +kernel
theorem dX8_breaks_0 : decode cX8_breaks 0 = .ok (.iload_n 2, 1) := by decide +kernel
theorem dX8_breaks_1 : decode cX8_breaks 1 = .ok (.iload_n 3, 1) := by decide +kernel
theorem dX8_breaks_2 : decode cX8_breaks 2 = .ok (.aload_n 0, 1) := by decide +kernel
theorem dX8_breaks_3 : decode cX8_breaks 3 = .ok (.getfield 15, 3) := by decide +kernel
theorem dX8_breaks_6 : decode cX8_breaks 6 = .ok (.iload_n 1, 1) := by decide +kernel
theorem dX8_breaks_7 : decode cX8_breaks 7 = .ok (.iaload, 1) := by decide +kernel
theorem dX8_breaks_8 : decode cX8_breaks 8 = .ok (.iadd, 1) := by decide +kernel
theorem dX8_breaks_9 : decode cX8_breaks 9 = .ok (.if_icmp .le 7, 3) := by decide +kernel
theorem dX8_breaks_12 : decode cX8_breaks 12 = .ok (.iconst 1, 1) := by decide +kernel
theorem dX8_breaks_13 : decode cX8_breaks 13 = .ok (.goto 4, 3) := by decide +kernel
theorem dX8_breaks_16 : decode cX8_breaks 16 = .ok (.iconst 0, 1) := by decide +kernel
theorem dX8_breaks_17 : decode cX8_breaks 17 = .ok (.ireturn, 1) := by decide +kernel
theorem dX8_costOf_0 : decode cX8_costOf 0 = .ok (.aload_n 0, 1) := by decide +kernel
theorem dX8_costOf_1 : decode cX8_costOf 1 = .ok (.getfield 25, 3) := by decide +kernel
theorem dX8_costOf_4 : decode cX8_costOf 4 = .ok (.aload_n 0, 1) := by decide +kernel
theorem dX8_costOf_5 : decode cX8_costOf 5 = .ok (.getfield 28, 3) := by decide +kernel
theorem dX8_costOf_8 : decode cX8_costOf 8 = .ok (.iload_n 2, 1) := by decide +kernel
theorem dX8_costOf_9 : decode cX8_costOf 9 = .ok (.imul, 1) := by decide +kernel
theorem dX8_costOf_10 : decode cX8_costOf 10 = .ok (.iadd, 1) := by decide +kernel
theorem dX8_costOf_11 : decode cX8_costOf 11 = .ok (.iload_n 3, 1) := by decide +kernel
theorem dX8_costOf_12 : decode cX8_costOf 12 = .ok (.ifCond .eq 12, 3) := by decide +kernel
theorem dX8_costOf_15 : decode cX8_costOf 15 = .ok (.aload_n 0, 1) := by decide +kernel
theorem dX8_costOf_16 : decode cX8_costOf 16 = .ok (.getfield 22, 3) := by decide +kernel
theorem dX8_costOf_19 : decode cX8_costOf 19 = .ok (.iload_n 1, 1) := by decide +kernel
theorem dX8_costOf_20 : decode cX8_costOf 20 = .ok (.iaload, 1) := by decide +kernel
theorem dX8_costOf_21 : decode cX8_costOf 21 = .ok (.goto 4, 3) := by decide +kernel
theorem dX8_costOf_24 : decode cX8_costOf 24 = .ok (.iconst 0, 1) := by decide +kernel
theorem dX8_costOf_25 : decode cX8_costOf 25 = .ok (.iadd, 1) := by decide +kernel
theorem dX8_costOf_26 : decode cX8_costOf 26 = .ok (.ireturn, 1) := by decide +kernel
theorem dX8_allPieces_0 : decode cX8_allPieces 0 = .ok (.aload_n 0, 1) := by decide +kernel
theorem dX8_allPieces_1 : decode cX8_allPieces 1 = .ok (.getfield 19, 3) := by decide +kernel
theorem dX8_allPieces_4 : decode cX8_allPieces 4 = .ok (.iconst 0, 1) := by decide +kernel
theorem dX8_allPieces_5 : decode cX8_allPieces 5 = .ok (.iaload, 1) := by decide +kernel
theorem dX8_allPieces_6 : decode cX8_allPieces 6 = .ok (.iconst 5, 1) := by decide +kernel
theorem dX8_allPieces_7 : decode cX8_allPieces 7 = .ok (.aload_n 0, 1) := by decide +kernel
theorem dX8_allPieces_8 : decode cX8_allPieces 8 = .ok (.getfield 19, 3) := by decide +kernel
theorem dX8_allPieces_11 : decode cX8_allPieces 11 = .ok (.iconst 1, 1) := by decide +kernel
theorem dX8_allPieces_12 : decode cX8_allPieces 12 = .ok (.iaload, 1) := by decide +kernel
theorem dX8_allPieces_13 : decode cX8_allPieces 13 = .ok (.imul, 1) := by decide +kernel
theorem dX8_allPieces_14 : decode cX8_allPieces 14 = .ok (.iadd, 1) := by decide +kernel
theorem dX8_allPieces_15 : decode cX8_allPieces 15 = .ok (.bipush 25, 2) := by decide +kernel
theorem dX8_allPieces_17 : decode cX8_allPieces 17 = .ok (.aload_n 0, 1) := by decide +kernel
theorem dX8_allPieces_18 : decode cX8_allPieces 18 = .ok (.getfield 19, 3) := by decide +kernel
theorem dX8_allPieces_21 : decode cX8_allPieces 21 = .ok (.iconst 2, 1) := by decide +kernel
theorem dX8_allPieces_22 : decode cX8_allPieces 22 = .ok (.iaload, 1) := by decide +kernel
theorem dX8_allPieces_23 : decode cX8_allPieces 23 = .ok (.imul, 1) := by decide +kernel
theorem dX8_allPieces_24 : decode cX8_allPieces 24 = .ok (.iadd, 1) := by decide +kernel
theorem dX8_allPieces_25 : decode cX8_allPieces 25 = .ok (.ireturn, 1) := by decide +kernel
theorem dX8_allWeights_0 : decode cX8_allWeights 0 = .ok (.iconst 0, 1) := by decide +kernel
theorem dX8_allWeights_1 : decode cX8_allWeights 1 = .ok (.istore_n 1, 1) := by decide +kernel
theorem dX8_allWeights_2 : decode cX8_allWeights 2 = .ok (.iconst 0, 1) := by decide +kernel
theorem dX8_allWeights_3 : decode cX8_allWeights 3 = .ok (.istore_n 2, 1) := by decide +kernel
theorem dX8_allWeights_4 : decode cX8_allWeights 4 = .ok (.iload_n 2, 1) := by decide +kernel
theorem dX8_allWeights_5 : decode cX8_allWeights 5 = .ok (.aload_n 0, 1) := by decide +kernel
theorem dX8_allWeights_6 : decode cX8_allWeights 6 = .ok (.getfield 9, 3) := by decide +kernel
theorem dX8_allWeights_9 : decode cX8_allWeights 9 = .ok (.if_icmp .gt 18, 3) := by decide +kernel
theorem dX8_allWeights_12 : decode cX8_allWeights 12 = .ok (.iload_n 1, 1) := by decide +kernel
theorem dX8_allWeights_13 : decode cX8_allWeights 13 = .ok (.aload_n 0, 1) := by decide +kernel
theorem dX8_allWeights_14 : decode cX8_allWeights 14 = .ok (.getfield 31, 3) := by decide +kernel
theorem dX8_allWeights_17 : decode cX8_allWeights 17 = .ok (.iload_n 2, 1) := by decide +kernel
theorem dX8_allWeights_18 : decode cX8_allWeights 18 = .ok (.iaload, 1) := by decide +kernel
theorem dX8_allWeights_19 : decode cX8_allWeights 19 = .ok (.iadd, 1) := by decide +kernel
theorem dX8_allWeights_20 : decode cX8_allWeights 20 = .ok (.istore_n 1, 1) := by decide +kernel
theorem dX8_allWeights_21 : decode cX8_allWeights 21 = .ok (.iinc 2 1, 3) := by decide +kernel
theorem dX8_allWeights_24 : decode cX8_allWeights 24 = .ok (.goto (-20), 3) := by decide +kernel
theorem dX8_allWeights_27 : decode cX8_allWeights 27 = .ok (.iload_n 1, 1) := by decide +kernel
theorem dX8_allWeights_28 : decode cX8_allWeights 28 = .ok (.ireturn, 1) := by decide +kernel
theorem dX8_strengthBehind_0 : decode cX8_strengthBehind 0 = .ok (.iconst 0, 1) := by decide +kernel
theorem dX8_strengthBehind_1 : decode cX8_strengthBehind 1 = .ok (.istore_n 2, 1) := by decide +kernel
theorem dX8_strengthBehind_2 : decode cX8_strengthBehind 2 = .ok (.iconst 0, 1) := by decide +kernel
theorem dX8_strengthBehind_3 : decode cX8_strengthBehind 3 = .ok (.istore_n 3, 1) := by decide +kernel
theorem dX8_strengthBehind_4 : decode cX8_strengthBehind 4 = .ok (.iload_n 3, 1) := by decide +kernel
theorem dX8_strengthBehind_5 : decode cX8_strengthBehind 5 = .ok (.aload_n 0, 1) := by decide +kernel
theorem dX8_strengthBehind_6 : decode cX8_strengthBehind 6 = .ok (.getfield 9, 3) := by decide +kernel
theorem dX8_strengthBehind_9 : decode cX8_strengthBehind 9 = .ok (.if_icmp .gt 25, 3) := by decide +kernel
theorem dX8_strengthBehind_12 : decode cX8_strengthBehind 12 = .ok (.iload_n 2, 1) := by decide +kernel
theorem dX8_strengthBehind_13 : decode cX8_strengthBehind 13 = .ok (.aload_n 0, 1) := by decide +kernel
theorem dX8_strengthBehind_14 : decode cX8_strengthBehind 14 = .ok (.getfield 31, 3) := by decide +kernel
theorem dX8_strengthBehind_17 : decode cX8_strengthBehind 17 = .ok (.iload_n 3, 1) := by decide +kernel
theorem dX8_strengthBehind_18 : decode cX8_strengthBehind 18 = .ok (.iaload, 1) := by decide +kernel
theorem dX8_strengthBehind_19 : decode cX8_strengthBehind 19 = .ok (.iadd, 1) := by decide +kernel
theorem dX8_strengthBehind_20 : decode cX8_strengthBehind 20 = .ok (.istore_n 2, 1) := by decide +kernel
theorem dX8_strengthBehind_21 : decode cX8_strengthBehind 21 = .ok (.iload_n 2, 1) := by decide +kernel
theorem dX8_strengthBehind_22 : decode cX8_strengthBehind 22 = .ok (.iload_n 1, 1) := by decide +kernel
theorem dX8_strengthBehind_23 : decode cX8_strengthBehind 23 = .ok (.if_icmp .le 5, 3) := by decide +kernel
theorem dX8_strengthBehind_26 : decode cX8_strengthBehind 26 = .ok (.iload_n 3, 1) := by decide +kernel
theorem dX8_strengthBehind_27 : decode cX8_strengthBehind 27 = .ok (.ireturn, 1) := by decide +kernel
theorem dX8_strengthBehind_28 : decode cX8_strengthBehind 28 = .ok (.iinc 3 1, 3) := by decide +kernel
theorem dX8_strengthBehind_31 : decode cX8_strengthBehind 31 = .ok (.goto (-27), 3) := by decide +kernel
theorem dX8_strengthBehind_34 : decode cX8_strengthBehind 34 = .ok (.aload_n 0, 1) := by decide +kernel
theorem dX8_strengthBehind_35 : decode cX8_strengthBehind 35 = .ok (.getfield 9, 3) := by decide +kernel
theorem dX8_strengthBehind_38 : decode cX8_strengthBehind 38 = .ok (.ireturn, 1) := by decide +kernel
theorem dX9_init_0 : decode cX9_init 0 = .ok (.aload_n 0, 1) := by decide +kernel
theorem dX9_init_1 : decode cX9_init 1 = .ok (.invokespecial 1, 3) := by decide +kernel
theorem dX9_init_4 : decode cX9_init 4 = .ok (.aload_n 0, 1) := by decide +kernel
theorem dX9_init_5 : decode cX9_init 5 = .ok (.iconst 0, 1) := by decide +kernel
theorem dX9_init_6 : decode cX9_init 6 = .ok (.newarray .int, 2) := by decide +kernel
theorem dX9_init_8 : decode cX9_init 8 = .ok (.putfield 7, 3) := by decide +kernel
theorem dX9_init_11 : decode cX9_init 11 = .ok (.aload_n 0, 1) := by decide +kernel
theorem dX9_init_12 : decode cX9_init 12 = .ok (.iconst 0, 1) := by decide +kernel
theorem dX9_init_13 : decode cX9_init 13 = .ok (.putfield 13, 3) := by decide +kernel
theorem dX9_init_16 : decode cX9_init 16 = .ok (.aload_n 0, 1) := by decide +kernel
theorem dX9_init_17 : decode cX9_init 17 = .ok (.iconst 0, 1) := by decide +kernel
theorem dX9_init_18 : decode cX9_init 18 = .ok (.putfield 17, 3) := by decide +kernel
theorem dX9_init_21 : decode cX9_init 21 = .ok (.aload_n 0, 1) := by decide +kernel
theorem dX9_init_22 : decode cX9_init 22 = .ok (.iconst 0, 1) := by decide +kernel
theorem dX9_init_23 : decode cX9_init 23 = .ok (.putfield 20, 3) := by decide +kernel
theorem dX9_init_26 : decode cX9_init 26 = .ok (.aload_n 0, 1) := by decide +kernel
theorem dX9_init_27 : decode cX9_init 27 = .ok (.iconst 0, 1) := by decide +kernel
theorem dX9_init_28 : decode cX9_init 28 = .ok (.putfield 23, 3) := by decide +kernel
theorem dX9_init_31 : decode cX9_init 31 = .ok (.aload_n 0, 1) := by decide +kernel
theorem dX9_init_32 : decode cX9_init 32 = .ok (.iconst 0, 1) := by decide +kernel
theorem dX9_init_33 : decode cX9_init 33 = .ok (.putfield 26, 3) := by decide +kernel
theorem dX9_init_36 : decode cX9_init 36 = .ok (.return_, 1) := by decide +kernel
theorem dX9_open_0 : decode cX9_open 0 = .ok (.aload_n 0, 1) := by decide +kernel
theorem dX9_open_1 : decode cX9_open 1 = .ok (.aload_n 1, 1) := by decide +kernel
theorem dX9_open_2 : decode cX9_open 2 = .ok (.putfield 7, 3) := by decide +kernel
theorem dX9_open_5 : decode cX9_open 5 = .ok (.aload_n 0, 1) := by decide +kernel
theorem dX9_open_6 : decode cX9_open 6 = .ok (.iload_n 2, 1) := by decide +kernel
theorem dX9_open_7 : decode cX9_open 7 = .ok (.aload_n 1, 1) := by decide +kernel
theorem dX9_open_8 : decode cX9_open 8 = .ok (.arraylength, 1) := by decide +kernel
theorem dX9_open_9 : decode cX9_open 9 = .ok (.invokestatic 29, 3) := by decide +kernel
theorem dX9_open_12 : decode cX9_open 12 = .ok (.putfield 13, 3) := by decide +kernel
theorem dX9_open_15 : decode cX9_open 15 = .ok (.aload_n 0, 1) := by decide +kernel
theorem dX9_open_16 : decode cX9_open 16 = .ok (.iconst 0, 1) := by decide +kernel
theorem dX9_open_17 : decode cX9_open 17 = .ok (.putfield 17, 3) := by decide +kernel
theorem dX9_open_20 : decode cX9_open 20 = .ok (.return_, 1) := by decide +kernel
theorem dX9_advance_0 : decode cX9_advance 0 = .ok (.aload_n 0, 1) := by decide +kernel
theorem dX9_advance_1 : decode cX9_advance 1 = .ok (.getfield 17, 3) := by decide +kernel
theorem dX9_advance_4 : decode cX9_advance 4 = .ok (.aload_n 0, 1) := by decide +kernel
theorem dX9_advance_5 : decode cX9_advance 5 = .ok (.getfield 13, 3) := by decide +kernel
theorem dX9_advance_8 : decode cX9_advance 8 = .ok (.if_icmp .ge 44, 3) := by decide +kernel
theorem dX9_advance_11 : decode cX9_advance 11 = .ok (.aload_n 0, 1) := by decide +kernel
theorem dX9_advance_12 : decode cX9_advance 12 = .ok (.getfield 7, 3) := by decide +kernel
theorem dX9_advance_15 : decode cX9_advance 15 = .ok (.aload_n 0, 1) := by decide +kernel
theorem dX9_advance_16 : decode cX9_advance 16 = .ok (.getfield 17, 3) := by decide +kernel
theorem dX9_advance_19 : decode cX9_advance 19 = .ok (.iaload, 1) := by decide +kernel
theorem dX9_advance_20 : decode cX9_advance 20 = .ok (.bipush 10, 2) := by decide +kernel
theorem dX9_advance_22 : decode cX9_advance 22 = .ok (.if_icmp .eq 17, 3) := by decide +kernel
theorem dX9_advance_25 : decode cX9_advance 25 = .ok (.aload_n 0, 1) := by decide +kernel
theorem dX9_advance_26 : decode cX9_advance 26 = .ok (.getfield 7, 3) := by decide +kernel
theorem dX9_advance_29 : decode cX9_advance 29 = .ok (.aload_n 0, 1) := by decide +kernel
theorem dX9_advance_30 : decode cX9_advance 30 = .ok (.getfield 17, 3) := by decide +kernel
theorem dX9_advance_33 : decode cX9_advance 33 = .ok (.iaload, 1) := by decide +kernel
theorem dX9_advance_34 : decode cX9_advance 34 = .ok (.bipush 32, 2) := by decide +kernel
theorem dX9_advance_36 : decode cX9_advance 36 = .ok (.if_icmp .ne 16, 3) := by decide +kernel
theorem dX9_advance_39 : decode cX9_advance 39 = .ok (.aload_n 0, 1) := by decide +kernel
theorem dX9_advance_40 : decode cX9_advance 40 = .ok (.dup, 1) := by decide +kernel
theorem dX9_advance_41 : decode cX9_advance 41 = .ok (.getfield 17, 3) := by decide +kernel
theorem dX9_advance_44 : decode cX9_advance 44 = .ok (.iconst 1, 1) := by decide +kernel
theorem dX9_advance_45 : decode cX9_advance 45 = .ok (.iadd, 1) := by decide +kernel
theorem dX9_advance_46 : decode cX9_advance 46 = .ok (.putfield 17, 3) := by decide +kernel
theorem dX9_advance_49 : decode cX9_advance 49 = .ok (.goto (-49), 3) := by decide +kernel
theorem dX9_advance_52 : decode cX9_advance 52 = .ok (.aload_n 0, 1) := by decide +kernel
theorem dX9_advance_53 : decode cX9_advance 53 = .ok (.aload_n 0, 1) := by decide +kernel
theorem dX9_advance_54 : decode cX9_advance 54 = .ok (.getfield 17, 3) := by decide +kernel
theorem dX9_advance_57 : decode cX9_advance 57 = .ok (.putfield 23, 3) := by decide +kernel
theorem dX9_advance_60 : decode cX9_advance 60 = .ok (.aload_n 0, 1) := by decide +kernel
theorem dX9_advance_61 : decode cX9_advance 61 = .ok (.iconst 0, 1) := by decide +kernel
theorem dX9_advance_62 : decode cX9_advance 62 = .ok (.putfield 26, 3) := by decide +kernel
theorem dX9_advance_65 : decode cX9_advance 65 = .ok (.aload_n 0, 1) := by decide +kernel
theorem dX9_advance_66 : decode cX9_advance 66 = .ok (.getfield 17, 3) := by decide +kernel
theorem dX9_advance_69 : decode cX9_advance 69 = .ok (.aload_n 0, 1) := by decide +kernel
theorem dX9_advance_70 : decode cX9_advance 70 = .ok (.getfield 13, 3) := by decide +kernel
theorem dX9_advance_73 : decode cX9_advance 73 = .ok (.if_icmp .lt 11, 3) := by decide +kernel
theorem dX9_advance_76 : decode cX9_advance 76 = .ok (.aload_n 0, 1) := by decide +kernel
theorem dX9_advance_77 : decode cX9_advance 77 = .ok (.iconst 0, 1) := by decide +kernel
theorem dX9_advance_78 : decode cX9_advance 78 = .ok (.putfield 20, 3) := by decide +kernel
theorem dX9_advance_81 : decode cX9_advance 81 = .ok (.goto 43, 3) := by decide +kernel
theorem dX9_advance_84 : decode cX9_advance 84 = .ok (.aload_n 0, 1) := by decide +kernel
theorem dX9_advance_85 : decode cX9_advance 85 = .ok (.aload_n 0, 1) := by decide +kernel
theorem dX9_advance_86 : decode cX9_advance 86 = .ok (.getfield 17, 3) := by decide +kernel
theorem dX9_advance_89 : decode cX9_advance 89 = .ok (.invokevirtual 35, 3) := by decide +kernel
theorem dX9_advance_92 : decode cX9_advance 92 = .ok (.ifCond .eq 10, 3) := by decide +kernel
theorem dX9_advance_95 : decode cX9_advance 95 = .ok (.aload_n 0, 1) := by decide +kernel
theorem dX9_advance_96 : decode cX9_advance 96 = .ok (.invokevirtual 39, 3) := by decide +kernel
theorem dX9_advance_99 : decode cX9_advance 99 = .ok (.goto 25, 3) := by decide +kernel
theorem dX9_advance_102 : decode cX9_advance 102 = .ok (.aload_n 0, 1) := by decide +kernel
theorem dX9_advance_103 : decode cX9_advance 103 = .ok (.aload_n 0, 1) := by decide +kernel
theorem dX9_advance_104 : decode cX9_advance 104 = .ok (.getfield 17, 3) := by decide +kernel
theorem dX9_advance_107 : decode cX9_advance 107 = .ok (.invokevirtual 42, 3) := by decide +kernel
theorem dX9_advance_110 : decode cX9_advance 110 = .ok (.ifCond .eq 10, 3) := by decide +kernel
theorem dX9_advance_113 : decode cX9_advance 113 = .ok (.aload_n 0, 1) := by decide +kernel
theorem dX9_advance_114 : decode cX9_advance 114 = .ok (.invokevirtual 45, 3) := by decide +kernel
theorem dX9_advance_117 : decode cX9_advance 117 = .ok (.goto 7, 3) := by decide +kernel
theorem dX9_advance_120 : decode cX9_advance 120 = .ok (.aload_n 0, 1) := by decide +kernel
theorem dX9_advance_121 : decode cX9_advance 121 = .ok (.invokevirtual 48, 3) := by decide +kernel
theorem dX9_advance_124 : decode cX9_advance 124 = .ok (.return_, 1) := by decide +kernel
theorem dX9_isDigitAt_0 : decode cX9_isDigitAt 0 = .ok (.iload_n 1, 1) := by decide +kernel
theorem dX9_isDigitAt_1 : decode cX9_isDigitAt 1 = .ok (.aload_n 0, 1) := by decide +kernel
theorem dX9_isDigitAt_2 : decode cX9_isDigitAt 2 = .ok (.getfield 13, 3) := by decide +kernel
theorem dX9_isDigitAt_5 : decode cX9_isDigitAt 5 = .ok (.if_icmp .ge 29, 3) := by decide +kernel
theorem dX9_isDigitAt_8 : decode cX9_isDigitAt 8 = .ok (.aload_n 0, 1) := by decide +kernel
theorem dX9_isDigitAt_9 : decode cX9_isDigitAt 9 = .ok (.getfield 7, 3) := by decide +kernel
theorem dX9_isDigitAt_12 : decode cX9_isDigitAt 12 = .ok (.iload_n 1, 1) := by decide +kernel
theorem dX9_isDigitAt_13 : decode cX9_isDigitAt 13 = .ok (.iaload, 1) := by decide +kernel
theorem dX9_isDigitAt_14 : decode cX9_isDigitAt 14 = .ok (.bipush 48, 2) := by decide +kernel
theorem dX9_isDigitAt_16 : decode cX9_isDigitAt 16 = .ok (.if_icmp .lt 18, 3) := by decide +kernel
theorem dX9_isDigitAt_19 : decode cX9_isDigitAt 19 = .ok (.aload_n 0, 1) := by decide +kernel
theorem dX9_isDigitAt_20 : decode cX9_isDigitAt 20 = .ok (.getfield 7, 3) := by decide +kernel
theorem dX9_isDigitAt_23 : decode cX9_isDigitAt 23 = .ok (.iload_n 1, 1) := by decide +kernel
theorem dX9_isDigitAt_24 : decode cX9_isDigitAt 24 = .ok (.iaload, 1) := by decide +kernel
theorem dX9_isDigitAt_25 : decode cX9_isDigitAt 25 = .ok (.bipush 57, 2) := by decide +kernel
theorem dX9_isDigitAt_27 : decode cX9_isDigitAt 27 = .ok (.if_icmp .gt 7, 3) := by decide +kernel
theorem dX9_isDigitAt_30 : decode cX9_isDigitAt 30 = .ok (.iconst 1, 1) := by decide +kernel
theorem dX9_isDigitAt_31 : decode cX9_isDigitAt 31 = .ok (.goto 4, 3) := by decide +kernel
theorem dX9_isDigitAt_34 : decode cX9_isDigitAt 34 = .ok (.iconst 0, 1) := by decide +kernel
theorem dX9_isDigitAt_35 : decode cX9_isDigitAt 35 = .ok (.ireturn, 1) := by decide +kernel
theorem dX9_isLetterAt_0 : decode cX9_isLetterAt 0 = .ok (.iload_n 1, 1) := by decide +kernel
theorem dX9_isLetterAt_1 : decode cX9_isLetterAt 1 = .ok (.aload_n 0, 1) := by decide +kernel
theorem dX9_isLetterAt_2 : decode cX9_isLetterAt 2 = .ok (.getfield 13, 3) := by decide +kernel
theorem dX9_isLetterAt_5 : decode cX9_isLetterAt 5 = .ok (.if_icmp .ge 29, 3) := by decide +kernel
theorem dX9_isLetterAt_8 : decode cX9_isLetterAt 8 = .ok (.aload_n 0, 1) := by decide +kernel
theorem dX9_isLetterAt_9 : decode cX9_isLetterAt 9 = .ok (.getfield 7, 3) := by decide +kernel
theorem dX9_isLetterAt_12 : decode cX9_isLetterAt 12 = .ok (.iload_n 1, 1) := by decide +kernel
theorem dX9_isLetterAt_13 : decode cX9_isLetterAt 13 = .ok (.iaload, 1) := by decide +kernel
theorem dX9_isLetterAt_14 : decode cX9_isLetterAt 14 = .ok (.bipush 97, 2) := by decide +kernel
theorem dX9_isLetterAt_16 : decode cX9_isLetterAt 16 = .ok (.if_icmp .lt 18, 3) := by decide +kernel
theorem dX9_isLetterAt_19 : decode cX9_isLetterAt 19 = .ok (.aload_n 0, 1) := by decide +kernel
theorem dX9_isLetterAt_20 : decode cX9_isLetterAt 20 = .ok (.getfield 7, 3) := by decide +kernel
theorem dX9_isLetterAt_23 : decode cX9_isLetterAt 23 = .ok (.iload_n 1, 1) := by decide +kernel
theorem dX9_isLetterAt_24 : decode cX9_isLetterAt 24 = .ok (.iaload, 1) := by decide +kernel
theorem dX9_isLetterAt_25 : decode cX9_isLetterAt 25 = .ok (.bipush 122, 2) := by decide +kernel
theorem dX9_isLetterAt_27 : decode cX9_isLetterAt 27 = .ok (.if_icmp .gt 7, 3) := by decide +kernel
theorem dX9_isLetterAt_30 : decode cX9_isLetterAt 30 = .ok (.iconst 1, 1) := by decide +kernel
theorem dX9_isLetterAt_31 : decode cX9_isLetterAt 31 = .ok (.goto 4, 3) := by decide +kernel
theorem dX9_isLetterAt_34 : decode cX9_isLetterAt 34 = .ok (.iconst 0, 1) := by decide +kernel
theorem dX9_isLetterAt_35 : decode cX9_isLetterAt 35 = .ok (.ireturn, 1) := by decide +kernel
theorem dX9_readNumber_0 : decode cX9_readNumber 0 = .ok (.aload_n 0, 1) := by decide +kernel
theorem dX9_readNumber_1 : decode cX9_readNumber 1 = .ok (.iconst 2, 1) := by decide +kernel
theorem dX9_readNumber_2 : decode cX9_readNumber 2 = .ok (.putfield 20, 3) := by decide +kernel
theorem dX9_readNumber_5 : decode cX9_readNumber 5 = .ok (.aload_n 0, 1) := by decide +kernel
theorem dX9_readNumber_6 : decode cX9_readNumber 6 = .ok (.aload_n 0, 1) := by decide +kernel
theorem dX9_readNumber_7 : decode cX9_readNumber 7 = .ok (.getfield 17, 3) := by decide +kernel
theorem dX9_readNumber_10 : decode cX9_readNumber 10 = .ok (.invokevirtual 35, 3) := by decide +kernel
theorem dX9_readNumber_13 : decode cX9_readNumber 13 = .ok (.ifCond .eq 46, 3) := by decide +kernel
theorem dX9_readNumber_16 : decode cX9_readNumber 16 = .ok (.aload_n 0, 1) := by decide +kernel
theorem dX9_readNumber_17 : decode cX9_readNumber 17 = .ok (.sipush 1000, 3) := by decide +kernel
theorem dX9_readNumber_20 : decode cX9_readNumber 20 = .ok (.aload_n 0, 1) := by decide +kernel
theorem dX9_readNumber_21 : decode cX9_readNumber 21 = .ok (.getfield 26, 3) := by decide +kernel
theorem dX9_readNumber_24 : decode cX9_readNumber 24 = .ok (.bipush 10, 2) := by decide +kernel
theorem dX9_readNumber_26 : decode cX9_readNumber 26 = .ok (.imul, 1) := by decide +kernel
theorem dX9_readNumber_27 : decode cX9_readNumber 27 = .ok (.aload_n 0, 1) := by decide +kernel
theorem dX9_readNumber_28 : decode cX9_readNumber 28 = .ok (.getfield 7, 3) := by decide +kernel
theorem dX9_readNumber_31 : decode cX9_readNumber 31 = .ok (.aload_n 0, 1) := by decide +kernel
theorem dX9_readNumber_32 : decode cX9_readNumber 32 = .ok (.getfield 17, 3) := by decide +kernel
theorem dX9_readNumber_35 : decode cX9_readNumber 35 = .ok (.iaload, 1) := by decide +kernel
theorem dX9_readNumber_36 : decode cX9_readNumber 36 = .ok (.iadd, 1) := by decide +kernel
theorem dX9_readNumber_37 : decode cX9_readNumber 37 = .ok (.bipush 48, 2) := by decide +kernel
theorem dX9_readNumber_39 : decode cX9_readNumber 39 = .ok (.isub, 1) := by decide +kernel
theorem dX9_readNumber_40 : decode cX9_readNumber 40 = .ok (.invokestatic 29, 3) := by decide +kernel
theorem dX9_readNumber_43 : decode cX9_readNumber 43 = .ok (.putfield 26, 3) := by decide +kernel
theorem dX9_readNumber_46 : decode cX9_readNumber 46 = .ok (.aload_n 0, 1) := by decide +kernel
theorem dX9_readNumber_47 : decode cX9_readNumber 47 = .ok (.dup, 1) := by decide +kernel
theorem dX9_readNumber_48 : decode cX9_readNumber 48 = .ok (.getfield 17, 3) := by decide +kernel
theorem dX9_readNumber_51 : decode cX9_readNumber 51 = .ok (.iconst 1, 1) := by decide +kernel
theorem dX9_readNumber_52 : decode cX9_readNumber 52 = .ok (.iadd, 1) := by decide +kernel
theorem dX9_readNumber_53 : decode cX9_readNumber 53 = .ok (.putfield 17, 3) := by decide +kernel
theorem dX9_readNumber_56 : decode cX9_readNumber 56 = .ok (.goto (-51), 3) := by decide +kernel
theorem dX9_readNumber_59 : decode cX9_readNumber 59 = .ok (.return_, 1) := by decide +kernel
theorem dX9_readWord_0 : decode cX9_readWord 0 = .ok (.aload_n 0, 1) := by decide +kernel
theorem dX9_readWord_1 : decode cX9_readWord 1 = .ok (.aload_n 0, 1) := by decide +kernel
theorem dX9_readWord_2 : decode cX9_readWord 2 = .ok (.getfield 17, 3) := by decide +kernel
theorem dX9_readWord_5 : decode cX9_readWord 5 = .ok (.invokevirtual 42, 3) := by decide +kernel
theorem dX9_readWord_8 : decode cX9_readWord 8 = .ok (.ifCond .eq 16, 3) := by decide +kernel
theorem dX9_readWord_11 : decode cX9_readWord 11 = .ok (.aload_n 0, 1) := by decide +kernel
theorem dX9_readWord_12 : decode cX9_readWord 12 = .ok (.dup, 1) := by decide +kernel
theorem dX9_readWord_13 : decode cX9_readWord 13 = .ok (.getfield 17, 3) := by decide +kernel
theorem dX9_readWord_16 : decode cX9_readWord 16 = .ok (.iconst 1, 1) := by decide +kernel
theorem dX9_readWord_17 : decode cX9_readWord 17 = .ok (.iadd, 1) := by decide +kernel
theorem dX9_readWord_18 : decode cX9_readWord 18 = .ok (.putfield 17, 3) := by decide +kernel
theorem dX9_readWord_21 : decode cX9_readWord 21 = .ok (.goto (-21), 3) := by decide +kernel
theorem dX9_readWord_24 : decode cX9_readWord 24 = .ok (.aload_n 0, 1) := by decide +kernel
theorem dX9_readWord_25 : decode cX9_readWord 25 = .ok (.iconst 1, 1) := by decide +kernel
theorem dX9_readWord_26 : decode cX9_readWord 26 = .ok (.putfield 20, 3) := by decide +kernel
theorem dX9_readWord_29 : decode cX9_readWord 29 = .ok (.bipush 6, 2) := by decide +kernel
theorem dX9_readWord_31 : decode cX9_readWord 31 = .ok (.istore_n 1, 1) := by decide +kernel
theorem dX9_readWord_32 : decode cX9_readWord 32 = .ok (.iload_n 1, 1) := by decide +kernel
theorem dX9_readWord_33 : decode cX9_readWord 33 = .ok (.bipush 20, 2) := by decide +kernel
theorem dX9_readWord_35 : decode cX9_readWord 35 = .ok (.if_icmp .gt 25, 3) := by decide +kernel
theorem dX9_readWord_38 : decode cX9_readWord 38 = .ok (.aload_n 0, 1) := by decide +kernel
theorem dX9_readWord_39 : decode cX9_readWord 39 = .ok (.iload_n 1, 1) := by decide +kernel
theorem dX9_readWord_40 : decode cX9_readWord 40 = .ok (.invokestatic 51, 3) := by decide +kernel
theorem dX9_readWord_43 : decode cX9_readWord 43 = .ok (.invokevirtual 55, 3) := by decide +kernel
theorem dX9_readWord_46 : decode cX9_readWord 46 = .ok (.ifCond .eq 8, 3) := by decide +kernel
theorem dX9_readWord_49 : decode cX9_readWord 49 = .ok (.aload_n 0, 1) := by decide +kernel
theorem dX9_readWord_50 : decode cX9_readWord 50 = .ok (.iload_n 1, 1) := by decide +kernel
theorem dX9_readWord_51 : decode cX9_readWord 51 = .ok (.putfield 20, 3) := by decide +kernel
theorem dX9_readWord_54 : decode cX9_readWord 54 = .ok (.iinc 1 1, 3) := by decide +kernel
theorem dX9_readWord_57 : decode cX9_readWord 57 = .ok (.goto (-25), 3) := by decide +kernel
theorem dX9_readWord_60 : decode cX9_readWord 60 = .ok (.return_, 1) := by decide +kernel
theorem dX9_isWord_0 : decode cX9_isWord 0 = .ok (.aload_n 1, 1) := by decide +kernel
theorem dX9_isWord_1 : decode cX9_isWord 1 = .ok (.invokevirtual 59, 3) := by decide +kernel
theorem dX9_isWord_4 : decode cX9_isWord 4 = .ok (.aload_n 0, 1) := by decide +kernel
theorem dX9_isWord_5 : decode cX9_isWord 5 = .ok (.getfield 17, 3) := by decide +kernel
theorem dX9_isWord_8 : decode cX9_isWord 8 = .ok (.aload_n 0, 1) := by decide +kernel
theorem dX9_isWord_9 : decode cX9_isWord 9 = .ok (.getfield 23, 3) := by decide +kernel
theorem dX9_isWord_12 : decode cX9_isWord 12 = .ok (.isub, 1) := by decide +kernel
theorem dX9_isWord_13 : decode cX9_isWord 13 = .ok (.if_icmp .eq 5, 3) := by decide +kernel
theorem dX9_isWord_16 : decode cX9_isWord 16 = .ok (.iconst 0, 1) := by decide +kernel
theorem dX9_isWord_17 : decode cX9_isWord 17 = .ok (.ireturn, 1) := by decide +kernel
theorem dX9_isWord_18 : decode cX9_isWord 18 = .ok (.iconst 0, 1) := by decide +kernel
theorem dX9_isWord_19 : decode cX9_isWord 19 = .ok (.istore_n 2, 1) := by decide +kernel
theorem dX9_isWord_20 : decode cX9_isWord 20 = .ok (.iload_n 2, 1) := by decide +kernel
theorem dX9_isWord_21 : decode cX9_isWord 21 = .ok (.aload_n 1, 1) := by decide +kernel
theorem dX9_isWord_22 : decode cX9_isWord 22 = .ok (.invokevirtual 59, 3) := by decide +kernel
theorem dX9_isWord_25 : decode cX9_isWord 25 = .ok (.if_icmp .ge 30, 3) := by decide +kernel
theorem dX9_isWord_28 : decode cX9_isWord 28 = .ok (.aload_n 0, 1) := by decide +kernel
theorem dX9_isWord_29 : decode cX9_isWord 29 = .ok (.getfield 7, 3) := by decide +kernel
theorem dX9_isWord_32 : decode cX9_isWord 32 = .ok (.aload_n 0, 1) := by decide +kernel
theorem dX9_isWord_33 : decode cX9_isWord 33 = .ok (.getfield 23, 3) := by decide +kernel
theorem dX9_isWord_36 : decode cX9_isWord 36 = .ok (.iload_n 2, 1) := by decide +kernel
theorem dX9_isWord_37 : decode cX9_isWord 37 = .ok (.iadd, 1) := by decide +kernel
theorem dX9_isWord_38 : decode cX9_isWord 38 = .ok (.iaload, 1) := by decide +kernel
theorem dX9_isWord_39 : decode cX9_isWord 39 = .ok (.aload_n 1, 1) := by decide +kernel
theorem dX9_isWord_40 : decode cX9_isWord 40 = .ok (.iload_n 2, 1) := by decide +kernel
theorem dX9_isWord_41 : decode cX9_isWord 41 = .ok (.invokevirtual 64, 3) := by decide +kernel
theorem dX9_isWord_44 : decode cX9_isWord 44 = .ok (.if_icmp .eq 5, 3) := by decide +kernel
theorem dX9_isWord_47 : decode cX9_isWord 47 = .ok (.iconst 0, 1) := by decide +kernel
theorem dX9_isWord_48 : decode cX9_isWord 48 = .ok (.ireturn, 1) := by decide +kernel
theorem dX9_isWord_49 : decode cX9_isWord 49 = .ok (.iinc 2 1, 3) := by decide +kernel
theorem dX9_isWord_52 : decode cX9_isWord 52 = .ok (.goto (-32), 3) := by decide +kernel
theorem dX9_isWord_55 : decode cX9_isWord 55 = .ok (.iconst 1, 1) := by decide +kernel
theorem dX9_isWord_56 : decode cX9_isWord 56 = .ok (.ireturn, 1) := by decide +kernel
theorem dX9_readSign_0 : decode cX9_readSign 0 = .ok (.aload_n 0, 1) := by decide +kernel
theorem dX9_readSign_1 : decode cX9_readSign 1 = .ok (.aload_n 0, 1) := by decide +kernel
theorem dX9_readSign_2 : decode cX9_readSign 2 = .ok (.getfield 7, 3) := by decide +kernel
theorem dX9_readSign_5 : decode cX9_readSign 5 = .ok (.aload_n 0, 1) := by decide +kernel
theorem dX9_readSign_6 : decode cX9_readSign 6 = .ok (.getfield 17, 3) := by decide +kernel
theorem dX9_readSign_9 : decode cX9_readSign 9 = .ok (.iaload, 1) := by decide +kernel
theorem dX9_readSign_10 : decode cX9_readSign 10 = .ok (.invokestatic 68, 3) := by decide +kernel
theorem dX9_readSign_13 : decode cX9_readSign 13 = .ok (.putfield 20, 3) := by decide +kernel
theorem dX9_readSign_16 : decode cX9_readSign 16 = .ok (.aload_n 0, 1) := by decide +kernel
theorem dX9_readSign_17 : decode cX9_readSign 17 = .ok (.dup, 1) := by decide +kernel
theorem dX9_readSign_18 : decode cX9_readSign 18 = .ok (.getfield 17, 3) := by decide +kernel
theorem dX9_readSign_21 : decode cX9_readSign 21 = .ok (.iconst 1, 1) := by decide +kernel
theorem dX9_readSign_22 : decode cX9_readSign 22 = .ok (.iadd, 1) := by decide +kernel
theorem dX9_readSign_23 : decode cX9_readSign 23 = .ok (.putfield 17, 3) := by decide +kernel
theorem dX9_readSign_26 : decode cX9_readSign 26 = .ok (.aload_n 0, 1) := by decide +kernel
theorem dX9_readSign_27 : decode cX9_readSign 27 = .ok (.getfield 17, 3) := by decide +kernel
theorem dX9_readSign_30 : decode cX9_readSign 30 = .ok (.aload_n 0, 1) := by decide +kernel
theorem dX9_readSign_31 : decode cX9_readSign 31 = .ok (.getfield 13, 3) := by decide +kernel
theorem dX9_readSign_34 : decode cX9_readSign 34 = .ok (.if_icmp .ge 15, 3) := by decide +kernel
theorem dX9_readSign_37 : decode cX9_readSign 37 = .ok (.aload_n 0, 1) := by decide +kernel
theorem dX9_readSign_38 : decode cX9_readSign 38 = .ok (.getfield 7, 3) := by decide +kernel
theorem dX9_readSign_41 : decode cX9_readSign 41 = .ok (.aload_n 0, 1) := by decide +kernel
theorem dX9_readSign_42 : decode cX9_readSign 42 = .ok (.getfield 17, 3) := by decide +kernel
theorem dX9_readSign_45 : decode cX9_readSign 45 = .ok (.iaload, 1) := by decide +kernel
theorem dX9_readSign_46 : decode cX9_readSign 46 = .ok (.goto 4, 3) := by decide +kernel
theorem dX9_readSign_49 : decode cX9_readSign 49 = .ok (.iconst 0, 1) := by decide +kernel
theorem dX9_readSign_50 : decode cX9_readSign 50 = .ok (.istore_n 1, 1) := by decide +kernel
theorem dX9_readSign_51 : decode cX9_readSign 51 = .ok (.aload_n 0, 1) := by decide +kernel
theorem dX9_readSign_52 : decode cX9_readSign 52 = .ok (.getfield 20, 3) := by decide +kernel
theorem dX9_readSign_55 : decode cX9_readSign 55 = .ok (.istore_n 2, 1) := by decide +kernel
theorem dX9_readSign_56 : decode cX9_readSign 56 = .ok (.aload_n 0, 1) := by decide +kernel
theorem dX9_readSign_57 : decode cX9_readSign 57 = .ok (.getfield 20, 3) := by decide +kernel
theorem dX9_readSign_60 : decode cX9_readSign 60 = .ok (.bipush 21, 2) := by decide +kernel
theorem dX9_readSign_62 : decode cX9_readSign 62 = .ok (.if_icmp .ne 15, 3) := by decide +kernel
theorem dX9_readSign_65 : decode cX9_readSign 65 = .ok (.iload_n 1, 1) := by decide +kernel
theorem dX9_readSign_66 : decode cX9_readSign 66 = .ok (.bipush 61, 2) := by decide +kernel
theorem dX9_readSign_68 : decode cX9_readSign 68 = .ok (.if_icmp .ne 9, 3) := by decide +kernel
theorem dX9_readSign_71 : decode cX9_readSign 71 = .ok (.bipush 22, 2) := by decide +kernel
theorem dX9_readSign_73 : decode cX9_readSign 73 = .ok (.istore_n 2, 1) := by decide +kernel
theorem dX9_readSign_74 : decode cX9_readSign 74 = .ok (.goto 42, 3) := by decide +kernel
theorem dX9_readSign_77 : decode cX9_readSign 77 = .ok (.aload_n 0, 1) := by decide +kernel
theorem dX9_readSign_78 : decode cX9_readSign 78 = .ok (.getfield 20, 3) := by decide +kernel
theorem dX9_readSign_81 : decode cX9_readSign 81 = .ok (.bipush 21, 2) := by decide +kernel
theorem dX9_readSign_83 : decode cX9_readSign 83 = .ok (.if_icmp .ne 15, 3) := by decide +kernel
theorem dX9_readSign_86 : decode cX9_readSign 86 = .ok (.iload_n 1, 1) := by decide +kernel
theorem dX9_readSign_87 : decode cX9_readSign 87 = .ok (.bipush 62, 2) := by decide +kernel
theorem dX9_readSign_89 : decode cX9_readSign 89 = .ok (.if_icmp .ne 9, 3) := by decide +kernel
theorem dX9_readSign_92 : decode cX9_readSign 92 = .ok (.bipush 24, 2) := by decide +kernel
theorem dX9_readSign_94 : decode cX9_readSign 94 = .ok (.istore_n 2, 1) := by decide +kernel
theorem dX9_readSign_95 : decode cX9_readSign 95 = .ok (.goto 21, 3) := by decide +kernel
theorem dX9_readSign_98 : decode cX9_readSign 98 = .ok (.aload_n 0, 1) := by decide +kernel
theorem dX9_readSign_99 : decode cX9_readSign 99 = .ok (.getfield 20, 3) := by decide +kernel
theorem dX9_readSign_102 : decode cX9_readSign 102 = .ok (.bipush 26, 2) := by decide +kernel
theorem dX9_readSign_104 : decode cX9_readSign 104 = .ok (.if_icmp .ne 12, 3) := by decide +kernel
theorem dX9_readSign_107 : decode cX9_readSign 107 = .ok (.iload_n 1, 1) := by decide +kernel
theorem dX9_readSign_108 : decode cX9_readSign 108 = .ok (.bipush 61, 2) := by decide +kernel
theorem dX9_readSign_110 : decode cX9_readSign 110 = .ok (.if_icmp .ne 6, 3) := by decide +kernel
theorem dX9_readSign_113 : decode cX9_readSign 113 = .ok (.bipush 25, 2) := by decide +kernel
theorem dX9_readSign_115 : decode cX9_readSign 115 = .ok (.istore_n 2, 1) := by decide +kernel
theorem dX9_readSign_116 : decode cX9_readSign 116 = .ok (.iload_n 2, 1) := by decide +kernel
theorem dX9_readSign_117 : decode cX9_readSign 117 = .ok (.aload_n 0, 1) := by decide +kernel
theorem dX9_readSign_118 : decode cX9_readSign 118 = .ok (.getfield 20, 3) := by decide +kernel
theorem dX9_readSign_121 : decode cX9_readSign 121 = .ok (.if_icmp .eq 18, 3) := by decide +kernel
theorem dX9_readSign_124 : decode cX9_readSign 124 = .ok (.aload_n 0, 1) := by decide +kernel
theorem dX9_readSign_125 : decode cX9_readSign 125 = .ok (.iload_n 2, 1) := by decide +kernel
theorem dX9_readSign_126 : decode cX9_readSign 126 = .ok (.putfield 20, 3) := by decide +kernel
theorem dX9_readSign_129 : decode cX9_readSign 129 = .ok (.aload_n 0, 1) := by decide +kernel
theorem dX9_readSign_130 : decode cX9_readSign 130 = .ok (.dup, 1) := by decide +kernel
theorem dX9_readSign_131 : decode cX9_readSign 131 = .ok (.getfield 17, 3) := by decide +kernel
theorem dX9_readSign_134 : decode cX9_readSign 134 = .ok (.iconst 1, 1) := by decide +kernel
theorem dX9_readSign_135 : decode cX9_readSign 135 = .ok (.iadd, 1) := by decide +kernel
theorem dX9_readSign_136 : decode cX9_readSign 136 = .ok (.putfield 17, 3) := by decide +kernel
theorem dX9_readSign_139 : decode cX9_readSign 139 = .ok (.return_, 1) := by decide +kernel
theorem dX9_isName_0 : decode cX9_isName 0 = .ok (.iload_n 0, 1) := by decide +kernel
theorem dX9_isName_1 : decode cX9_isName 1 = .ok (.bipush 12, 2) := by decide +kernel
theorem dX9_isName_3 : decode cX9_isName 3 = .ok (.if_icmp .lt 13, 3) := by decide +kernel
theorem dX9_isName_6 : decode cX9_isName 6 = .ok (.iload_n 0, 1) := by decide +kernel
theorem dX9_isName_7 : decode cX9_isName 7 = .ok (.bipush 20, 2) := by decide +kernel
theorem dX9_isName_9 : decode cX9_isName 9 = .ok (.if_icmp .gt 7, 3) := by decide +kernel
theorem dX9_isName_12 : decode cX9_isName 12 = .ok (.iconst 1, 1) := by decide +kernel
theorem dX9_isName_13 : decode cX9_isName 13 = .ok (.goto 4, 3) := by decide +kernel
theorem dX9_isName_16 : decode cX9_isName 16 = .ok (.iconst 0, 1) := by decide +kernel
theorem dX9_isName_17 : decode cX9_isName 17 = .ok (.ireturn, 1) := by decide +kernel
theorem dX9_isComparison_0 : decode cX9_isComparison 0 = .ok (.iload_n 0, 1) := by decide +kernel
theorem dX9_isComparison_1 : decode cX9_isComparison 1 = .ok (.bipush 21, 2) := by decide +kernel
theorem dX9_isComparison_3 : decode cX9_isComparison 3 = .ok (.if_icmp .lt 13, 3) := by decide +kernel
theorem dX9_isComparison_6 : decode cX9_isComparison 6 = .ok (.iload_n 0, 1) := by decide +kernel
theorem dX9_isComparison_7 : decode cX9_isComparison 7 = .ok (.bipush 26, 2) := by decide +kernel
theorem dX9_isComparison_9 : decode cX9_isComparison 9 = .ok (.if_icmp .gt 7, 3) := by decide +kernel
theorem dX9_isComparison_12 : decode cX9_isComparison 12 = .ok (.iconst 1, 1) := by decide +kernel
theorem dX9_isComparison_13 : decode cX9_isComparison 13 = .ok (.goto 4, 3) := by decide +kernel
theorem dX9_isComparison_16 : decode cX9_isComparison 16 = .ok (.iconst 0, 1) := by decide +kernel
theorem dX9_isComparison_17 : decode cX9_isComparison 17 = .ok (.ireturn, 1) := by decide +kernel
theorem dX9_bindingOf_0 : decode cX9_bindingOf 0 = .ok (.iload_n 0, 1) := by decide +kernel
theorem dX9_bindingOf_1 : decode cX9_bindingOf 1 = .ok (.bipush 10, 2) := by decide +kernel
theorem dX9_bindingOf_3 : decode cX9_bindingOf 3 = .ok (.if_icmp .ne 5, 3) := by decide +kernel
theorem dX9_bindingOf_6 : decode cX9_bindingOf 6 = .ok (.iconst 1, 1) := by decide +kernel
theorem dX9_bindingOf_7 : decode cX9_bindingOf 7 = .ok (.ireturn, 1) := by decide +kernel
theorem dX9_bindingOf_8 : decode cX9_bindingOf 8 = .ok (.iload_n 0, 1) := by decide +kernel
theorem dX9_bindingOf_9 : decode cX9_bindingOf 9 = .ok (.bipush 11, 2) := by decide +kernel
theorem dX9_bindingOf_11 : decode cX9_bindingOf 11 = .ok (.if_icmp .ne 5, 3) := by decide +kernel
theorem dX9_bindingOf_14 : decode cX9_bindingOf 14 = .ok (.iconst 2, 1) := by decide +kernel
theorem dX9_bindingOf_15 : decode cX9_bindingOf 15 = .ok (.ireturn, 1) := by decide +kernel
theorem dX9_bindingOf_16 : decode cX9_bindingOf 16 = .ok (.iload_n 0, 1) := by decide +kernel
theorem dX9_bindingOf_17 : decode cX9_bindingOf 17 = .ok (.bipush 9, 2) := by decide +kernel
theorem dX9_bindingOf_19 : decode cX9_bindingOf 19 = .ok (.if_icmp .ne 5, 3) := by decide +kernel
theorem dX9_bindingOf_22 : decode cX9_bindingOf 22 = .ok (.iconst 3, 1) := by decide +kernel
theorem dX9_bindingOf_23 : decode cX9_bindingOf 23 = .ok (.ireturn, 1) := by decide +kernel
theorem dX9_bindingOf_24 : decode cX9_bindingOf 24 = .ok (.iload_n 0, 1) := by decide +kernel
theorem dX9_bindingOf_25 : decode cX9_bindingOf 25 = .ok (.invokestatic 72, 3) := by decide +kernel
theorem dX9_bindingOf_28 : decode cX9_bindingOf 28 = .ok (.ifCond .eq 5, 3) := by decide +kernel
theorem dX9_bindingOf_31 : decode cX9_bindingOf 31 = .ok (.iconst 4, 1) := by decide +kernel
theorem dX9_bindingOf_32 : decode cX9_bindingOf 32 = .ok (.ireturn, 1) := by decide +kernel
theorem dX9_bindingOf_33 : decode cX9_bindingOf 33 = .ok (.iload_n 0, 1) := by decide +kernel
theorem dX9_bindingOf_34 : decode cX9_bindingOf 34 = .ok (.bipush 27, 2) := by decide +kernel
theorem dX9_bindingOf_36 : decode cX9_bindingOf 36 = .ok (.if_icmp .eq 9, 3) := by decide +kernel
theorem dX9_bindingOf_39 : decode cX9_bindingOf 39 = .ok (.iload_n 0, 1) := by decide +kernel
theorem dX9_bindingOf_40 : decode cX9_bindingOf 40 = .ok (.bipush 28, 2) := by decide +kernel
theorem dX9_bindingOf_42 : decode cX9_bindingOf 42 = .ok (.if_icmp .ne 5, 3) := by decide +kernel
theorem dX9_bindingOf_45 : decode cX9_bindingOf 45 = .ok (.iconst 5, 1) := by decide +kernel
theorem dX9_bindingOf_46 : decode cX9_bindingOf 46 = .ok (.ireturn, 1) := by decide +kernel
theorem dX9_bindingOf_47 : decode cX9_bindingOf 47 = .ok (.iload_n 0, 1) := by decide +kernel
theorem dX9_bindingOf_48 : decode cX9_bindingOf 48 = .ok (.bipush 29, 2) := by decide +kernel
theorem dX9_bindingOf_50 : decode cX9_bindingOf 50 = .ok (.if_icmp .eq 9, 3) := by decide +kernel
theorem dX9_bindingOf_53 : decode cX9_bindingOf 53 = .ok (.iload_n 0, 1) := by decide +kernel
theorem dX9_bindingOf_54 : decode cX9_bindingOf 54 = .ok (.bipush 30, 2) := by decide +kernel
theorem dX9_bindingOf_56 : decode cX9_bindingOf 56 = .ok (.if_icmp .ne 8, 3) := by decide +kernel
theorem dX9_bindingOf_59 : decode cX9_bindingOf 59 = .ok (.bipush 6, 2) := by decide +kernel
theorem dX9_bindingOf_61 : decode cX9_bindingOf 61 = .ok (.goto 4, 3) := by decide +kernel
theorem dX9_bindingOf_64 : decode cX9_bindingOf 64 = .ok (.iconst 0, 1) := by decide +kernel
theorem dX9_bindingOf_65 : decode cX9_bindingOf 65 = .ok (.ireturn, 1) := by decide +kernel
theorem dX9_wordOf_0 : decode cX9_wordOf 0 = .ok (.iload_n 0, 1) := by decide +kernel
theorem dX9_wordOf_1 : decode cX9_wordOf 1 = .ok (.tableswitch 120 6 20 #[75, 78, 81, 84, 87, 90, 93, 96, 99, 102, 105, 108, 111, 114, 117], 75) := by decide +kernel
theorem dX9_wordOf_76 : decode cX9_wordOf 76 = .ok (.ldc 75, 2) := by decide +kernel
theorem dX9_wordOf_78 : decode cX9_wordOf 78 = .ok (.areturn, 1) := by decide +kernel
theorem dX9_wordOf_79 : decode cX9_wordOf 79 = .ok (.ldc 77, 2) := by decide +kernel
theorem dX9_wordOf_81 : decode cX9_wordOf 81 = .ok (.areturn, 1) := by decide +kernel
theorem dX9_wordOf_82 : decode cX9_wordOf 82 = .ok (.ldc 79, 2) := by decide +kernel
theorem dX9_wordOf_84 : decode cX9_wordOf 84 = .ok (.areturn, 1) := by decide +kernel
theorem dX9_wordOf_85 : decode cX9_wordOf 85 = .ok (.ldc 81, 2) := by decide +kernel
theorem dX9_wordOf_87 : decode cX9_wordOf 87 = .ok (.areturn, 1) := by decide +kernel
theorem dX9_wordOf_88 : decode cX9_wordOf 88 = .ok (.ldc 83, 2) := by decide +kernel
theorem dX9_wordOf_90 : decode cX9_wordOf 90 = .ok (.areturn, 1) := by decide +kernel
theorem dX9_wordOf_91 : decode cX9_wordOf 91 = .ok (.ldc 85, 2) := by decide +kernel
theorem dX9_wordOf_93 : decode cX9_wordOf 93 = .ok (.areturn, 1) := by decide +kernel
theorem dX9_wordOf_94 : decode cX9_wordOf 94 = .ok (.ldc 87, 2) := by decide +kernel
theorem dX9_wordOf_96 : decode cX9_wordOf 96 = .ok (.areturn, 1) := by decide +kernel
theorem dX9_wordOf_97 : decode cX9_wordOf 97 = .ok (.ldc 89, 2) := by decide +kernel
theorem dX9_wordOf_99 : decode cX9_wordOf 99 = .ok (.areturn, 1) := by decide +kernel
theorem dX9_wordOf_100 : decode cX9_wordOf 100 = .ok (.ldc 91, 2) := by decide +kernel
theorem dX9_wordOf_102 : decode cX9_wordOf 102 = .ok (.areturn, 1) := by decide +kernel
theorem dX9_wordOf_103 : decode cX9_wordOf 103 = .ok (.ldc 93, 2) := by decide +kernel
theorem dX9_wordOf_105 : decode cX9_wordOf 105 = .ok (.areturn, 1) := by decide +kernel
theorem dX9_wordOf_106 : decode cX9_wordOf 106 = .ok (.ldc 95, 2) := by decide +kernel
theorem dX9_wordOf_108 : decode cX9_wordOf 108 = .ok (.areturn, 1) := by decide +kernel
theorem dX9_wordOf_109 : decode cX9_wordOf 109 = .ok (.ldc 97, 2) := by decide +kernel
theorem dX9_wordOf_111 : decode cX9_wordOf 111 = .ok (.areturn, 1) := by decide +kernel
theorem dX9_wordOf_112 : decode cX9_wordOf 112 = .ok (.ldc 99, 2) := by decide +kernel
theorem dX9_wordOf_114 : decode cX9_wordOf 114 = .ok (.areturn, 1) := by decide +kernel
theorem dX9_wordOf_115 : decode cX9_wordOf 115 = .ok (.ldc 101, 2) := by decide +kernel
theorem dX9_wordOf_117 : decode cX9_wordOf 117 = .ok (.areturn, 1) := by decide +kernel
theorem dX9_wordOf_118 : decode cX9_wordOf 118 = .ok (.ldc 103, 2) := by decide +kernel
theorem dX9_wordOf_120 : decode cX9_wordOf 120 = .ok (.areturn, 1) := by decide +kernel
theorem dX9_wordOf_121 : decode cX9_wordOf 121 = .ok (.ldc 105, 2) := by decide +kernel
theorem dX9_wordOf_123 : decode cX9_wordOf 123 = .ok (.areturn, 1) := by decide +kernel
theorem dX9_signOf_0 : decode cX9_signOf 0 = .ok (.iload_n 0, 1) := by decide +kernel
theorem dX9_signOf_1 : decode cX9_signOf 1 = .ok (.tableswitch 134 40 62 #[107, 109, 128, 122, 134, 125, 134, 131, 134, 134, 134, 134, 134, 134, 134, 134, 134, 134, 134, 111, 113, 116, 119], 107) := by decide +kernel
theorem dX9_signOf_108 : decode cX9_signOf 108 = .ok (.iconst 3, 1) := by decide +kernel
theorem dX9_signOf_109 : decode cX9_signOf 109 = .ok (.ireturn, 1) := by decide +kernel
theorem dX9_signOf_110 : decode cX9_signOf 110 = .ok (.iconst 4, 1) := by decide +kernel
theorem dX9_signOf_111 : decode cX9_signOf 111 = .ok (.ireturn, 1) := by decide +kernel
theorem dX9_signOf_112 : decode cX9_signOf 112 = .ok (.iconst 5, 1) := by decide +kernel
theorem dX9_signOf_113 : decode cX9_signOf 113 = .ok (.ireturn, 1) := by decide +kernel
theorem dX9_signOf_114 : decode cX9_signOf 114 = .ok (.bipush 21, 2) := by decide +kernel
theorem dX9_signOf_116 : decode cX9_signOf 116 = .ok (.ireturn, 1) := by decide +kernel
theorem dX9_signOf_117 : decode cX9_signOf 117 = .ok (.bipush 23, 2) := by decide +kernel
theorem dX9_signOf_119 : decode cX9_signOf 119 = .ok (.ireturn, 1) := by decide +kernel
theorem dX9_signOf_120 : decode cX9_signOf 120 = .ok (.bipush 26, 2) := by decide +kernel
theorem dX9_signOf_122 : decode cX9_signOf 122 = .ok (.ireturn, 1) := by decide +kernel
theorem dX9_signOf_123 : decode cX9_signOf 123 = .ok (.bipush 27, 2) := by decide +kernel
theorem dX9_signOf_125 : decode cX9_signOf 125 = .ok (.ireturn, 1) := by decide +kernel
theorem dX9_signOf_126 : decode cX9_signOf 126 = .ok (.bipush 28, 2) := by decide +kernel
theorem dX9_signOf_128 : decode cX9_signOf 128 = .ok (.ireturn, 1) := by decide +kernel
theorem dX9_signOf_129 : decode cX9_signOf 129 = .ok (.bipush 29, 2) := by decide +kernel
theorem dX9_signOf_131 : decode cX9_signOf 131 = .ok (.ireturn, 1) := by decide +kernel
theorem dX9_signOf_132 : decode cX9_signOf 132 = .ok (.bipush 30, 2) := by decide +kernel
theorem dX9_signOf_134 : decode cX9_signOf 134 = .ok (.ireturn, 1) := by decide +kernel
theorem dX9_signOf_135 : decode cX9_signOf 135 = .ok (.iconst 1, 1) := by decide +kernel
theorem dX9_signOf_136 : decode cX9_signOf 136 = .ok (.ireturn, 1) := by decide +kernel
theorem dX10_init_0 : decode cX10_init 0 = .ok (.aload_n 0, 1) := by decide +kernel
theorem dX10_init_1 : decode cX10_init 1 = .ok (.invokespecial 3, 3) := by decide +kernel
theorem dX10_init_4 : decode cX10_init 4 = .ok (.aload_n 0, 1) := by decide +kernel
theorem dX10_init_5 : decode cX10_init 5 = .ok (.iconst 0, 1) := by decide +kernel
theorem dX10_init_6 : decode cX10_init 6 = .ok (.newarray .int, 2) := by decide +kernel
theorem dX10_init_8 : decode cX10_init 8 = .ok (.putfield 9, 3) := by decide +kernel
theorem dX10_init_11 : decode cX10_init 11 = .ok (.aload_n 0, 1) := by decide +kernel
theorem dX10_init_12 : decode cX10_init 12 = .ok (.iconst 0, 1) := by decide +kernel
theorem dX10_init_13 : decode cX10_init 13 = .ok (.newarray .int, 2) := by decide +kernel
theorem dX10_init_15 : decode cX10_init 15 = .ok (.putfield 15, 3) := by decide +kernel
theorem dX10_init_18 : decode cX10_init 18 = .ok (.aload_n 0, 1) := by decide +kernel
theorem dX10_init_19 : decode cX10_init 19 = .ok (.iconst 0, 1) := by decide +kernel
theorem dX10_init_20 : decode cX10_init 20 = .ok (.newarray .int, 2) := by decide +kernel
theorem dX10_init_22 : decode cX10_init 22 = .ok (.putfield 18, 3) := by decide +kernel
theorem dX10_init_25 : decode cX10_init 25 = .ok (.aload_n 0, 1) := by decide +kernel
theorem dX10_init_26 : decode cX10_init 26 = .ok (.iconst 0, 1) := by decide +kernel
theorem dX10_init_27 : decode cX10_init 27 = .ok (.putfield 21, 3) := by decide +kernel
theorem dX10_init_30 : decode cX10_init 30 = .ok (.aload_n 0, 1) := by decide +kernel
theorem dX10_init_31 : decode cX10_init 31 = .ok (.iconst 0, 1) := by decide +kernel
theorem dX10_init_32 : decode cX10_init 32 = .ok (.putfield 25, 3) := by decide +kernel
theorem dX10_init_35 : decode cX10_init 35 = .ok (.aload_n 0, 1) := by decide +kernel
theorem dX10_init_36 : decode cX10_init 36 = .ok (.iconst 0, 1) := by decide +kernel
theorem dX10_init_37 : decode cX10_init 37 = .ok (.putfield 28, 3) := by decide +kernel
theorem dX10_init_40 : decode cX10_init 40 = .ok (.return_, 1) := by decide +kernel
theorem dX10_fewestFalls_0 : decode cX10_fewestFalls 0 = .ok (.aload_n 0, 1) := by decide +kernel
theorem dX10_fewestFalls_1 : decode cX10_fewestFalls 1 = .ok (.invokevirtual 31, 3) := by decide +kernel
theorem dX10_fewestFalls_4 : decode cX10_fewestFalls 4 = .ok (.aload_n 0, 1) := by decide +kernel
theorem dX10_fewestFalls_5 : decode cX10_fewestFalls 5 = .ok (.aload_n 1, 1) := by decide +kernel
theorem dX10_fewestFalls_6 : decode cX10_fewestFalls 6 = .ok (.getfield 34, 3) := by decide +kernel
theorem dX10_fewestFalls_9 : decode cX10_fewestFalls 9 = .ok (.putfield 21, 3) := by decide +kernel
theorem dX10_fewestFalls_12 : decode cX10_fewestFalls 12 = .ok (.aload_n 0, 1) := by decide +kernel
theorem dX10_fewestFalls_13 : decode cX10_fewestFalls 13 = .ok (.aload_n 1, 1) := by decide +kernel
theorem dX10_fewestFalls_14 : decode cX10_fewestFalls 14 = .ok (.getfield 37, 3) := by decide +kernel
theorem dX10_fewestFalls_17 : decode cX10_fewestFalls 17 = .ok (.iconst 0, 1) := by decide +kernel
theorem dX10_fewestFalls_18 : decode cX10_fewestFalls 18 = .ok (.iaload, 1) := by decide +kernel
theorem dX10_fewestFalls_19 : decode cX10_fewestFalls 19 = .ok (.putfield 25, 3) := by decide +kernel
theorem dX10_fewestFalls_22 : decode cX10_fewestFalls 22 = .ok (.aload_n 0, 1) := by decide +kernel
theorem dX10_fewestFalls_23 : decode cX10_fewestFalls 23 = .ok (.iload_n 3, 1) := by decide +kernel
theorem dX10_fewestFalls_24 : decode cX10_fewestFalls 24 = .ok (.putfield 28, 3) := by decide +kernel
theorem dX10_fewestFalls_27 : decode cX10_fewestFalls 27 = .ok (.aload_n 0, 1) := by decide +kernel
theorem dX10_fewestFalls_28 : decode cX10_fewestFalls 28 = .ok (.invokevirtual 39, 3) := by decide +kernel
theorem dX10_fewestFalls_31 : decode cX10_fewestFalls 31 = .ok (.iconst 1, 1) := by decide +kernel
theorem dX10_fewestFalls_32 : decode cX10_fewestFalls 32 = .ok (.istore 4, 2) := by decide +kernel
theorem dX10_fewestFalls_34 : decode cX10_fewestFalls 34 = .ok (.iload 4, 2) := by decide +kernel
theorem dX10_fewestFalls_36 : decode cX10_fewestFalls 36 = .ok (.iload_n 2, 1) := by decide +kernel
theorem dX10_fewestFalls_37 : decode cX10_fewestFalls 37 = .ok (.if_icmp .gt 53, 3) := by decide +kernel
theorem dX10_fewestFalls_40 : decode cX10_fewestFalls 40 = .ok (.iconst 0, 1) := by decide +kernel
theorem dX10_fewestFalls_41 : decode cX10_fewestFalls 41 = .ok (.istore 5, 2) := by decide +kernel
theorem dX10_fewestFalls_43 : decode cX10_fewestFalls 43 = .ok (.iload 5, 2) := by decide +kernel
theorem dX10_fewestFalls_45 : decode cX10_fewestFalls 45 = .ok (.aload_n 0, 1) := by decide +kernel
theorem dX10_fewestFalls_46 : decode cX10_fewestFalls 46 = .ok (.getfield 21, 3) := by decide +kernel
theorem dX10_fewestFalls_49 : decode cX10_fewestFalls 49 = .ok (.if_icmp .gt 15, 3) := by decide +kernel
theorem dX10_fewestFalls_52 : decode cX10_fewestFalls 52 = .ok (.aload_n 0, 1) := by decide +kernel
theorem dX10_fewestFalls_53 : decode cX10_fewestFalls 53 = .ok (.iload 5, 2) := by decide +kernel
theorem dX10_fewestFalls_55 : decode cX10_fewestFalls 55 = .ok (.invokevirtual 42, 3) := by decide +kernel
theorem dX10_fewestFalls_58 : decode cX10_fewestFalls 58 = .ok (.iinc 5 1, 3) := by decide +kernel
theorem dX10_fewestFalls_61 : decode cX10_fewestFalls 61 = .ok (.goto (-18), 3) := by decide +kernel
theorem dX10_fewestFalls_64 : decode cX10_fewestFalls 64 = .ok (.aload_n 0, 1) := by decide +kernel
theorem dX10_fewestFalls_65 : decode cX10_fewestFalls 65 = .ok (.getfield 9, 3) := by decide +kernel
theorem dX10_fewestFalls_68 : decode cX10_fewestFalls 68 = .ok (.astore 5, 2) := by decide +kernel
theorem dX10_fewestFalls_70 : decode cX10_fewestFalls 70 = .ok (.aload_n 0, 1) := by decide +kernel
theorem dX10_fewestFalls_71 : decode cX10_fewestFalls 71 = .ok (.aload_n 0, 1) := by decide +kernel
theorem dX10_fewestFalls_72 : decode cX10_fewestFalls 72 = .ok (.getfield 15, 3) := by decide +kernel
theorem dX10_fewestFalls_75 : decode cX10_fewestFalls 75 = .ok (.putfield 9, 3) := by decide +kernel
theorem dX10_fewestFalls_78 : decode cX10_fewestFalls 78 = .ok (.aload_n 0, 1) := by decide +kernel
theorem dX10_fewestFalls_79 : decode cX10_fewestFalls 79 = .ok (.aload 5, 2) := by decide +kernel
theorem dX10_fewestFalls_81 : decode cX10_fewestFalls 81 = .ok (.putfield 15, 3) := by decide +kernel
theorem dX10_fewestFalls_84 : decode cX10_fewestFalls 84 = .ok (.iinc 4 1, 3) := by decide +kernel
theorem dX10_fewestFalls_87 : decode cX10_fewestFalls 87 = .ok (.goto (-53), 3) := by decide +kernel
theorem dX10_fewestFalls_90 : decode cX10_fewestFalls 90 = .ok (.aload_n 0, 1) := by decide +kernel
theorem dX10_fewestFalls_91 : decode cX10_fewestFalls 91 = .ok (.getfield 9, 3) := by decide +kernel
theorem dX10_fewestFalls_94 : decode cX10_fewestFalls 94 = .ok (.iconst 0, 1) := by decide +kernel
theorem dX10_fewestFalls_95 : decode cX10_fewestFalls 95 = .ok (.aload_n 0, 1) := by decide +kernel
theorem dX10_fewestFalls_96 : decode cX10_fewestFalls 96 = .ok (.getfield 21, 3) := by decide +kernel
theorem dX10_fewestFalls_99 : decode cX10_fewestFalls 99 = .ok (.invokestatic 46, 3) := by decide +kernel
theorem dX10_fewestFalls_102 : decode cX10_fewestFalls 102 = .ok (.iaload, 1) := by decide +kernel
theorem dX10_fewestFalls_103 : decode cX10_fewestFalls 103 = .ok (.istore 4, 2) := by decide +kernel
theorem dX10_fewestFalls_105 : decode cX10_fewestFalls 105 = .ok (.iload 4, 2) := by decide +kernel
theorem dX10_fewestFalls_107 : decode cX10_fewestFalls 107 = .ok (.ldc 50, 2) := by decide +kernel
theorem dX10_fewestFalls_109 : decode cX10_fewestFalls 109 = .ok (.if_icmp .lt 8, 3) := by decide +kernel
theorem dX10_fewestFalls_112 : decode cX10_fewestFalls 112 = .ok (.bipush (-2), 2) := by decide +kernel
theorem dX10_fewestFalls_114 : decode cX10_fewestFalls 114 = .ok (.goto 5, 3) := by decide +kernel
theorem dX10_fewestFalls_117 : decode cX10_fewestFalls 117 = .ok (.iload 4, 2) := by decide +kernel
theorem dX10_fewestFalls_119 : decode cX10_fewestFalls 119 = .ok (.ireturn, 1) := by decide +kernel
theorem dX10_makeRoom_0 : decode cX10_makeRoom 0 = .ok (.aload_n 0, 1) := by decide +kernel
theorem dX10_makeRoom_1 : decode cX10_makeRoom 1 = .ok (.getfield 9, 3) := by decide +kernel
theorem dX10_makeRoom_4 : decode cX10_makeRoom 4 = .ok (.arraylength, 1) := by decide +kernel
theorem dX10_makeRoom_5 : decode cX10_makeRoom 5 = .ok (.ifCond .ne 30, 3) := by decide +kernel
theorem dX10_makeRoom_8 : decode cX10_makeRoom 8 = .ok (.aload_n 0, 1) := by decide +kernel
theorem dX10_makeRoom_9 : decode cX10_makeRoom 9 = .ok (.sipush 861, 3) := by decide +kernel
theorem dX10_makeRoom_12 : decode cX10_makeRoom 12 = .ok (.newarray .int, 2) := by decide +kernel
theorem dX10_makeRoom_14 : decode cX10_makeRoom 14 = .ok (.putfield 9, 3) := by decide +kernel
theorem dX10_makeRoom_17 : decode cX10_makeRoom 17 = .ok (.aload_n 0, 1) := by decide +kernel
theorem dX10_makeRoom_18 : decode cX10_makeRoom 18 = .ok (.sipush 861, 3) := by decide +kernel
theorem dX10_makeRoom_21 : decode cX10_makeRoom 21 = .ok (.newarray .int, 2) := by decide +kernel
theorem dX10_makeRoom_23 : decode cX10_makeRoom 23 = .ok (.putfield 15, 3) := by decide +kernel
theorem dX10_makeRoom_26 : decode cX10_makeRoom 26 = .ok (.aload_n 0, 1) := by decide +kernel
theorem dX10_makeRoom_27 : decode cX10_makeRoom 27 = .ok (.sipush 1681, 3) := by decide +kernel
theorem dX10_makeRoom_30 : decode cX10_makeRoom 30 = .ok (.newarray .int, 2) := by decide +kernel
theorem dX10_makeRoom_32 : decode cX10_makeRoom 32 = .ok (.putfield 18, 3) := by decide +kernel
theorem dX10_makeRoom_35 : decode cX10_makeRoom 35 = .ok (.return_, 1) := by decide +kernel
theorem dX10_fillWithoutPieces_0 : decode cX10_fillWithoutPieces 0 = .ok (.aload_n 0, 1) := by decide +kernel
theorem dX10_fillWithoutPieces_1 : decode cX10_fillWithoutPieces 1 = .ok (.getfield 9, 3) := by decide +kernel
theorem dX10_fillWithoutPieces_4 : decode cX10_fillWithoutPieces 4 = .ok (.ldc 50, 2) := by decide +kernel
theorem dX10_fillWithoutPieces_6 : decode cX10_fillWithoutPieces 6 = .ok (.invokestatic 51, 3) := by decide +kernel
theorem dX10_fillWithoutPieces_9 : decode cX10_fillWithoutPieces 9 = .ok (.iconst 0, 1) := by decide +kernel
theorem dX10_fillWithoutPieces_10 : decode cX10_fillWithoutPieces 10 = .ok (.istore_n 1, 1) := by decide +kernel
theorem dX10_fillWithoutPieces_11 : decode cX10_fillWithoutPieces 11 = .ok (.iload_n 1, 1) := by decide +kernel
theorem dX10_fillWithoutPieces_12 : decode cX10_fillWithoutPieces 12 = .ok (.aload_n 0, 1) := by decide +kernel
theorem dX10_fillWithoutPieces_13 : decode cX10_fillWithoutPieces 13 = .ok (.getfield 21, 3) := by decide +kernel
theorem dX10_fillWithoutPieces_16 : decode cX10_fillWithoutPieces 16 = .ok (.if_icmp .gt 20, 3) := by decide +kernel
theorem dX10_fillWithoutPieces_19 : decode cX10_fillWithoutPieces 19 = .ok (.aload_n 0, 1) := by decide +kernel
theorem dX10_fillWithoutPieces_20 : decode cX10_fillWithoutPieces 20 = .ok (.getfield 9, 3) := by decide +kernel
theorem dX10_fillWithoutPieces_23 : decode cX10_fillWithoutPieces 23 = .ok (.iload_n 1, 1) := by decide +kernel
theorem dX10_fillWithoutPieces_24 : decode cX10_fillWithoutPieces 24 = .ok (.iload_n 1, 1) := by decide +kernel
theorem dX10_fillWithoutPieces_25 : decode cX10_fillWithoutPieces 25 = .ok (.invokestatic 46, 3) := by decide +kernel
theorem dX10_fillWithoutPieces_28 : decode cX10_fillWithoutPieces 28 = .ok (.iconst 0, 1) := by decide +kernel
theorem dX10_fillWithoutPieces_29 : decode cX10_fillWithoutPieces 29 = .ok (.iastore, 1) := by decide +kernel
theorem dX10_fillWithoutPieces_30 : decode cX10_fillWithoutPieces 30 = .ok (.iinc 1 1, 3) := by decide +kernel
theorem dX10_fillWithoutPieces_33 : decode cX10_fillWithoutPieces 33 = .ok (.goto (-22), 3) := by decide +kernel
theorem dX10_fillWithoutPieces_36 : decode cX10_fillWithoutPieces 36 = .ok (.return_, 1) := by decide +kernel
theorem dX10_fillHigh_0 : decode cX10_fillHigh 0 = .ok (.iload_n 1, 1) := by decide +kernel
theorem dX10_fillHigh_1 : decode cX10_fillHigh 1 = .ok (.istore_n 2, 1) := by decide +kernel
theorem dX10_fillHigh_2 : decode cX10_fillHigh 2 = .ok (.iload_n 2, 1) := by decide +kernel
theorem dX10_fillHigh_3 : decode cX10_fillHigh 3 = .ok (.ifCond .lt 59, 3) := by decide +kernel
theorem dX10_fillHigh_6 : decode cX10_fillHigh 6 = .ok (.iconst 0, 1) := by decide +kernel
theorem dX10_fillHigh_7 : decode cX10_fillHigh 7 = .ok (.istore_n 3, 1) := by decide +kernel
theorem dX10_fillHigh_8 : decode cX10_fillHigh 8 = .ok (.iload_n 3, 1) := by decide +kernel
theorem dX10_fillHigh_9 : decode cX10_fillHigh 9 = .ok (.iload_n 2, 1) := by decide +kernel
theorem dX10_fillHigh_10 : decode cX10_fillHigh 10 = .ok (.if_icmp .gt 27, 3) := by decide +kernel
theorem dX10_fillHigh_13 : decode cX10_fillHigh 13 = .ok (.aload_n 0, 1) := by decide +kernel
theorem dX10_fillHigh_14 : decode cX10_fillHigh 14 = .ok (.getfield 18, 3) := by decide +kernel
theorem dX10_fillHigh_17 : decode cX10_fillHigh 17 = .ok (.iload_n 2, 1) := by decide +kernel
theorem dX10_fillHigh_18 : decode cX10_fillHigh 18 = .ok (.bipush 41, 2) := by decide +kernel
theorem dX10_fillHigh_20 : decode cX10_fillHigh 20 = .ok (.imul, 1) := by decide +kernel
theorem dX10_fillHigh_21 : decode cX10_fillHigh 21 = .ok (.iload_n 3, 1) := by decide +kernel
theorem dX10_fillHigh_22 : decode cX10_fillHigh 22 = .ok (.iadd, 1) := by decide +kernel
theorem dX10_fillHigh_23 : decode cX10_fillHigh 23 = .ok (.aload_n 0, 1) := by decide +kernel
theorem dX10_fillHigh_24 : decode cX10_fillHigh 24 = .ok (.iload_n 2, 1) := by decide +kernel
theorem dX10_fillHigh_25 : decode cX10_fillHigh 25 = .ok (.iload_n 1, 1) := by decide +kernel
theorem dX10_fillHigh_26 : decode cX10_fillHigh 26 = .ok (.iload_n 3, 1) := by decide +kernel
theorem dX10_fillHigh_27 : decode cX10_fillHigh 27 = .ok (.invokevirtual 57, 3) := by decide +kernel
theorem dX10_fillHigh_30 : decode cX10_fillHigh 30 = .ok (.iastore, 1) := by decide +kernel
theorem dX10_fillHigh_31 : decode cX10_fillHigh 31 = .ok (.iinc 3 1, 3) := by decide +kernel
theorem dX10_fillHigh_34 : decode cX10_fillHigh 34 = .ok (.goto (-26), 3) := by decide +kernel
theorem dX10_fillHigh_37 : decode cX10_fillHigh 37 = .ok (.aload_n 0, 1) := by decide +kernel
theorem dX10_fillHigh_38 : decode cX10_fillHigh 38 = .ok (.getfield 15, 3) := by decide +kernel
theorem dX10_fillHigh_41 : decode cX10_fillHigh 41 = .ok (.iload_n 2, 1) := by decide +kernel
theorem dX10_fillHigh_42 : decode cX10_fillHigh 42 = .ok (.iload_n 1, 1) := by decide +kernel
theorem dX10_fillHigh_43 : decode cX10_fillHigh 43 = .ok (.invokestatic 46, 3) := by decide +kernel
theorem dX10_fillHigh_46 : decode cX10_fillHigh 46 = .ok (.aload_n 0, 1) := by decide +kernel
theorem dX10_fillHigh_47 : decode cX10_fillHigh 47 = .ok (.getfield 18, 3) := by decide +kernel
theorem dX10_fillHigh_50 : decode cX10_fillHigh 50 = .ok (.iload_n 2, 1) := by decide +kernel
theorem dX10_fillHigh_51 : decode cX10_fillHigh 51 = .ok (.bipush 41, 2) := by decide +kernel
theorem dX10_fillHigh_53 : decode cX10_fillHigh 53 = .ok (.imul, 1) := by decide +kernel
theorem dX10_fillHigh_54 : decode cX10_fillHigh 54 = .ok (.iaload, 1) := by decide +kernel
theorem dX10_fillHigh_55 : decode cX10_fillHigh 55 = .ok (.iastore, 1) := by decide +kernel
theorem dX10_fillHigh_56 : decode cX10_fillHigh 56 = .ok (.iinc 2 (-1), 3) := by decide +kernel
theorem dX10_fillHigh_59 : decode cX10_fillHigh 59 = .ok (.goto (-57), 3) := by decide +kernel
theorem dX10_fillHigh_62 : decode cX10_fillHigh 62 = .ok (.return_, 1) := by decide +kernel
theorem dX10_fewestFrom_0 : decode cX10_fewestFrom 0 = .ok (.iload_n 1, 1) := by decide +kernel
theorem dX10_fewestFrom_1 : decode cX10_fewestFrom 1 = .ok (.iload_n 2, 1) := by decide +kernel
theorem dX10_fewestFrom_2 : decode cX10_fewestFrom 2 = .ok (.if_icmp .ne 5, 3) := by decide +kernel
theorem dX10_fewestFrom_5 : decode cX10_fewestFrom 5 = .ok (.iconst 0, 1) := by decide +kernel
theorem dX10_fewestFrom_6 : decode cX10_fewestFrom 6 = .ok (.ireturn, 1) := by decide +kernel
theorem dX10_fewestFrom_7 : decode cX10_fewestFrom 7 = .ok (.aload_n 0, 1) := by decide +kernel
theorem dX10_fewestFrom_8 : decode cX10_fewestFrom 8 = .ok (.getfield 9, 3) := by decide +kernel
theorem dX10_fewestFrom_11 : decode cX10_fewestFrom 11 = .ok (.iload_n 1, 1) := by decide +kernel
theorem dX10_fewestFrom_12 : decode cX10_fewestFrom 12 = .ok (.iload_n 2, 1) := by decide +kernel
theorem dX10_fewestFrom_13 : decode cX10_fewestFrom 13 = .ok (.invokestatic 46, 3) := by decide +kernel
theorem dX10_fewestFrom_16 : decode cX10_fewestFrom 16 = .ok (.iaload, 1) := by decide +kernel
theorem dX10_fewestFrom_17 : decode cX10_fewestFrom 17 = .ok (.istore 4, 2) := by decide +kernel
theorem dX10_fewestFrom_19 : decode cX10_fewestFrom 19 = .ok (.aload_n 0, 1) := by decide +kernel
theorem dX10_fewestFrom_20 : decode cX10_fewestFrom 20 = .ok (.getfield 28, 3) := by decide +kernel
theorem dX10_fewestFrom_23 : decode cX10_fewestFrom 23 = .ok (.iload_n 3, 1) := by decide +kernel
theorem dX10_fewestFrom_24 : decode cX10_fewestFrom 24 = .ok (.imul, 1) := by decide +kernel
theorem dX10_fewestFrom_25 : decode cX10_fewestFrom 25 = .ok (.aload_n 0, 1) := by decide +kernel
theorem dX10_fewestFrom_26 : decode cX10_fewestFrom 26 = .ok (.getfield 25, 3) := by decide +kernel
theorem dX10_fewestFrom_29 : decode cX10_fewestFrom 29 = .ok (.isub, 1) := by decide +kernel
theorem dX10_fewestFrom_30 : decode cX10_fewestFrom 30 = .ok (.istore 5, 2) := by decide +kernel
theorem dX10_fewestFrom_32 : decode cX10_fewestFrom 32 = .ok (.iload_n 1, 1) := by decide +kernel
theorem dX10_fewestFrom_33 : decode cX10_fewestFrom 33 = .ok (.iconst 1, 1) := by decide +kernel
theorem dX10_fewestFrom_34 : decode cX10_fewestFrom 34 = .ok (.iadd, 1) := by decide +kernel
theorem dX10_fewestFrom_35 : decode cX10_fewestFrom 35 = .ok (.iconst 1, 1) := by decide +kernel
theorem dX10_fewestFrom_36 : decode cX10_fewestFrom 36 = .ok (.iload 5, 2) := by decide +kernel
theorem dX10_fewestFrom_38 : decode cX10_fewestFrom 38 = .ok (.iadd, 1) := by decide +kernel
theorem dX10_fewestFrom_39 : decode cX10_fewestFrom 39 = .ok (.invokestatic 61, 3) := by decide +kernel
theorem dX10_fewestFrom_42 : decode cX10_fewestFrom 42 = .ok (.istore 6, 2) := by decide +kernel
theorem dX10_fewestFrom_44 : decode cX10_fewestFrom 44 = .ok (.iload_n 2, 1) := by decide +kernel
theorem dX10_fewestFrom_45 : decode cX10_fewestFrom 45 = .ok (.aload_n 0, 1) := by decide +kernel
theorem dX10_fewestFrom_46 : decode cX10_fewestFrom 46 = .ok (.getfield 21, 3) := by decide +kernel
theorem dX10_fewestFrom_49 : decode cX10_fewestFrom 49 = .ok (.iload 5, 2) := by decide +kernel
theorem dX10_fewestFrom_51 : decode cX10_fewestFrom 51 = .ok (.iadd, 1) := by decide +kernel
theorem dX10_fewestFrom_52 : decode cX10_fewestFrom 52 = .ok (.invokestatic 66, 3) := by decide +kernel
theorem dX10_fewestFrom_55 : decode cX10_fewestFrom 55 = .ok (.istore 7, 2) := by decide +kernel
theorem dX10_fewestFrom_57 : decode cX10_fewestFrom 57 = .ok (.iload 6, 2) := by decide +kernel
theorem dX10_fewestFrom_59 : decode cX10_fewestFrom 59 = .ok (.istore 8, 2) := by decide +kernel
theorem dX10_fewestFrom_61 : decode cX10_fewestFrom 61 = .ok (.iload 8, 2) := by decide +kernel
theorem dX10_fewestFrom_63 : decode cX10_fewestFrom 63 = .ok (.iload 7, 2) := by decide +kernel
theorem dX10_fewestFrom_65 : decode cX10_fewestFrom 65 = .ok (.if_icmp .gt 68, 3) := by decide +kernel
theorem dX10_fewestFrom_68 : decode cX10_fewestFrom 68 = .ok (.aload_n 0, 1) := by decide +kernel
theorem dX10_fewestFrom_69 : decode cX10_fewestFrom 69 = .ok (.getfield 9, 3) := by decide +kernel
theorem dX10_fewestFrom_72 : decode cX10_fewestFrom 72 = .ok (.iload_n 1, 1) := by decide +kernel
theorem dX10_fewestFrom_73 : decode cX10_fewestFrom 73 = .ok (.iload 8, 2) := by decide +kernel
theorem dX10_fewestFrom_75 : decode cX10_fewestFrom 75 = .ok (.iconst 1, 1) := by decide +kernel
theorem dX10_fewestFrom_76 : decode cX10_fewestFrom 76 = .ok (.isub, 1) := by decide +kernel
theorem dX10_fewestFrom_77 : decode cX10_fewestFrom 77 = .ok (.invokestatic 46, 3) := by decide +kernel
theorem dX10_fewestFrom_80 : decode cX10_fewestFrom 80 = .ok (.iaload, 1) := by decide +kernel
theorem dX10_fewestFrom_81 : decode cX10_fewestFrom 81 = .ok (.istore 9, 2) := by decide +kernel
theorem dX10_fewestFrom_83 : decode cX10_fewestFrom 83 = .ok (.iload 9, 2) := by decide +kernel
theorem dX10_fewestFrom_85 : decode cX10_fewestFrom 85 = .ok (.iconst 1, 1) := by decide +kernel
theorem dX10_fewestFrom_86 : decode cX10_fewestFrom 86 = .ok (.iadd, 1) := by decide +kernel
theorem dX10_fewestFrom_87 : decode cX10_fewestFrom 87 = .ok (.iload 4, 2) := by decide +kernel
theorem dX10_fewestFrom_89 : decode cX10_fewestFrom 89 = .ok (.if_icmp .lt 6, 3) := by decide +kernel
theorem dX10_fewestFrom_92 : decode cX10_fewestFrom 92 = .ok (.iload 4, 2) := by decide +kernel
theorem dX10_fewestFrom_94 : decode cX10_fewestFrom 94 = .ok (.ireturn, 1) := by decide +kernel
theorem dX10_fewestFrom_95 : decode cX10_fewestFrom 95 = .ok (.aload_n 0, 1) := by decide +kernel
theorem dX10_fewestFrom_96 : decode cX10_fewestFrom 96 = .ok (.getfield 18, 3) := by decide +kernel
theorem dX10_fewestFrom_99 : decode cX10_fewestFrom 99 = .ok (.iload 8, 2) := by decide +kernel
theorem dX10_fewestFrom_101 : decode cX10_fewestFrom 101 = .ok (.bipush 41, 2) := by decide +kernel
theorem dX10_fewestFrom_103 : decode cX10_fewestFrom 103 = .ok (.imul, 1) := by decide +kernel
theorem dX10_fewestFrom_104 : decode cX10_fewestFrom 104 = .ok (.iload_n 3, 1) := by decide +kernel
theorem dX10_fewestFrom_105 : decode cX10_fewestFrom 105 = .ok (.iadd, 1) := by decide +kernel
theorem dX10_fewestFrom_106 : decode cX10_fewestFrom 106 = .ok (.iconst 1, 1) := by decide +kernel
theorem dX10_fewestFrom_107 : decode cX10_fewestFrom 107 = .ok (.iadd, 1) := by decide +kernel
theorem dX10_fewestFrom_108 : decode cX10_fewestFrom 108 = .ok (.iaload, 1) := by decide +kernel
theorem dX10_fewestFrom_109 : decode cX10_fewestFrom 109 = .ok (.istore 10, 2) := by decide +kernel
theorem dX10_fewestFrom_111 : decode cX10_fewestFrom 111 = .ok (.iload 4, 2) := by decide +kernel
theorem dX10_fewestFrom_113 : decode cX10_fewestFrom 113 = .ok (.iconst 1, 1) := by decide +kernel
theorem dX10_fewestFrom_114 : decode cX10_fewestFrom 114 = .ok (.iload 9, 2) := by decide +kernel
theorem dX10_fewestFrom_116 : decode cX10_fewestFrom 116 = .ok (.iload 10, 2) := by decide +kernel
theorem dX10_fewestFrom_118 : decode cX10_fewestFrom 118 = .ok (.invokestatic 61, 3) := by decide +kernel
theorem dX10_fewestFrom_121 : decode cX10_fewestFrom 121 = .ok (.iadd, 1) := by decide +kernel
theorem dX10_fewestFrom_122 : decode cX10_fewestFrom 122 = .ok (.invokestatic 66, 3) := by decide +kernel
theorem dX10_fewestFrom_125 : decode cX10_fewestFrom 125 = .ok (.istore 4, 2) := by decide +kernel
theorem dX10_fewestFrom_127 : decode cX10_fewestFrom 127 = .ok (.iinc 8 1, 3) := by decide +kernel
theorem dX10_fewestFrom_130 : decode cX10_fewestFrom 130 = .ok (.goto (-69), 3) := by decide +kernel
theorem dX10_fewestFrom_133 : decode cX10_fewestFrom 133 = .ok (.iload 4, 2) := by decide +kernel
theorem dX10_fewestFrom_135 : decode cX10_fewestFrom 135 = .ok (.ireturn, 1) := by decide +kernel
theorem dX11_init_0 : decode cX11_init 0 = .ok (.aload_n 0, 1) := by decide +kernel
theorem dX11_init_1 : decode cX11_init 1 = .ok (.invokespecial 1, 3) := by decide +kernel
theorem dX11_init_4 : decode cX11_init 4 = .ok (.aload_n 0, 1) := by decide +kernel
theorem dX11_init_5 : decode cX11_init 5 = .ok (.new 7, 3) := by decide +kernel
theorem dX11_init_8 : decode cX11_init 8 = .ok (.dup, 1) := by decide +kernel
theorem dX11_init_9 : decode cX11_init 9 = .ok (.invokespecial 9, 3) := by decide +kernel
theorem dX11_init_12 : decode cX11_init 12 = .ok (.putfield 10, 3) := by decide +kernel
theorem dX11_init_15 : decode cX11_init 15 = .ok (.aload_n 0, 1) := by decide +kernel
theorem dX11_init_16 : decode cX11_init 16 = .ok (.sipush 400, 3) := by decide +kernel
theorem dX11_init_19 : decode cX11_init 19 = .ok (.newarray .int, 2) := by decide +kernel
theorem dX11_init_21 : decode cX11_init 21 = .ok (.putfield 16, 3) := by decide +kernel
theorem dX11_init_24 : decode cX11_init 24 = .ok (.aload_n 0, 1) := by decide +kernel
theorem dX11_init_25 : decode cX11_init 25 = .ok (.iconst 0, 1) := by decide +kernel
theorem dX11_init_26 : decode cX11_init 26 = .ok (.putfield 20, 3) := by decide +kernel
theorem dX11_init_29 : decode cX11_init 29 = .ok (.aload_n 0, 1) := by decide +kernel
theorem dX11_init_30 : decode cX11_init 30 = .ok (.new 24, 3) := by decide +kernel
theorem dX11_init_33 : decode cX11_init 33 = .ok (.dup, 1) := by decide +kernel
theorem dX11_init_34 : decode cX11_init 34 = .ok (.invokespecial 26, 3) := by decide +kernel
theorem dX11_init_37 : decode cX11_init 37 = .ok (.putfield 27, 3) := by decide +kernel
theorem dX11_init_40 : decode cX11_init 40 = .ok (.aload_n 0, 1) := by decide +kernel
theorem dX11_init_41 : decode cX11_init 41 = .ok (.new 31, 3) := by decide +kernel
theorem dX11_init_44 : decode cX11_init 44 = .ok (.dup, 1) := by decide +kernel
theorem dX11_init_45 : decode cX11_init 45 = .ok (.invokespecial 33, 3) := by decide +kernel
theorem dX11_init_48 : decode cX11_init 48 = .ok (.putfield 34, 3) := by decide +kernel
theorem dX11_init_51 : decode cX11_init 51 = .ok (.aload_n 0, 1) := by decide +kernel
theorem dX11_init_52 : decode cX11_init 52 = .ok (.new 31, 3) := by decide +kernel
theorem dX11_init_55 : decode cX11_init 55 = .ok (.dup, 1) := by decide +kernel
theorem dX11_init_56 : decode cX11_init 56 = .ok (.invokespecial 33, 3) := by decide +kernel
theorem dX11_init_59 : decode cX11_init 59 = .ok (.putfield 38, 3) := by decide +kernel
theorem dX11_init_62 : decode cX11_init 62 = .ok (.aload_n 0, 1) := by decide +kernel
theorem dX11_init_63 : decode cX11_init 63 = .ok (.iconst 0, 1) := by decide +kernel
theorem dX11_init_64 : decode cX11_init 64 = .ok (.putfield 41, 3) := by decide +kernel
theorem dX11_init_67 : decode cX11_init 67 = .ok (.aload_n 0, 1) := by decide +kernel
theorem dX11_init_68 : decode cX11_init 68 = .ok (.new 45, 3) := by decide +kernel
theorem dX11_init_71 : decode cX11_init 71 = .ok (.dup, 1) := by decide +kernel
theorem dX11_init_72 : decode cX11_init 72 = .ok (.invokespecial 47, 3) := by decide +kernel
theorem dX11_init_75 : decode cX11_init 75 = .ok (.putfield 48, 3) := by decide +kernel
theorem dX11_init_78 : decode cX11_init 78 = .ok (.aload_n 0, 1) := by decide +kernel
theorem dX11_init_79 : decode cX11_init 79 = .ok (.new 52, 3) := by decide +kernel
theorem dX11_init_82 : decode cX11_init 82 = .ok (.dup, 1) := by decide +kernel
theorem dX11_init_83 : decode cX11_init 83 = .ok (.invokespecial 54, 3) := by decide +kernel
theorem dX11_init_86 : decode cX11_init 86 = .ok (.putfield 55, 3) := by decide +kernel
theorem dX11_init_89 : decode cX11_init 89 = .ok (.aload_n 0, 1) := by decide +kernel
theorem dX11_init_90 : decode cX11_init 90 = .ok (.new 59, 3) := by decide +kernel
theorem dX11_init_93 : decode cX11_init 93 = .ok (.dup, 1) := by decide +kernel
theorem dX11_init_94 : decode cX11_init 94 = .ok (.invokespecial 61, 3) := by decide +kernel
theorem dX11_init_97 : decode cX11_init 97 = .ok (.putfield 62, 3) := by decide +kernel
theorem dX11_init_100 : decode cX11_init 100 = .ok (.aload_n 0, 1) := by decide +kernel
theorem dX11_init_101 : decode cX11_init 101 = .ok (.bipush 10, 2) := by decide +kernel
theorem dX11_init_103 : decode cX11_init 103 = .ok (.newarray .int, 2) := by decide +kernel
theorem dX11_init_105 : decode cX11_init 105 = .ok (.putfield 66, 3) := by decide +kernel
theorem dX11_init_108 : decode cX11_init 108 = .ok (.aload_n 0, 1) := by decide +kernel
theorem dX11_init_109 : decode cX11_init 109 = .ok (.new 69, 3) := by decide +kernel
theorem dX11_init_112 : decode cX11_init 112 = .ok (.dup, 1) := by decide +kernel
theorem dX11_init_113 : decode cX11_init 113 = .ok (.invokespecial 71, 3) := by decide +kernel
theorem dX11_init_116 : decode cX11_init 116 = .ok (.putfield 72, 3) := by decide +kernel
theorem dX11_init_119 : decode cX11_init 119 = .ok (.aload_n 0, 1) := by decide +kernel
theorem dX11_init_120 : decode cX11_init 120 = .ok (.new 76, 3) := by decide +kernel
theorem dX11_init_123 : decode cX11_init 123 = .ok (.dup, 1) := by decide +kernel
theorem dX11_init_124 : decode cX11_init 124 = .ok (.invokespecial 78, 3) := by decide +kernel
theorem dX11_init_127 : decode cX11_init 127 = .ok (.putfield 79, 3) := by decide +kernel
theorem dX11_init_130 : decode cX11_init 130 = .ok (.aload_n 0, 1) := by decide +kernel
theorem dX11_init_131 : decode cX11_init 131 = .ok (.new 83, 3) := by decide +kernel
theorem dX11_init_134 : decode cX11_init 134 = .ok (.dup, 1) := by decide +kernel
theorem dX11_init_135 : decode cX11_init 135 = .ok (.bipush 100, 2) := by decide +kernel
theorem dX11_init_137 : decode cX11_init 137 = .ok (.invokespecial 85, 3) := by decide +kernel
theorem dX11_init_140 : decode cX11_init 140 = .ok (.putfield 88, 3) := by decide +kernel
theorem dX11_init_143 : decode cX11_init 143 = .ok (.aload_n 0, 1) := by decide +kernel
theorem dX11_init_144 : decode cX11_init 144 = .ok (.iconst 0, 1) := by decide +kernel
theorem dX11_init_145 : decode cX11_init 145 = .ok (.putfield 92, 3) := by decide +kernel
theorem dX11_init_148 : decode cX11_init 148 = .ok (.return_, 1) := by decide +kernel
theorem dX11_feed_0 : decode cX11_feed 0 = .ok (.aload_n 0, 1) := by decide +kernel
theorem dX11_feed_1 : decode cX11_feed 1 = .ok (.getfield 20, 3) := by decide +kernel
theorem dX11_feed_4 : decode cX11_feed 4 = .ok (.bipush 20, 2) := by decide +kernel
theorem dX11_feed_6 : decode cX11_feed 6 = .ok (.iadd, 1) := by decide +kernel
theorem dX11_feed_7 : decode cX11_feed 7 = .ok (.sipush 400, 3) := by decide +kernel
theorem dX11_feed_10 : decode cX11_feed 10 = .ok (.if_icmp .le 5, 3) := by decide +kernel
theorem dX11_feed_13 : decode cX11_feed 13 = .ok (.iconst (-1), 1) := by decide +kernel
theorem dX11_feed_14 : decode cX11_feed 14 = .ok (.ireturn, 1) := by decide +kernel
theorem dX11_feed_15 : decode cX11_feed 15 = .ok (.aload_n 0, 1) := by decide +kernel
theorem dX11_feed_16 : decode cX11_feed 16 = .ok (.iload_n 1, 1) := by decide +kernel
theorem dX11_feed_17 : decode cX11_feed 17 = .ok (.invokevirtual 95, 3) := by decide +kernel
theorem dX11_feed_20 : decode cX11_feed 20 = .ok (.aload_n 0, 1) := by decide +kernel
theorem dX11_feed_21 : decode cX11_feed 21 = .ok (.iload_n 2, 1) := by decide +kernel
theorem dX11_feed_22 : decode cX11_feed 22 = .ok (.invokevirtual 95, 3) := by decide +kernel
theorem dX11_feed_25 : decode cX11_feed 25 = .ok (.aload_n 0, 1) := by decide +kernel
theorem dX11_feed_26 : decode cX11_feed 26 = .ok (.iload_n 3, 1) := by decide +kernel
theorem dX11_feed_27 : decode cX11_feed 27 = .ok (.invokevirtual 95, 3) := by decide +kernel
theorem dX11_feed_30 : decode cX11_feed 30 = .ok (.aload_n 0, 1) := by decide +kernel
theorem dX11_feed_31 : decode cX11_feed 31 = .ok (.iload 4, 2) := by decide +kernel
theorem dX11_feed_33 : decode cX11_feed 33 = .ok (.invokevirtual 95, 3) := by decide +kernel
theorem dX11_feed_36 : decode cX11_feed 36 = .ok (.aload_n 0, 1) := by decide +kernel
theorem dX11_feed_37 : decode cX11_feed 37 = .ok (.iload 5, 2) := by decide +kernel
theorem dX11_feed_39 : decode cX11_feed 39 = .ok (.invokevirtual 95, 3) := by decide +kernel
theorem dX11_feed_42 : decode cX11_feed 42 = .ok (.aload_n 0, 1) := by decide +kernel
theorem dX11_feed_43 : decode cX11_feed 43 = .ok (.getfield 20, 3) := by decide +kernel
theorem dX11_feed_46 : decode cX11_feed 46 = .ok (.ireturn, 1) := by decide +kernel
theorem dX11_stair_0 : decode cX11_stair 0 = .ok (.iload_n 1, 1) := by decide +kernel
theorem dX11_stair_1 : decode cX11_stair 1 = .ok (.iconst 1, 1) := by decide +kernel
theorem dX11_stair_2 : decode cX11_stair 2 = .ok (.if_icmp .lt 9, 3) := by decide +kernel
theorem dX11_stair_5 : decode cX11_stair 5 = .ok (.iload_n 1, 1) := by decide +kernel
theorem dX11_stair_6 : decode cX11_stair 6 = .ok (.bipush 40, 2) := by decide +kernel
theorem dX11_stair_8 : decode cX11_stair 8 = .ok (.if_icmp .le 5, 3) := by decide +kernel
theorem dX11_stair_11 : decode cX11_stair 11 = .ok (.iconst 0, 1) := by decide +kernel
theorem dX11_stair_12 : decode cX11_stair 12 = .ok (.ireturn, 1) := by decide +kernel
theorem dX11_stair_13 : decode cX11_stair 13 = .ok (.aload_n 0, 1) := by decide +kernel
theorem dX11_stair_14 : decode cX11_stair 14 = .ok (.getfield 10, 3) := by decide +kernel
theorem dX11_stair_17 : decode cX11_stair 17 = .ok (.iload_n 1, 1) := by decide +kernel
theorem dX11_stair_18 : decode cX11_stair 18 = .ok (.invokevirtual 98, 3) := by decide +kernel
theorem dX11_stair_21 : decode cX11_stair 21 = .ok (.aload_n 0, 1) := by decide +kernel
theorem dX11_stair_22 : decode cX11_stair 22 = .ok (.getfield 79, 3) := by decide +kernel
theorem dX11_stair_25 : decode cX11_stair 25 = .ok (.invokevirtual 101, 3) := by decide +kernel
theorem dX11_stair_28 : decode cX11_stair 28 = .ok (.aload_n 0, 1) := by decide +kernel
theorem dX11_stair_29 : decode cX11_stair 29 = .ok (.iconst 0, 1) := by decide +kernel
theorem dX11_stair_30 : decode cX11_stair 30 = .ok (.putfield 92, 3) := by decide +kernel
theorem dX11_stair_33 : decode cX11_stair 33 = .ok (.iconst 1, 1) := by decide +kernel
theorem dX11_stair_34 : decode cX11_stair 34 = .ok (.ireturn, 1) := by decide +kernel
theorem dX11_kind_0 : decode cX11_kind 0 = .ok (.aload_n 0, 1) := by decide +kernel
theorem dX11_kind_1 : decode cX11_kind 1 = .ok (.getfield 10, 3) := by decide +kernel
theorem dX11_kind_4 : decode cX11_kind 4 = .ok (.iload_n 1, 1) := by decide +kernel
theorem dX11_kind_5 : decode cX11_kind 5 = .ok (.invokevirtual 104, 3) := by decide +kernel
theorem dX11_kind_8 : decode cX11_kind 8 = .ok (.ifCond .eq 33, 3) := by decide +kernel
theorem dX11_kind_11 : decode cX11_kind 11 = .ok (.iload_n 2, 1) := by decide +kernel
theorem dX11_kind_12 : decode cX11_kind 12 = .ok (.bipush (-9), 2) := by decide +kernel
theorem dX11_kind_14 : decode cX11_kind 14 = .ok (.if_icmp .lt 27, 3) := by decide +kernel
theorem dX11_kind_17 : decode cX11_kind 17 = .ok (.iload_n 2, 1) := by decide +kernel
theorem dX11_kind_18 : decode cX11_kind 18 = .ok (.bipush 9, 2) := by decide +kernel
theorem dX11_kind_20 : decode cX11_kind 20 = .ok (.if_icmp .gt 21, 3) := by decide +kernel
theorem dX11_kind_23 : decode cX11_kind 23 = .ok (.iload_n 3, 1) := by decide +kernel
theorem dX11_kind_24 : decode cX11_kind 24 = .ok (.iconst 4, 1) := by decide +kernel
theorem dX11_kind_25 : decode cX11_kind 25 = .ok (.invokestatic 108, 3) := by decide +kernel
theorem dX11_kind_28 : decode cX11_kind 28 = .ok (.ifCond .eq 13, 3) := by decide +kernel
theorem dX11_kind_31 : decode cX11_kind 31 = .ok (.iload 4, 2) := by decide +kernel
theorem dX11_kind_33 : decode cX11_kind 33 = .ok (.bipush 99, 2) := by decide +kernel
theorem dX11_kind_35 : decode cX11_kind 35 = .ok (.invokestatic 108, 3) := by decide +kernel
theorem dX11_kind_38 : decode cX11_kind 38 = .ok (.ifCond .ne 5, 3) := by decide +kernel
theorem dX11_kind_41 : decode cX11_kind 41 = .ok (.iconst 0, 1) := by decide +kernel
theorem dX11_kind_42 : decode cX11_kind 42 = .ok (.ireturn, 1) := by decide +kernel
theorem dX11_kind_43 : decode cX11_kind 43 = .ok (.aload_n 0, 1) := by decide +kernel
theorem dX11_kind_44 : decode cX11_kind 44 = .ok (.getfield 10, 3) := by decide +kernel
theorem dX11_kind_47 : decode cX11_kind 47 = .ok (.iload_n 1, 1) := by decide +kernel
theorem dX11_kind_48 : decode cX11_kind 48 = .ok (.iload_n 2, 1) := by decide +kernel
theorem dX11_kind_49 : decode cX11_kind 49 = .ok (.iload_n 3, 1) := by decide +kernel
theorem dX11_kind_50 : decode cX11_kind 50 = .ok (.iload 4, 2) := by decide +kernel
theorem dX11_kind_52 : decode cX11_kind 52 = .ok (.invokevirtual 112, 3) := by decide +kernel
theorem dX11_kind_55 : decode cX11_kind 55 = .ok (.aload_n 0, 1) := by decide +kernel
theorem dX11_kind_56 : decode cX11_kind 56 = .ok (.iconst 0, 1) := by decide +kernel
theorem dX11_kind_57 : decode cX11_kind 57 = .ok (.putfield 92, 3) := by decide +kernel
theorem dX11_kind_60 : decode cX11_kind 60 = .ok (.iconst 1, 1) := by decide +kernel
theorem dX11_kind_61 : decode cX11_kind 61 = .ok (.ireturn, 1) := by decide +kernel
theorem dX11_cost_0 : decode cX11_cost 0 = .ok (.iload_n 1, 1) := by decide +kernel
theorem dX11_cost_1 : decode cX11_cost 1 = .ok (.bipush 99, 2) := by decide +kernel
theorem dX11_cost_3 : decode cX11_cost 3 = .ok (.invokestatic 108, 3) := by decide +kernel
theorem dX11_cost_6 : decode cX11_cost 6 = .ok (.ifCond .eq 12, 3) := by decide +kernel
theorem dX11_cost_9 : decode cX11_cost 9 = .ok (.iload_n 2, 1) := by decide +kernel
theorem dX11_cost_10 : decode cX11_cost 10 = .ok (.bipush 9, 2) := by decide +kernel
theorem dX11_cost_12 : decode cX11_cost 12 = .ok (.invokestatic 108, 3) := by decide +kernel
theorem dX11_cost_15 : decode cX11_cost 15 = .ok (.ifCond .ne 5, 3) := by decide +kernel
theorem dX11_cost_18 : decode cX11_cost 18 = .ok (.iconst 0, 1) := by decide +kernel
theorem dX11_cost_19 : decode cX11_cost 19 = .ok (.ireturn, 1) := by decide +kernel
theorem dX11_cost_20 : decode cX11_cost 20 = .ok (.aload_n 0, 1) := by decide +kernel
theorem dX11_cost_21 : decode cX11_cost 21 = .ok (.getfield 10, 3) := by decide +kernel
theorem dX11_cost_24 : decode cX11_cost 24 = .ok (.iload_n 1, 1) := by decide +kernel
theorem dX11_cost_25 : decode cX11_cost 25 = .ok (.iload_n 2, 1) := by decide +kernel
theorem dX11_cost_26 : decode cX11_cost 26 = .ok (.invokevirtual 116, 3) := by decide +kernel
theorem dX11_cost_29 : decode cX11_cost 29 = .ok (.iconst 1, 1) := by decide +kernel
theorem dX11_cost_30 : decode cX11_cost 30 = .ok (.ireturn, 1) := by decide +kernel
theorem dX11_weight_0 : decode cX11_weight 0 = .ok (.aload_n 0, 1) := by decide +kernel
theorem dX11_weight_1 : decode cX11_weight 1 = .ok (.getfield 10, 3) := by decide +kernel
theorem dX11_weight_4 : decode cX11_weight 4 = .ok (.iload_n 1, 1) := by decide +kernel
theorem dX11_weight_5 : decode cX11_weight 5 = .ok (.invokevirtual 120, 3) := by decide +kernel
theorem dX11_weight_8 : decode cX11_weight 8 = .ok (.ifCond .eq 12, 3) := by decide +kernel
theorem dX11_weight_11 : decode cX11_weight 11 = .ok (.iload_n 2, 1) := by decide +kernel
theorem dX11_weight_12 : decode cX11_weight 12 = .ok (.bipush 99, 2) := by decide +kernel
theorem dX11_weight_14 : decode cX11_weight 14 = .ok (.invokestatic 108, 3) := by decide +kernel
theorem dX11_weight_17 : decode cX11_weight 17 = .ok (.ifCond .ne 5, 3) := by decide +kernel
theorem dX11_weight_20 : decode cX11_weight 20 = .ok (.iconst 0, 1) := by decide +kernel
theorem dX11_weight_21 : decode cX11_weight 21 = .ok (.ireturn, 1) := by decide +kernel
theorem dX11_weight_22 : decode cX11_weight 22 = .ok (.aload_n 0, 1) := by decide +kernel
theorem dX11_weight_23 : decode cX11_weight 23 = .ok (.getfield 10, 3) := by decide +kernel
theorem dX11_weight_26 : decode cX11_weight 26 = .ok (.iload_n 1, 1) := by decide +kernel
theorem dX11_weight_27 : decode cX11_weight 27 = .ok (.iload_n 2, 1) := by decide +kernel
theorem dX11_weight_28 : decode cX11_weight 28 = .ok (.invokevirtual 123, 3) := by decide +kernel
theorem dX11_weight_31 : decode cX11_weight 31 = .ok (.iconst 1, 1) := by decide +kernel
theorem dX11_weight_32 : decode cX11_weight 32 = .ok (.ireturn, 1) := by decide +kernel
theorem dX11_look_0 : decode cX11_look 0 = .ok (.aload_n 0, 1) := by decide +kernel
theorem dX11_look_1 : decode cX11_look 1 = .ok (.getfield 10, 3) := by decide +kernel
theorem dX11_look_4 : decode cX11_look 4 = .ok (.iload_n 1, 1) := by decide +kernel
theorem dX11_look_5 : decode cX11_look 5 = .ok (.invokevirtual 104, 3) := by decide +kernel
theorem dX11_look_8 : decode cX11_look 8 = .ok (.ifCond .ne 13, 3) := by decide +kernel
theorem dX11_look_11 : decode cX11_look 11 = .ok (.new 126, 3) := by decide +kernel
theorem dX11_look_14 : decode cX11_look 14 = .ok (.dup, 1) := by decide +kernel
theorem dX11_look_15 : decode cX11_look 15 = .ok (.ldc 128, 2) := by decide +kernel
theorem dX11_look_17 : decode cX11_look 17 = .ok (.invokespecial 130, 3) := by decide +kernel
theorem dX11_look_20 : decode cX11_look 20 = .ok (.athrow, 1) := by decide +kernel
theorem dX11_look_21 : decode cX11_look 21 = .ok (.iload_n 2, 1) := by decide +kernel
theorem dX11_look_22 : decode cX11_look 22 = .ok (.tableswitch 56 0 2 #[26, 36, 46], 26) := by decide +kernel
theorem dX11_look_48 : decode cX11_look 48 = .ok (.aload_n 0, 1) := by decide +kernel
theorem dX11_look_49 : decode cX11_look 49 = .ok (.getfield 10, 3) := by decide +kernel
theorem dX11_look_52 : decode cX11_look 52 = .ok (.getfield 133, 3) := by decide +kernel
theorem dX11_look_55 : decode cX11_look 55 = .ok (.iload_n 1, 1) := by decide +kernel
theorem dX11_look_56 : decode cX11_look 56 = .ok (.iaload, 1) := by decide +kernel
theorem dX11_look_57 : decode cX11_look 57 = .ok (.ireturn, 1) := by decide +kernel
theorem dX11_look_58 : decode cX11_look 58 = .ok (.aload_n 0, 1) := by decide +kernel
theorem dX11_look_59 : decode cX11_look 59 = .ok (.getfield 10, 3) := by decide +kernel
theorem dX11_look_62 : decode cX11_look 62 = .ok (.getfield 136, 3) := by decide +kernel
theorem dX11_look_65 : decode cX11_look 65 = .ok (.iload_n 1, 1) := by decide +kernel
theorem dX11_look_66 : decode cX11_look 66 = .ok (.iaload, 1) := by decide +kernel
theorem dX11_look_67 : decode cX11_look 67 = .ok (.ireturn, 1) := by decide +kernel
theorem dX11_look_68 : decode cX11_look 68 = .ok (.aload_n 0, 1) := by decide +kernel
theorem dX11_look_69 : decode cX11_look 69 = .ok (.getfield 10, 3) := by decide +kernel
theorem dX11_look_72 : decode cX11_look 72 = .ok (.getfield 139, 3) := by decide +kernel
theorem dX11_look_75 : decode cX11_look 75 = .ok (.iload_n 1, 1) := by decide +kernel
theorem dX11_look_76 : decode cX11_look 76 = .ok (.iaload, 1) := by decide +kernel
theorem dX11_look_77 : decode cX11_look 77 = .ok (.ireturn, 1) := by decide +kernel
theorem dX11_look_78 : decode cX11_look 78 = .ok (.new 142, 3) := by decide +kernel
theorem dX11_look_81 : decode cX11_look 81 = .ok (.dup, 1) := by decide +kernel
theorem dX11_look_82 : decode cX11_look 82 = .ok (.ldc 144, 2) := by decide +kernel
theorem dX11_look_84 : decode cX11_look 84 = .ok (.invokespecial 146, 3) := by decide +kernel
theorem dX11_look_87 : decode cX11_look 87 = .ok (.athrow, 1) := by decide +kernel
theorem dX11_likely_0 : decode cX11_likely 0 = .ok (.aload_n 0, 1) := by decide +kernel
theorem dX11_likely_1 : decode cX11_likely 1 = .ok (.getfield 10, 3) := by decide +kernel
theorem dX11_likely_4 : decode cX11_likely 4 = .ok (.iload_n 1, 1) := by decide +kernel
theorem dX11_likely_5 : decode cX11_likely 5 = .ok (.invokevirtual 120, 3) := by decide +kernel
theorem dX11_likely_8 : decode cX11_likely 8 = .ok (.ifCond .eq 15, 3) := by decide +kernel
theorem dX11_likely_11 : decode cX11_likely 11 = .ok (.aload_n 0, 1) := by decide +kernel
theorem dX11_likely_12 : decode cX11_likely 12 = .ok (.getfield 10, 3) := by decide +kernel
theorem dX11_likely_15 : decode cX11_likely 15 = .ok (.getfield 147, 3) := by decide +kernel
theorem dX11_likely_18 : decode cX11_likely 18 = .ok (.iload_n 1, 1) := by decide +kernel
theorem dX11_likely_19 : decode cX11_likely 19 = .ok (.iaload, 1) := by decide +kernel
theorem dX11_likely_20 : decode cX11_likely 20 = .ok (.goto 4, 3) := by decide +kernel
theorem dX11_likely_23 : decode cX11_likely 23 = .ok (.iconst (-1), 1) := by decide +kernel
theorem dX11_likely_24 : decode cX11_likely 24 = .ok (.ireturn, 1) := by decide +kernel
theorem dX11_plan_0 : decode cX11_plan 0 = .ok (.iload_n 1, 1) := by decide +kernel
theorem dX11_plan_1 : decode cX11_plan 1 = .ok (.ifCond .lt 11, 3) := by decide +kernel
theorem dX11_plan_4 : decode cX11_plan 4 = .ok (.iload_n 1, 1) := by decide +kernel
theorem dX11_plan_5 : decode cX11_plan 5 = .ok (.aload_n 0, 1) := by decide +kernel
theorem dX11_plan_6 : decode cX11_plan 6 = .ok (.getfield 20, 3) := by decide +kernel
theorem dX11_plan_9 : decode cX11_plan 9 = .ok (.if_icmp .le 6, 3) := by decide +kernel
theorem dX11_plan_12 : decode cX11_plan 12 = .ok (.bipush (-2), 2) := by decide +kernel
theorem dX11_plan_14 : decode cX11_plan 14 = .ok (.ireturn, 1) := by decide +kernel
theorem dX11_plan_15 : decode cX11_plan 15 = .ok (.aload_n 0, 1) := by decide +kernel
theorem dX11_plan_16 : decode cX11_plan 16 = .ok (.getfield 27, 3) := by decide +kernel
theorem dX11_plan_19 : decode cX11_plan 19 = .ok (.aload_n 0, 1) := by decide +kernel
theorem dX11_plan_20 : decode cX11_plan 20 = .ok (.getfield 16, 3) := by decide +kernel
theorem dX11_plan_23 : decode cX11_plan 23 = .ok (.iload_n 1, 1) := by decide +kernel
theorem dX11_plan_24 : decode cX11_plan 24 = .ok (.aload_n 0, 1) := by decide +kernel
theorem dX11_plan_25 : decode cX11_plan 25 = .ok (.getfield 38, 3) := by decide +kernel
theorem dX11_plan_28 : decode cX11_plan 28 = .ok (.invokevirtual 150, 3) := by decide +kernel
theorem dX11_plan_31 : decode cX11_plan 31 = .ok (.aload_n 0, 1) := by decide +kernel
theorem dX11_plan_32 : decode cX11_plan 32 = .ok (.iconst 0, 1) := by decide +kernel
theorem dX11_plan_33 : decode cX11_plan 33 = .ok (.putfield 20, 3) := by decide +kernel
theorem dX11_plan_36 : decode cX11_plan 36 = .ok (.aload_n 0, 1) := by decide +kernel
theorem dX11_plan_37 : decode cX11_plan 37 = .ok (.getfield 27, 3) := by decide +kernel
theorem dX11_plan_40 : decode cX11_plan 40 = .ok (.getfield 154, 3) := by decide +kernel
theorem dX11_plan_43 : decode cX11_plan 43 = .ok (.ifCond .eq 5, 3) := by decide +kernel
theorem dX11_plan_46 : decode cX11_plan 46 = .ok (.iconst (-1), 1) := by decide +kernel
theorem dX11_plan_47 : decode cX11_plan 47 = .ok (.ireturn, 1) := by decide +kernel
theorem dX11_plan_48 : decode cX11_plan 48 = .ok (.aload_n 0, 1) := by decide +kernel
theorem dX11_plan_49 : decode cX11_plan 49 = .ok (.getfield 34, 3) := by decide +kernel
theorem dX11_plan_52 : decode cX11_plan 52 = .ok (.astore_n 2, 1) := by decide +kernel
theorem dX11_plan_53 : decode cX11_plan 53 = .ok (.aload_n 0, 1) := by decide +kernel
theorem dX11_plan_54 : decode cX11_plan 54 = .ok (.aload_n 0, 1) := by decide +kernel
theorem dX11_plan_55 : decode cX11_plan 55 = .ok (.getfield 38, 3) := by decide +kernel
theorem dX11_plan_58 : decode cX11_plan 58 = .ok (.putfield 34, 3) := by decide +kernel
theorem dX11_plan_61 : decode cX11_plan 61 = .ok (.aload_n 0, 1) := by decide +kernel
theorem dX11_plan_62 : decode cX11_plan 62 = .ok (.aload_n 2, 1) := by decide +kernel
theorem dX11_plan_63 : decode cX11_plan 63 = .ok (.putfield 38, 3) := by decide +kernel
theorem dX11_plan_66 : decode cX11_plan 66 = .ok (.aload_n 0, 1) := by decide +kernel
theorem dX11_plan_67 : decode cX11_plan 67 = .ok (.iconst 1, 1) := by decide +kernel
theorem dX11_plan_68 : decode cX11_plan 68 = .ok (.putfield 41, 3) := by decide +kernel
theorem dX11_plan_71 : decode cX11_plan 71 = .ok (.aload_n 0, 1) := by decide +kernel
theorem dX11_plan_72 : decode cX11_plan 72 = .ok (.getfield 34, 3) := by decide +kernel
theorem dX11_plan_75 : decode cX11_plan 75 = .ok (.getfield 157, 3) := by decide +kernel
theorem dX11_plan_78 : decode cX11_plan 78 = .ok (.ireturn, 1) := by decide +kernel
theorem dX11_fault_0 : decode cX11_fault 0 = .ok (.iload_n 1, 1) := by decide +kernel
theorem dX11_fault_1 : decode cX11_fault 1 = .ok (.lookupswitch 43 #[(0, 27), (1, 35)], 27) := by decide +kernel
theorem dX11_fault_28 : decode cX11_fault 28 = .ok (.aload_n 0, 1) := by decide +kernel
theorem dX11_fault_29 : decode cX11_fault 29 = .ok (.getfield 27, 3) := by decide +kernel
theorem dX11_fault_32 : decode cX11_fault 32 = .ok (.getfield 154, 3) := by decide +kernel
theorem dX11_fault_35 : decode cX11_fault 35 = .ok (.ireturn, 1) := by decide +kernel
theorem dX11_fault_36 : decode cX11_fault 36 = .ok (.aload_n 0, 1) := by decide +kernel
theorem dX11_fault_37 : decode cX11_fault 37 = .ok (.getfield 27, 3) := by decide +kernel
theorem dX11_fault_40 : decode cX11_fault 40 = .ok (.getfield 160, 3) := by decide +kernel
theorem dX11_fault_43 : decode cX11_fault 43 = .ok (.ireturn, 1) := by decide +kernel
theorem dX11_fault_44 : decode cX11_fault 44 = .ok (.iconst (-1), 1) := by decide +kernel
theorem dX11_fault_45 : decode cX11_fault 45 = .ok (.ireturn, 1) := by decide +kernel
theorem dX11_tried_0 : decode cX11_tried 0 = .ok (.aload_n 0, 1) := by decide +kernel
theorem dX11_tried_1 : decode cX11_tried 1 = .ok (.getfield 41, 3) := by decide +kernel
theorem dX11_tried_4 : decode cX11_tried 4 = .ok (.ifCond .ne 7, 3) := by decide +kernel
theorem dX11_tried_7 : decode cX11_tried 7 = .ok (.ldc2_w 163, 3) := by decide +kernel
theorem dX11_tried_10 : decode cX11_tried 10 = .ok (.lreturn, 1) := by decide +kernel
theorem dX11_tried_11 : decode cX11_tried 11 = .ok (.aload_n 0, 1) := by decide +kernel
theorem dX11_tried_12 : decode cX11_tried 12 = .ok (.getfield 10, 3) := by decide +kernel
theorem dX11_tried_15 : decode cX11_tried 15 = .ok (.iload_n 1, 1) := by decide +kernel
theorem dX11_tried_16 : decode cX11_tried 16 = .ok (.invokevirtual 120, 3) := by decide +kernel
theorem dX11_tried_19 : decode cX11_tried 19 = .ok (.ifCond .eq 11, 3) := by decide +kernel
theorem dX11_tried_22 : decode cX11_tried 22 = .ok (.iload_n 2, 1) := by decide +kernel
theorem dX11_tried_23 : decode cX11_tried 23 = .ok (.iconst 4, 1) := by decide +kernel
theorem dX11_tried_24 : decode cX11_tried 24 = .ok (.invokestatic 108, 3) := by decide +kernel
theorem dX11_tried_27 : decode cX11_tried 27 = .ok (.ifCond .ne 7, 3) := by decide +kernel
theorem dX11_tried_30 : decode cX11_tried 30 = .ok (.ldc2_w 165, 3) := by decide +kernel
theorem dX11_tried_33 : decode cX11_tried 33 = .ok (.lreturn, 1) := by decide +kernel
theorem dX11_tried_34 : decode cX11_tried 34 = .ok (.aload_n 0, 1) := by decide +kernel
theorem dX11_tried_35 : decode cX11_tried 35 = .ok (.getfield 48, 3) := by decide +kernel
theorem dX11_tried_38 : decode cX11_tried 38 = .ok (.aload_n 0, 1) := by decide +kernel
theorem dX11_tried_39 : decode cX11_tried 39 = .ok (.getfield 10, 3) := by decide +kernel
theorem dX11_tried_42 : decode cX11_tried 42 = .ok (.aload_n 0, 1) := by decide +kernel
theorem dX11_tried_43 : decode cX11_tried 43 = .ok (.getfield 34, 3) := by decide +kernel
theorem dX11_tried_46 : decode cX11_tried 46 = .ok (.iload_n 1, 1) := by decide +kernel
theorem dX11_tried_47 : decode cX11_tried 47 = .ok (.invokevirtual 167, 3) := by decide +kernel
theorem dX11_tried_50 : decode cX11_tried 50 = .ok (.iload_n 2, 1) := by decide +kernel
theorem dX11_tried_51 : decode cX11_tried 51 = .ok (.tableswitch 74 0 3 #[29, 38, 50, 62], 29) := by decide +kernel
theorem dX11_tried_80 : decode cX11_tried 80 = .ok (.aload_n 0, 1) := by decide +kernel
theorem dX11_tried_81 : decode cX11_tried 81 = .ok (.getfield 48, 3) := by decide +kernel
theorem dX11_tried_84 : decode cX11_tried 84 = .ok (.getfield 171, 3) := by decide +kernel
theorem dX11_tried_87 : decode cX11_tried 87 = .ok (.i2l, 1) := by decide +kernel
theorem dX11_tried_88 : decode cX11_tried 88 = .ok (.lreturn, 1) := by decide +kernel
theorem dX11_tried_89 : decode cX11_tried 89 = .ok (.aload_n 0, 1) := by decide +kernel
theorem dX11_tried_90 : decode cX11_tried 90 = .ok (.getfield 48, 3) := by decide +kernel
theorem dX11_tried_93 : decode cX11_tried 93 = .ok (.getfield 174, 3) := by decide +kernel
theorem dX11_tried_96 : decode cX11_tried 96 = .ok (.getfield 177, 3) := by decide +kernel
theorem dX11_tried_99 : decode cX11_tried 99 = .ok (.i2l, 1) := by decide +kernel
theorem dX11_tried_100 : decode cX11_tried 100 = .ok (.lreturn, 1) := by decide +kernel
theorem dX11_tried_101 : decode cX11_tried 101 = .ok (.aload_n 0, 1) := by decide +kernel
theorem dX11_tried_102 : decode cX11_tried 102 = .ok (.getfield 48, 3) := by decide +kernel
theorem dX11_tried_105 : decode cX11_tried 105 = .ok (.getfield 174, 3) := by decide +kernel
theorem dX11_tried_108 : decode cX11_tried 108 = .ok (.getfield 180, 3) := by decide +kernel
theorem dX11_tried_111 : decode cX11_tried 111 = .ok (.i2l, 1) := by decide +kernel
theorem dX11_tried_112 : decode cX11_tried 112 = .ok (.lreturn, 1) := by decide +kernel
theorem dX11_tried_113 : decode cX11_tried 113 = .ok (.aload_n 0, 1) := by decide +kernel
theorem dX11_tried_114 : decode cX11_tried 114 = .ok (.getfield 48, 3) := by decide +kernel
theorem dX11_tried_117 : decode cX11_tried 117 = .ok (.getfield 174, 3) := by decide +kernel
theorem dX11_tried_120 : decode cX11_tried 120 = .ok (.getfield 183, 3) := by decide +kernel
theorem dX11_tried_123 : decode cX11_tried 123 = .ok (.i2l, 1) := by decide +kernel
theorem dX11_tried_124 : decode cX11_tried 124 = .ok (.lreturn, 1) := by decide +kernel
theorem dX11_tried_125 : decode cX11_tried 125 = .ok (.aload_n 0, 1) := by decide +kernel
theorem dX11_tried_126 : decode cX11_tried 126 = .ok (.getfield 48, 3) := by decide +kernel
theorem dX11_tried_129 : decode cX11_tried 129 = .ok (.getfield 186, 3) := by decide +kernel
theorem dX11_tried_132 : decode cX11_tried 132 = .ok (.lreturn, 1) := by decide +kernel
theorem dX11_fall_0 : decode cX11_fall 0 = .ok (.aload_n 0, 1) := by decide +kernel
theorem dX11_fall_1 : decode cX11_fall 1 = .ok (.getfield 41, 3) := by decide +kernel
theorem dX11_fall_4 : decode cX11_fall 4 = .ok (.ifCond .ne 6, 3) := by decide +kernel
theorem dX11_fall_7 : decode cX11_fall 7 = .ok (.bipush (-2), 2) := by decide +kernel
theorem dX11_fall_9 : decode cX11_fall 9 = .ok (.ireturn, 1) := by decide +kernel
theorem dX11_fall_10 : decode cX11_fall 10 = .ok (.aload_n 0, 1) := by decide +kernel
theorem dX11_fall_11 : decode cX11_fall 11 = .ok (.getfield 10, 3) := by decide +kernel
theorem dX11_fall_14 : decode cX11_fall 14 = .ok (.iload_n 1, 1) := by decide +kernel
theorem dX11_fall_15 : decode cX11_fall 15 = .ok (.invokevirtual 120, 3) := by decide +kernel
theorem dX11_fall_18 : decode cX11_fall 18 = .ok (.ifCond .eq 15, 3) := by decide +kernel
theorem dX11_fall_21 : decode cX11_fall 21 = .ok (.iload_n 2, 1) := by decide +kernel
theorem dX11_fall_22 : decode cX11_fall 22 = .ok (.ifCond .lt 11, 3) := by decide +kernel
theorem dX11_fall_25 : decode cX11_fall 25 = .ok (.iload_n 3, 1) := by decide +kernel
theorem dX11_fall_26 : decode cX11_fall 26 = .ok (.iconst 2, 1) := by decide +kernel
theorem dX11_fall_27 : decode cX11_fall 27 = .ok (.invokestatic 108, 3) := by decide +kernel
theorem dX11_fall_30 : decode cX11_fall 30 = .ok (.ifCond .ne 5, 3) := by decide +kernel
theorem dX11_fall_33 : decode cX11_fall 33 = .ok (.iconst (-1), 1) := by decide +kernel
theorem dX11_fall_34 : decode cX11_fall 34 = .ok (.ireturn, 1) := by decide +kernel
theorem dX11_fall_35 : decode cX11_fall 35 = .ok (.aload_n 0, 1) := by decide +kernel
theorem dX11_fall_36 : decode cX11_fall 36 = .ok (.getfield 48, 3) := by decide +kernel
theorem dX11_fall_39 : decode cX11_fall 39 = .ok (.aload_n 0, 1) := by decide +kernel
theorem dX11_fall_40 : decode cX11_fall 40 = .ok (.getfield 10, 3) := by decide +kernel
theorem dX11_fall_43 : decode cX11_fall 43 = .ok (.aload_n 0, 1) := by decide +kernel
theorem dX11_fall_44 : decode cX11_fall 44 = .ok (.getfield 34, 3) := by decide +kernel
theorem dX11_fall_47 : decode cX11_fall 47 = .ok (.iload_n 1, 1) := by decide +kernel
theorem dX11_fall_48 : decode cX11_fall 48 = .ok (.invokevirtual 167, 3) := by decide +kernel
theorem dX11_fall_51 : decode cX11_fall 51 = .ok (.aload_n 0, 1) := by decide +kernel
theorem dX11_fall_52 : decode cX11_fall 52 = .ok (.getfield 48, 3) := by decide +kernel
theorem dX11_fall_55 : decode cX11_fall 55 = .ok (.getfield 174, 3) := by decide +kernel
theorem dX11_fall_58 : decode cX11_fall 58 = .ok (.iload_n 2, 1) := by decide +kernel
theorem dX11_fall_59 : decode cX11_fall 59 = .ok (.iload_n 3, 1) := by decide +kernel
theorem dX11_fall_60 : decode cX11_fall 60 = .ok (.invokevirtual 190, 3) := by decide +kernel
theorem dX11_fall_63 : decode cX11_fall 63 = .ok (.ireturn, 1) := by decide +kernel
theorem dX11_judge_0 : decode cX11_judge 0 = .ok (.aload_n 0, 1) := by decide +kernel
theorem dX11_judge_1 : decode cX11_judge 1 = .ok (.getfield 41, 3) := by decide +kernel
theorem dX11_judge_4 : decode cX11_judge 4 = .ok (.ifCond .ne 7, 3) := by decide +kernel
theorem dX11_judge_7 : decode cX11_judge 7 = .ok (.ldc2_w 163, 3) := by decide +kernel
theorem dX11_judge_10 : decode cX11_judge 10 = .ok (.lreturn, 1) := by decide +kernel
theorem dX11_judge_11 : decode cX11_judge 11 = .ok (.iload_n 1, 1) := by decide +kernel
theorem dX11_judge_12 : decode cX11_judge 12 = .ok (.iconst 5, 1) := by decide +kernel
theorem dX11_judge_13 : decode cX11_judge 13 = .ok (.invokestatic 108, 3) := by decide +kernel
theorem dX11_judge_16 : decode cX11_judge 16 = .ok (.ifCond .ne 7, 3) := by decide +kernel
theorem dX11_judge_19 : decode cX11_judge 19 = .ok (.ldc2_w 165, 3) := by decide +kernel
theorem dX11_judge_22 : decode cX11_judge 22 = .ok (.lreturn, 1) := by decide +kernel
theorem dX11_judge_23 : decode cX11_judge 23 = .ok (.lconst 0, 1) := by decide +kernel
theorem dX11_judge_24 : decode cX11_judge 24 = .ok (.lstore_n 2, 1) := by decide +kernel
theorem dX11_judge_25 : decode cX11_judge 25 = .ok (.iconst 0, 1) := by decide +kernel
theorem dX11_judge_26 : decode cX11_judge 26 = .ok (.istore 4, 2) := by decide +kernel
theorem dX11_judge_28 : decode cX11_judge 28 = .ok (.iload 4, 2) := by decide +kernel
theorem dX11_judge_30 : decode cX11_judge 30 = .ok (.aload_n 0, 1) := by decide +kernel
theorem dX11_judge_31 : decode cX11_judge 31 = .ok (.getfield 10, 3) := by decide +kernel
theorem dX11_judge_34 : decode cX11_judge 34 = .ok (.getfield 194, 3) := by decide +kernel
theorem dX11_judge_37 : decode cX11_judge 37 = .ok (.if_icmp .gt 65, 3) := by decide +kernel
theorem dX11_judge_40 : decode cX11_judge 40 = .ok (.aload_n 0, 1) := by decide +kernel
theorem dX11_judge_41 : decode cX11_judge 41 = .ok (.getfield 48, 3) := by decide +kernel
theorem dX11_judge_44 : decode cX11_judge 44 = .ok (.aload_n 0, 1) := by decide +kernel
theorem dX11_judge_45 : decode cX11_judge 45 = .ok (.getfield 10, 3) := by decide +kernel
theorem dX11_judge_48 : decode cX11_judge 48 = .ok (.aload_n 0, 1) := by decide +kernel
theorem dX11_judge_49 : decode cX11_judge 49 = .ok (.getfield 34, 3) := by decide +kernel
theorem dX11_judge_52 : decode cX11_judge 52 = .ok (.iload 4, 2) := by decide +kernel
theorem dX11_judge_54 : decode cX11_judge 54 = .ok (.invokevirtual 167, 3) := by decide +kernel
theorem dX11_judge_57 : decode cX11_judge 57 = .ok (.aload_n 0, 1) := by decide +kernel
theorem dX11_judge_58 : decode cX11_judge 58 = .ok (.getfield 48, 3) := by decide +kernel
theorem dX11_judge_61 : decode cX11_judge 61 = .ok (.iload_n 1, 1) := by decide +kernel
theorem dX11_judge_62 : decode cX11_judge 62 = .ok (.aload_n 0, 1) := by decide +kernel
theorem dX11_judge_63 : decode cX11_judge 63 = .ok (.getfield 10, 3) := by decide +kernel
theorem dX11_judge_66 : decode cX11_judge 66 = .ok (.getfield 147, 3) := by decide +kernel
theorem dX11_judge_69 : decode cX11_judge 69 = .ok (.iload 4, 2) := by decide +kernel
theorem dX11_judge_71 : decode cX11_judge 71 = .ok (.iaload, 1) := by decide +kernel
theorem dX11_judge_72 : decode cX11_judge 72 = .ok (.invokevirtual 197, 3) := by decide +kernel
theorem dX11_judge_75 : decode cX11_judge 75 = .ok (.lstore 5, 2) := by decide +kernel
theorem dX11_judge_77 : decode cX11_judge 77 = .ok (.iload_n 1, 1) := by decide +kernel
theorem dX11_judge_78 : decode cX11_judge 78 = .ok (.iconst 2, 1) := by decide +kernel
theorem dX11_judge_79 : decode cX11_judge 79 = .ok (.if_icmp .ge 12, 3) := by decide +kernel
theorem dX11_judge_82 : decode cX11_judge 82 = .ok (.lload_n 2, 1) := by decide +kernel
theorem dX11_judge_83 : decode cX11_judge 83 = .ok (.lload 5, 2) := by decide +kernel
theorem dX11_judge_85 : decode cX11_judge 85 = .ok (.invokestatic 201, 3) := by decide +kernel
theorem dX11_judge_88 : decode cX11_judge 88 = .ok (.goto 7, 3) := by decide +kernel
theorem dX11_judge_91 : decode cX11_judge 91 = .ok (.lload_n 2, 1) := by decide +kernel
theorem dX11_judge_92 : decode cX11_judge 92 = .ok (.lload 5, 2) := by decide +kernel
theorem dX11_judge_94 : decode cX11_judge 94 = .ok (.ladd, 1) := by decide +kernel
theorem dX11_judge_95 : decode cX11_judge 95 = .ok (.lstore_n 2, 1) := by decide +kernel
theorem dX11_judge_96 : decode cX11_judge 96 = .ok (.iinc 4 1, 3) := by decide +kernel
theorem dX11_judge_99 : decode cX11_judge 99 = .ok (.goto (-71), 3) := by decide +kernel
theorem dX11_judge_102 : decode cX11_judge 102 = .ok (.lload_n 2, 1) := by decide +kernel
theorem dX11_judge_103 : decode cX11_judge 103 = .ok (.lreturn, 1) := by decide +kernel
theorem dX11_best_0 : decode cX11_best 0 = .ok (.iload_n 1, 1) := by decide +kernel
theorem dX11_best_1 : decode cX11_best 1 = .ok (.iconst 3, 1) := by decide +kernel
theorem dX11_best_2 : decode cX11_best 2 = .ok (.invokestatic 108, 3) := by decide +kernel
theorem dX11_best_5 : decode cX11_best 5 = .ok (.ifCond .ne 7, 3) := by decide +kernel
theorem dX11_best_8 : decode cX11_best 8 = .ok (.ldc2_w 165, 3) := by decide +kernel
theorem dX11_best_11 : decode cX11_best 11 = .ok (.lreturn, 1) := by decide +kernel
theorem dX11_best_12 : decode cX11_best 12 = .ok (.aload_n 0, 1) := by decide +kernel
theorem dX11_best_13 : decode cX11_best 13 = .ok (.getfield 55, 3) := by decide +kernel
theorem dX11_best_16 : decode cX11_best 16 = .ok (.aload_n 0, 1) := by decide +kernel
theorem dX11_best_17 : decode cX11_best 17 = .ok (.getfield 10, 3) := by decide +kernel
theorem dX11_best_20 : decode cX11_best 20 = .ok (.iload_n 1, 1) := by decide +kernel
theorem dX11_best_21 : decode cX11_best 21 = .ok (.invokevirtual 207, 3) := by decide +kernel
theorem dX11_best_24 : decode cX11_best 24 = .ok (.aload_n 0, 1) := by decide +kernel
theorem dX11_best_25 : decode cX11_best 25 = .ok (.getfield 55, 3) := by decide +kernel
theorem dX11_best_28 : decode cX11_best 28 = .ok (.iconst 0, 1) := by decide +kernel
theorem dX11_best_29 : decode cX11_best 29 = .ok (.aload_n 0, 1) := by decide +kernel
theorem dX11_best_30 : decode cX11_best 30 = .ok (.getfield 10, 3) := by decide +kernel
theorem dX11_best_33 : decode cX11_best 33 = .ok (.getfield 194, 3) := by decide +kernel
theorem dX11_best_36 : decode cX11_best 36 = .ok (.aload_n 0, 1) := by decide +kernel
theorem dX11_best_37 : decode cX11_best 37 = .ok (.getfield 10, 3) := by decide +kernel
theorem dX11_best_40 : decode cX11_best 40 = .ok (.invokevirtual 211, 3) := by decide +kernel
theorem dX11_best_43 : decode cX11_best 43 = .ok (.invokevirtual 215, 3) := by decide +kernel
theorem dX11_best_46 : decode cX11_best 46 = .ok (.lreturn, 1) := by decide +kernel
theorem dX11_next_0 : decode cX11_next 0 = .ok (.iload_n 1, 1) := by decide +kernel
theorem dX11_next_1 : decode cX11_next 1 = .ok (.iconst 3, 1) := by decide +kernel
theorem dX11_next_2 : decode cX11_next 2 = .ok (.invokestatic 108, 3) := by decide +kernel
theorem dX11_next_5 : decode cX11_next 5 = .ok (.ifCond .eq 42, 3) := by decide +kernel
theorem dX11_next_8 : decode cX11_next 8 = .ok (.iload_n 2, 1) := by decide +kernel
theorem dX11_next_9 : decode cX11_next 9 = .ok (.ifCond .lt 38, 3) := by decide +kernel
theorem dX11_next_12 : decode cX11_next 12 = .ok (.iload_n 2, 1) := by decide +kernel
theorem dX11_next_13 : decode cX11_next 13 = .ok (.iload_n 3, 1) := by decide +kernel
theorem dX11_next_14 : decode cX11_next 14 = .ok (.if_icmp .gt 33, 3) := by decide +kernel
theorem dX11_next_17 : decode cX11_next 17 = .ok (.iload_n 3, 1) := by decide +kernel
theorem dX11_next_18 : decode cX11_next 18 = .ok (.aload_n 0, 1) := by decide +kernel
theorem dX11_next_19 : decode cX11_next 19 = .ok (.getfield 10, 3) := by decide +kernel
theorem dX11_next_22 : decode cX11_next 22 = .ok (.getfield 194, 3) := by decide +kernel
theorem dX11_next_25 : decode cX11_next 25 = .ok (.if_icmp .gt 22, 3) := by decide +kernel
theorem dX11_next_28 : decode cX11_next 28 = .ok (.iload 4, 2) := by decide +kernel
theorem dX11_next_30 : decode cX11_next 30 = .ok (.bipush 124, 2) := by decide +kernel
theorem dX11_next_32 : decode cX11_next 32 = .ok (.invokestatic 108, 3) := by decide +kernel
theorem dX11_next_35 : decode cX11_next 35 = .ok (.ifCond .eq 12, 3) := by decide +kernel
theorem dX11_next_38 : decode cX11_next 38 = .ok (.iload 5, 2) := by decide +kernel
theorem dX11_next_40 : decode cX11_next 40 = .ok (.iconst 2, 1) := by decide +kernel
theorem dX11_next_41 : decode cX11_next 41 = .ok (.invokestatic 108, 3) := by decide +kernel
theorem dX11_next_44 : decode cX11_next 44 = .ok (.ifCond .ne 7, 3) := by decide +kernel
theorem dX11_next_47 : decode cX11_next 47 = .ok (.ldc2_w 165, 3) := by decide +kernel
theorem dX11_next_50 : decode cX11_next 50 = .ok (.lreturn, 1) := by decide +kernel
theorem dX11_next_51 : decode cX11_next 51 = .ok (.aload_n 0, 1) := by decide +kernel
theorem dX11_next_52 : decode cX11_next 52 = .ok (.getfield 55, 3) := by decide +kernel
theorem dX11_next_55 : decode cX11_next 55 = .ok (.aload_n 0, 1) := by decide +kernel
theorem dX11_next_56 : decode cX11_next 56 = .ok (.getfield 10, 3) := by decide +kernel
theorem dX11_next_59 : decode cX11_next 59 = .ok (.iload_n 1, 1) := by decide +kernel
theorem dX11_next_60 : decode cX11_next 60 = .ok (.invokevirtual 207, 3) := by decide +kernel
theorem dX11_next_63 : decode cX11_next 63 = .ok (.aload_n 0, 1) := by decide +kernel
theorem dX11_next_64 : decode cX11_next 64 = .ok (.getfield 55, 3) := by decide +kernel
theorem dX11_next_67 : decode cX11_next 67 = .ok (.iload_n 2, 1) := by decide +kernel
theorem dX11_next_68 : decode cX11_next 68 = .ok (.iload_n 3, 1) := by decide +kernel
theorem dX11_next_69 : decode cX11_next 69 = .ok (.iload 4, 2) := by decide +kernel
theorem dX11_next_71 : decode cX11_next 71 = .ok (.invokevirtual 215, 3) := by decide +kernel
theorem dX11_next_74 : decode cX11_next 74 = .ok (.lstore 6, 2) := by decide +kernel
theorem dX11_next_76 : decode cX11_next 76 = .ok (.iload 5, 2) := by decide +kernel
theorem dX11_next_78 : decode cX11_next 78 = .ok (.lookupswitch 38 #[(0, 26), (1, 29)], 26) := by decide +kernel
theorem dX11_next_104 : decode cX11_next 104 = .ok (.lload 6, 2) := by decide +kernel
theorem dX11_next_106 : decode cX11_next 106 = .ok (.lreturn, 1) := by decide +kernel
theorem dX11_next_107 : decode cX11_next 107 = .ok (.aload_n 0, 1) := by decide +kernel
theorem dX11_next_108 : decode cX11_next 108 = .ok (.getfield 55, 3) := by decide +kernel
theorem dX11_next_111 : decode cX11_next 111 = .ok (.getfield 219, 3) := by decide +kernel
theorem dX11_next_114 : decode cX11_next 114 = .ok (.i2l, 1) := by decide +kernel
theorem dX11_next_115 : decode cX11_next 115 = .ok (.lreturn, 1) := by decide +kernel
theorem dX11_next_116 : decode cX11_next 116 = .ok (.aload_n 0, 1) := by decide +kernel
theorem dX11_next_117 : decode cX11_next 117 = .ok (.getfield 55, 3) := by decide +kernel
theorem dX11_next_120 : decode cX11_next 120 = .ok (.getfield 222, 3) := by decide +kernel
theorem dX11_next_123 : decode cX11_next 123 = .ok (.i2l, 1) := by decide +kernel
theorem dX11_next_124 : decode cX11_next 124 = .ok (.lreturn, 1) := by decide +kernel
theorem dX11_edge_0 : decode cX11_edge 0 = .ok (.aload_n 0, 1) := by decide +kernel
theorem dX11_edge_1 : decode cX11_edge 1 = .ok (.getfield 10, 3) := by decide +kernel
theorem dX11_edge_4 : decode cX11_edge 4 = .ok (.iload_n 1, 1) := by decide +kernel
theorem dX11_edge_5 : decode cX11_edge 5 = .ok (.invokevirtual 104, 3) := by decide +kernel
theorem dX11_edge_8 : decode cX11_edge 8 = .ok (.ifCond .eq 11, 3) := by decide +kernel
theorem dX11_edge_11 : decode cX11_edge 11 = .ok (.iload_n 2, 1) := by decide +kernel
theorem dX11_edge_12 : decode cX11_edge 12 = .ok (.iconst 3, 1) := by decide +kernel
theorem dX11_edge_13 : decode cX11_edge 13 = .ok (.invokestatic 108, 3) := by decide +kernel
theorem dX11_edge_16 : decode cX11_edge 16 = .ok (.ifCond .ne 5, 3) := by decide +kernel
theorem dX11_edge_19 : decode cX11_edge 19 = .ok (.iconst (-1), 1) := by decide +kernel
theorem dX11_edge_20 : decode cX11_edge 20 = .ok (.ireturn, 1) := by decide +kernel
theorem dX11_edge_21 : decode cX11_edge 21 = .ok (.aload_n 0, 1) := by decide +kernel
theorem dX11_edge_22 : decode cX11_edge 22 = .ok (.getfield 55, 3) := by decide +kernel
theorem dX11_edge_25 : decode cX11_edge 25 = .ok (.aload_n 0, 1) := by decide +kernel
theorem dX11_edge_26 : decode cX11_edge 26 = .ok (.getfield 10, 3) := by decide +kernel
theorem dX11_edge_29 : decode cX11_edge 29 = .ok (.iload_n 2, 1) := by decide +kernel
theorem dX11_edge_30 : decode cX11_edge 30 = .ok (.invokevirtual 207, 3) := by decide +kernel
theorem dX11_edge_33 : decode cX11_edge 33 = .ok (.aload_n 0, 1) := by decide +kernel
theorem dX11_edge_34 : decode cX11_edge 34 = .ok (.getfield 55, 3) := by decide +kernel
theorem dX11_edge_37 : decode cX11_edge 37 = .ok (.iconst 0, 1) := by decide +kernel
theorem dX11_edge_38 : decode cX11_edge 38 = .ok (.aload_n 0, 1) := by decide +kernel
theorem dX11_edge_39 : decode cX11_edge 39 = .ok (.getfield 10, 3) := by decide +kernel
theorem dX11_edge_42 : decode cX11_edge 42 = .ok (.getfield 194, 3) := by decide +kernel
theorem dX11_edge_45 : decode cX11_edge 45 = .ok (.aload_n 0, 1) := by decide +kernel
theorem dX11_edge_46 : decode cX11_edge 46 = .ok (.getfield 10, 3) := by decide +kernel
theorem dX11_edge_49 : decode cX11_edge 49 = .ok (.invokevirtual 211, 3) := by decide +kernel
theorem dX11_edge_52 : decode cX11_edge 52 = .ok (.invokevirtual 215, 3) := by decide +kernel
theorem dX11_edge_55 : decode cX11_edge 55 = .ok (.lconst 0, 1) := by decide +kernel
theorem dX11_edge_56 : decode cX11_edge 56 = .ok (.lcmp, 1) := by decide +kernel
theorem dX11_edge_57 : decode cX11_edge 57 = .ok (.ifCond .lt 14, 3) := by decide +kernel
theorem dX11_edge_60 : decode cX11_edge 60 = .ok (.aload_n 0, 1) := by decide +kernel
theorem dX11_edge_61 : decode cX11_edge 61 = .ok (.getfield 55, 3) := by decide +kernel
theorem dX11_edge_64 : decode cX11_edge 64 = .ok (.getfield 219, 3) := by decide +kernel
theorem dX11_edge_67 : decode cX11_edge 67 = .ok (.iconst (-1), 1) := by decide +kernel
theorem dX11_edge_68 : decode cX11_edge 68 = .ok (.if_icmp .ne 6, 3) := by decide +kernel
theorem dX11_edge_71 : decode cX11_edge 71 = .ok (.bipush (-2), 2) := by decide +kernel
theorem dX11_edge_73 : decode cX11_edge 73 = .ok (.ireturn, 1) := by decide +kernel
theorem dX11_edge_74 : decode cX11_edge 74 = .ok (.iload_n 2, 1) := by decide +kernel
theorem dX11_edge_75 : decode cX11_edge 75 = .ok (.iconst 2, 1) := by decide +kernel
theorem dX11_edge_76 : decode cX11_edge 76 = .ok (.if_icmp .lt 15, 3) := by decide +kernel
theorem dX11_edge_79 : decode cX11_edge 79 = .ok (.aload_n 0, 1) := by decide +kernel
theorem dX11_edge_80 : decode cX11_edge 80 = .ok (.getfield 10, 3) := by decide +kernel
theorem dX11_edge_83 : decode cX11_edge 83 = .ok (.getfield 136, 3) := by decide +kernel
theorem dX11_edge_86 : decode cX11_edge 86 = .ok (.iload_n 1, 1) := by decide +kernel
theorem dX11_edge_87 : decode cX11_edge 87 = .ok (.iaload, 1) := by decide +kernel
theorem dX11_edge_88 : decode cX11_edge 88 = .ok (.ifCond .ne 6, 3) := by decide +kernel
theorem dX11_edge_91 : decode cX11_edge 91 = .ok (.bipush 100, 2) := by decide +kernel
theorem dX11_edge_93 : decode cX11_edge 93 = .ok (.ireturn, 1) := by decide +kernel
theorem dX11_edge_94 : decode cX11_edge 94 = .ok (.aload_n 0, 1) := by decide +kernel
theorem dX11_edge_95 : decode cX11_edge 95 = .ok (.getfield 55, 3) := by decide +kernel
theorem dX11_edge_98 : decode cX11_edge 98 = .ok (.iload_n 1, 1) := by decide +kernel
theorem dX11_edge_99 : decode cX11_edge 99 = .ok (.aload_n 0, 1) := by decide +kernel
theorem dX11_edge_100 : decode cX11_edge 100 = .ok (.getfield 10, 3) := by decide +kernel
theorem dX11_edge_103 : decode cX11_edge 103 = .ok (.invokevirtual 211, 3) := by decide +kernel
theorem dX11_edge_106 : decode cX11_edge 106 = .ok (.invokevirtual 225, 3) := by decide +kernel
theorem dX11_edge_109 : decode cX11_edge 109 = .ok (.ireturn, 1) := by decide +kernel
theorem dX11_weak_0 : decode cX11_weak 0 = .ok (.iload_n 1, 1) := by decide +kernel
theorem dX11_weak_1 : decode cX11_weak 1 = .ok (.iconst 1, 1) := by decide +kernel
theorem dX11_weak_2 : decode cX11_weak 2 = .ok (.if_icmp .lt 16, 3) := by decide +kernel
theorem dX11_weak_5 : decode cX11_weak 5 = .ok (.iload_n 1, 1) := by decide +kernel
theorem dX11_weak_6 : decode cX11_weak 6 = .ok (.iconst 4, 1) := by decide +kernel
theorem dX11_weak_7 : decode cX11_weak 7 = .ok (.if_icmp .gt 11, 3) := by decide +kernel
theorem dX11_weak_10 : decode cX11_weak 10 = .ok (.iload_n 2, 1) := by decide +kernel
theorem dX11_weak_11 : decode cX11_weak 11 = .ok (.iconst 3, 1) := by decide +kernel
theorem dX11_weak_12 : decode cX11_weak 12 = .ok (.invokestatic 108, 3) := by decide +kernel
theorem dX11_weak_15 : decode cX11_weak 15 = .ok (.ifCond .ne 5, 3) := by decide +kernel
theorem dX11_weak_18 : decode cX11_weak 18 = .ok (.iconst (-1), 1) := by decide +kernel
theorem dX11_weak_19 : decode cX11_weak 19 = .ok (.ireturn, 1) := by decide +kernel
theorem dX11_weak_20 : decode cX11_weak 20 = .ok (.aload_n 0, 1) := by decide +kernel
theorem dX11_weak_21 : decode cX11_weak 21 = .ok (.getfield 62, 3) := by decide +kernel
theorem dX11_weak_24 : decode cX11_weak 24 = .ok (.aload_n 0, 1) := by decide +kernel
theorem dX11_weak_25 : decode cX11_weak 25 = .ok (.getfield 10, 3) := by decide +kernel
theorem dX11_weak_28 : decode cX11_weak 28 = .ok (.iload_n 1, 1) := by decide +kernel
theorem dX11_weak_29 : decode cX11_weak 29 = .ok (.iload_n 2, 1) := by decide +kernel
theorem dX11_weak_30 : decode cX11_weak 30 = .ok (.invokevirtual 228, 3) := by decide +kernel
theorem dX11_weak_33 : decode cX11_weak 33 = .ok (.ireturn, 1) := by decide +kernel
theorem dX11_rounds_0 : decode cX11_rounds 0 = .ok (.iload_n 1, 1) := by decide +kernel
theorem dX11_rounds_1 : decode cX11_rounds 1 = .ok (.iconst 1, 1) := by decide +kernel
theorem dX11_rounds_2 : decode cX11_rounds 2 = .ok (.if_icmp .lt 19, 3) := by decide +kernel
theorem dX11_rounds_5 : decode cX11_rounds 5 = .ok (.iload_n 1, 1) := by decide +kernel
theorem dX11_rounds_6 : decode cX11_rounds 6 = .ok (.bipush 9, 2) := by decide +kernel
theorem dX11_rounds_8 : decode cX11_rounds 8 = .ok (.if_icmp .gt 13, 3) := by decide +kernel
theorem dX11_rounds_11 : decode cX11_rounds 11 = .ok (.iload_n 2, 1) := by decide +kernel
theorem dX11_rounds_12 : decode cX11_rounds 12 = .ok (.iconst 1, 1) := by decide +kernel
theorem dX11_rounds_13 : decode cX11_rounds 13 = .ok (.if_icmp .lt 8, 3) := by decide +kernel
theorem dX11_rounds_16 : decode cX11_rounds 16 = .ok (.iload_n 2, 1) := by decide +kernel
theorem dX11_rounds_17 : decode cX11_rounds 17 = .ok (.iconst 4, 1) := by decide +kernel
theorem dX11_rounds_18 : decode cX11_rounds 18 = .ok (.if_icmp .le 5, 3) := by decide +kernel
theorem dX11_rounds_21 : decode cX11_rounds 21 = .ok (.iconst (-1), 1) := by decide +kernel
theorem dX11_rounds_22 : decode cX11_rounds 22 = .ok (.ireturn, 1) := by decide +kernel
theorem dX11_rounds_23 : decode cX11_rounds 23 = .ok (.aload_n 0, 1) := by decide +kernel
theorem dX11_rounds_24 : decode cX11_rounds 24 = .ok (.getfield 66, 3) := by decide +kernel
theorem dX11_rounds_27 : decode cX11_rounds 27 = .ok (.iconst 1, 1) := by decide +kernel
theorem dX11_rounds_28 : decode cX11_rounds 28 = .ok (.invokestatic 232, 3) := by decide +kernel
theorem dX11_rounds_31 : decode cX11_rounds 31 = .ok (.iconst 0, 1) := by decide +kernel
theorem dX11_rounds_32 : decode cX11_rounds 32 = .ok (.istore_n 3, 1) := by decide +kernel
theorem dX11_rounds_33 : decode cX11_rounds 33 = .ok (.iload_n 3, 1) := by decide +kernel
theorem dX11_rounds_34 : decode cX11_rounds 34 = .ok (.aload_n 0, 1) := by decide +kernel
theorem dX11_rounds_35 : decode cX11_rounds 35 = .ok (.getfield 10, 3) := by decide +kernel
theorem dX11_rounds_38 : decode cX11_rounds 38 = .ok (.getfield 194, 3) := by decide +kernel
theorem dX11_rounds_41 : decode cX11_rounds 41 = .ok (.if_icmp .ge 31, 3) := by decide +kernel
theorem dX11_rounds_44 : decode cX11_rounds 44 = .ok (.aload_n 0, 1) := by decide +kernel
theorem dX11_rounds_45 : decode cX11_rounds 45 = .ok (.getfield 66, 3) := by decide +kernel
theorem dX11_rounds_48 : decode cX11_rounds 48 = .ok (.iload_n 1, 1) := by decide +kernel
theorem dX11_rounds_49 : decode cX11_rounds 49 = .ok (.iaload, 1) := by decide +kernel
theorem dX11_rounds_50 : decode cX11_rounds 50 = .ok (.aload_n 0, 1) := by decide +kernel
theorem dX11_rounds_51 : decode cX11_rounds 51 = .ok (.getfield 10, 3) := by decide +kernel
theorem dX11_rounds_54 : decode cX11_rounds 54 = .ok (.getfield 194, 3) := by decide +kernel
theorem dX11_rounds_57 : decode cX11_rounds 57 = .ok (.if_icmp .gt 15, 3) := by decide +kernel
theorem dX11_rounds_60 : decode cX11_rounds 60 = .ok (.aload_n 0, 1) := by decide +kernel
theorem dX11_rounds_61 : decode cX11_rounds 61 = .ok (.iload_n 1, 1) := by decide +kernel
theorem dX11_rounds_62 : decode cX11_rounds 62 = .ok (.iload_n 2, 1) := by decide +kernel
theorem dX11_rounds_63 : decode cX11_rounds 63 = .ok (.invokevirtual 238, 3) := by decide +kernel
theorem dX11_rounds_66 : decode cX11_rounds 66 = .ok (.iinc 3 1, 3) := by decide +kernel
theorem dX11_rounds_69 : decode cX11_rounds 69 = .ok (.goto (-36), 3) := by decide +kernel
theorem dX11_rounds_72 : decode cX11_rounds 72 = .ok (.iload_n 3, 1) := by decide +kernel
theorem dX11_rounds_73 : decode cX11_rounds 73 = .ok (.ireturn, 1) := by decide +kernel
theorem dX11_lies_0 : decode cX11_lies 0 = .ok (.iload_n 1, 1) := by decide +kernel
theorem dX11_lies_1 : decode cX11_lies 1 = .ok (.iconst 1, 1) := by decide +kernel
theorem dX11_lies_2 : decode cX11_lies 2 = .ok (.if_icmp .lt 17, 3) := by decide +kernel
theorem dX11_lies_5 : decode cX11_lies 5 = .ok (.iload_n 1, 1) := by decide +kernel
theorem dX11_lies_6 : decode cX11_lies 6 = .ok (.bipush 7, 2) := by decide +kernel
theorem dX11_lies_8 : decode cX11_lies 8 = .ok (.if_icmp .gt 11, 3) := by decide +kernel
theorem dX11_lies_11 : decode cX11_lies 11 = .ok (.iload_n 2, 1) := by decide +kernel
theorem dX11_lies_12 : decode cX11_lies 12 = .ok (.iconst 2, 1) := by decide +kernel
theorem dX11_lies_13 : decode cX11_lies 13 = .ok (.invokestatic 108, 3) := by decide +kernel
theorem dX11_lies_16 : decode cX11_lies 16 = .ok (.ifCond .ne 5, 3) := by decide +kernel
theorem dX11_lies_19 : decode cX11_lies 19 = .ok (.iconst (-1), 1) := by decide +kernel
theorem dX11_lies_20 : decode cX11_lies 20 = .ok (.ireturn, 1) := by decide +kernel
theorem dX11_lies_21 : decode cX11_lies 21 = .ok (.aload_n 0, 1) := by decide +kernel
theorem dX11_lies_22 : decode cX11_lies 22 = .ok (.getfield 72, 3) := by decide +kernel
theorem dX11_lies_25 : decode cX11_lies 25 = .ok (.iload_n 1, 1) := by decide +kernel
theorem dX11_lies_26 : decode cX11_lies 26 = .ok (.iload_n 2, 1) := by decide +kernel
theorem dX11_lies_27 : decode cX11_lies 27 = .ok (.invokevirtual 241, 3) := by decide +kernel
theorem dX11_lies_30 : decode cX11_lies 30 = .ok (.ireturn, 1) := by decide +kernel
theorem dX11_note_0 : decode cX11_note 0 = .ok (.iload_n 1, 1) := by decide +kernel
theorem dX11_note_1 : decode cX11_note 1 = .ok (.iconst 5, 1) := by decide +kernel
theorem dX11_note_2 : decode cX11_note 2 = .ok (.invokestatic 108, 3) := by decide +kernel
theorem dX11_note_5 : decode cX11_note 5 = .ok (.ifCond .eq 25, 3) := by decide +kernel
theorem dX11_note_8 : decode cX11_note 8 = .ok (.aload_n 0, 1) := by decide +kernel
theorem dX11_note_9 : decode cX11_note 9 = .ok (.getfield 10, 3) := by decide +kernel
theorem dX11_note_12 : decode cX11_note 12 = .ok (.iload_n 2, 1) := by decide +kernel
theorem dX11_note_13 : decode cX11_note 13 = .ok (.invokevirtual 104, 3) := by decide +kernel
theorem dX11_note_16 : decode cX11_note 16 = .ok (.ifCond .eq 14, 3) := by decide +kernel
theorem dX11_note_19 : decode cX11_note 19 = .ok (.aload_n 0, 1) := by decide +kernel
theorem dX11_note_20 : decode cX11_note 20 = .ok (.getfield 10, 3) := by decide +kernel
theorem dX11_note_23 : decode cX11_note 23 = .ok (.iload_n 3, 1) := by decide +kernel
theorem dX11_note_24 : decode cX11_note 24 = .ok (.invokevirtual 243, 3) := by decide +kernel
theorem dX11_note_27 : decode cX11_note 27 = .ok (.ifCond .ne 5, 3) := by decide +kernel
theorem dX11_note_30 : decode cX11_note 30 = .ok (.iconst (-1), 1) := by decide +kernel
theorem dX11_note_31 : decode cX11_note 31 = .ok (.ireturn, 1) := by decide +kernel
theorem dX11_note_32 : decode cX11_note 32 = .ok (.aload_n 0, 1) := by decide +kernel
theorem dX11_note_33 : decode cX11_note 33 = .ok (.getfield 79, 3) := by decide +kernel
theorem dX11_note_36 : decode cX11_note 36 = .ok (.iload_n 1, 1) := by decide +kernel
theorem dX11_note_37 : decode cX11_note 37 = .ok (.iload_n 2, 1) := by decide +kernel
theorem dX11_note_38 : decode cX11_note 38 = .ok (.iload_n 3, 1) := by decide +kernel
theorem dX11_note_39 : decode cX11_note 39 = .ok (.iload 4, 2) := by decide +kernel
theorem dX11_note_41 : decode cX11_note 41 = .ok (.invokevirtual 246, 3) := by decide +kernel
theorem dX11_note_44 : decode cX11_note 44 = .ok (.ireturn, 1) := by decide +kernel
theorem dX11_strike_0 : decode cX11_strike 0 = .ok (.aload_n 0, 1) := by decide +kernel
theorem dX11_strike_1 : decode cX11_strike 1 = .ok (.getfield 79, 3) := by decide +kernel
theorem dX11_strike_4 : decode cX11_strike 4 = .ok (.iload_n 1, 1) := by decide +kernel
theorem dX11_strike_5 : decode cX11_strike 5 = .ok (.invokevirtual 250, 3) := by decide +kernel
theorem dX11_strike_8 : decode cX11_strike 8 = .ok (.ireturn, 1) := by decide +kernel
theorem dX11_fitting_0 : decode cX11_fitting 0 = .ok (.iconst 0, 1) := by decide +kernel
theorem dX11_fitting_1 : decode cX11_fitting 1 = .ok (.istore_n 2, 1) := by decide +kernel
theorem dX11_fitting_2 : decode cX11_fitting 2 = .ok (.iconst 0, 1) := by decide +kernel
theorem dX11_fitting_3 : decode cX11_fitting 3 = .ok (.istore_n 3, 1) := by decide +kernel
theorem dX11_fitting_4 : decode cX11_fitting 4 = .ok (.iload_n 3, 1) := by decide +kernel
theorem dX11_fitting_5 : decode cX11_fitting 5 = .ok (.aload_n 0, 1) := by decide +kernel
theorem dX11_fitting_6 : decode cX11_fitting 6 = .ok (.getfield 10, 3) := by decide +kernel
theorem dX11_fitting_9 : decode cX11_fitting 9 = .ok (.getfield 194, 3) := by decide +kernel
theorem dX11_fitting_12 : decode cX11_fitting 12 = .ok (.if_icmp .gt 34, 3) := by decide +kernel
theorem dX11_fitting_15 : decode cX11_fitting 15 = .ok (.aload_n 0, 1) := by decide +kernel
theorem dX11_fitting_16 : decode cX11_fitting 16 = .ok (.getfield 79, 3) := by decide +kernel
theorem dX11_fitting_19 : decode cX11_fitting 19 = .ok (.aload_n 0, 1) := by decide +kernel
theorem dX11_fitting_20 : decode cX11_fitting 20 = .ok (.getfield 10, 3) := by decide +kernel
theorem dX11_fitting_23 : decode cX11_fitting 23 = .ok (.iload_n 3, 1) := by decide +kernel
theorem dX11_fitting_24 : decode cX11_fitting 24 = .ok (.invokevirtual 254, 3) := by decide +kernel
theorem dX11_fitting_27 : decode cX11_fitting 27 = .ok (.ifCond .ne 13, 3) := by decide +kernel
theorem dX11_fitting_30 : decode cX11_fitting 30 = .ok (.iload_n 2, 1) := by decide +kernel
theorem dX11_fitting_31 : decode cX11_fitting 31 = .ok (.iload_n 1, 1) := by decide +kernel
theorem dX11_fitting_32 : decode cX11_fitting 32 = .ok (.if_icmp .ne 5, 3) := by decide +kernel
theorem dX11_fitting_35 : decode cX11_fitting 35 = .ok (.iload_n 3, 1) := by decide +kernel
theorem dX11_fitting_36 : decode cX11_fitting 36 = .ok (.ireturn, 1) := by decide +kernel
theorem dX11_fitting_37 : decode cX11_fitting 37 = .ok (.iinc 2 1, 3) := by decide +kernel
theorem dX11_fitting_40 : decode cX11_fitting 40 = .ok (.iinc 3 1, 3) := by decide +kernel
theorem dX11_fitting_43 : decode cX11_fitting 43 = .ok (.goto (-39), 3) := by decide +kernel
theorem dX11_fitting_46 : decode cX11_fitting 46 = .ok (.iload_n 1, 1) := by decide +kernel
theorem dX11_fitting_47 : decode cX11_fitting 47 = .ok (.iconst (-1), 1) := by decide +kernel
theorem dX11_fitting_48 : decode cX11_fitting 48 = .ok (.if_icmp .ne 7, 3) := by decide +kernel
theorem dX11_fitting_51 : decode cX11_fitting 51 = .ok (.iload_n 2, 1) := by decide +kernel
theorem dX11_fitting_52 : decode cX11_fitting 52 = .ok (.goto 4, 3) := by decide +kernel
theorem dX11_fitting_55 : decode cX11_fitting 55 = .ok (.iconst (-1), 1) := by decide +kernel
theorem dX11_fitting_56 : decode cX11_fitting 56 = .ok (.ireturn, 1) := by decide +kernel
theorem dX11_doubt_0 : decode cX11_doubt 0 = .ok (.aload_n 0, 1) := by decide +kernel
theorem dX11_doubt_1 : decode cX11_doubt 1 = .ok (.getfield 10, 3) := by decide +kernel
theorem dX11_doubt_4 : decode cX11_doubt 4 = .ok (.iload_n 1, 1) := by decide +kernel
theorem dX11_doubt_5 : decode cX11_doubt 5 = .ok (.invokevirtual 120, 3) := by decide +kernel
theorem dX11_doubt_8 : decode cX11_doubt 8 = .ok (.ifCond .eq 18, 3) := by decide +kernel
theorem dX11_doubt_11 : decode cX11_doubt 11 = .ok (.aload_n 0, 1) := by decide +kernel
theorem dX11_doubt_12 : decode cX11_doubt 12 = .ok (.getfield 79, 3) := by decide +kernel
theorem dX11_doubt_15 : decode cX11_doubt 15 = .ok (.aload_n 0, 1) := by decide +kernel
theorem dX11_doubt_16 : decode cX11_doubt 16 = .ok (.getfield 10, 3) := by decide +kernel
theorem dX11_doubt_19 : decode cX11_doubt 19 = .ok (.iload_n 1, 1) := by decide +kernel
theorem dX11_doubt_20 : decode cX11_doubt 20 = .ok (.invokevirtual 254, 3) := by decide +kernel
theorem dX11_doubt_23 : decode cX11_doubt 23 = .ok (.goto 4, 3) := by decide +kernel
theorem dX11_doubt_26 : decode cX11_doubt 26 = .ok (.iconst (-1), 1) := by decide +kernel
theorem dX11_doubt_27 : decode cX11_doubt 27 = .ok (.ireturn, 1) := by decide +kernel
theorem dX11_least_0 : decode cX11_least 0 = .ok (.iload_n 1, 1) := by decide +kernel
theorem dX11_least_1 : decode cX11_least 1 = .ok (.iconst 1, 1) := by decide +kernel
theorem dX11_least_2 : decode cX11_least 2 = .ok (.invokestatic 108, 3) := by decide +kernel
theorem dX11_least_5 : decode cX11_least 5 = .ok (.ifCond .ne 5, 3) := by decide +kernel
theorem dX11_least_8 : decode cX11_least 8 = .ok (.iconst (-1), 1) := by decide +kernel
theorem dX11_least_9 : decode cX11_least 9 = .ok (.ireturn, 1) := by decide +kernel
theorem dX11_least_10 : decode cX11_least 10 = .ok (.aload_n 0, 1) := by decide +kernel
theorem dX11_least_11 : decode cX11_least 11 = .ok (.getfield 79, 3) := by decide +kernel
theorem dX11_least_14 : decode cX11_least 14 = .ok (.aload_n 0, 1) := by decide +kernel
theorem dX11_least_15 : decode cX11_least 15 = .ok (.getfield 10, 3) := by decide +kernel
theorem dX11_least_18 : decode cX11_least 18 = .ok (.invokevirtual 258, 3) := by decide +kernel
theorem dX11_least_21 : decode cX11_least 21 = .ok (.istore_n 2, 1) := by decide +kernel
theorem dX11_least_22 : decode cX11_least 22 = .ok (.iload_n 1, 1) := by decide +kernel
theorem dX11_least_23 : decode cX11_least 23 = .ok (.ifCond .ne 18, 3) := by decide +kernel
theorem dX11_least_26 : decode cX11_least 26 = .ok (.aload_n 0, 1) := by decide +kernel
theorem dX11_least_27 : decode cX11_least 27 = .ok (.getfield 79, 3) := by decide +kernel
theorem dX11_least_30 : decode cX11_least 30 = .ok (.aload_n 0, 1) := by decide +kernel
theorem dX11_least_31 : decode cX11_least 31 = .ok (.getfield 10, 3) := by decide +kernel
theorem dX11_least_34 : decode cX11_least 34 = .ok (.iload_n 2, 1) := by decide +kernel
theorem dX11_least_35 : decode cX11_least 35 = .ok (.invokevirtual 254, 3) := by decide +kernel
theorem dX11_least_38 : decode cX11_least 38 = .ok (.goto 4, 3) := by decide +kernel
theorem dX11_least_41 : decode cX11_least 41 = .ok (.iload_n 2, 1) := by decide +kernel
theorem dX11_least_42 : decode cX11_least 42 = .ok (.ireturn, 1) := by decide +kernel
theorem dX11_doubted_0 : decode cX11_doubted 0 = .ok (.iload_n 1, 1) := by decide +kernel
theorem dX11_doubted_1 : decode cX11_doubted 1 = .ok (.iconst 5, 1) := by decide +kernel
theorem dX11_doubted_2 : decode cX11_doubted 2 = .ok (.invokestatic 108, 3) := by decide +kernel
theorem dX11_doubted_5 : decode cX11_doubted 5 = .ok (.ifCond .ne 5, 3) := by decide +kernel
theorem dX11_doubted_8 : decode cX11_doubted 8 = .ok (.iconst (-1), 1) := by decide +kernel
theorem dX11_doubted_9 : decode cX11_doubted 9 = .ok (.ireturn, 1) := by decide +kernel
theorem dX11_doubted_10 : decode cX11_doubted 10 = .ok (.aload_n 0, 1) := by decide +kernel
theorem dX11_doubted_11 : decode cX11_doubted 11 = .ok (.getfield 79, 3) := by decide +kernel
theorem dX11_doubted_14 : decode cX11_doubted 14 = .ok (.iload_n 1, 1) := by decide +kernel
theorem dX11_doubted_15 : decode cX11_doubted 15 = .ok (.aload_n 0, 1) := by decide +kernel
theorem dX11_doubted_16 : decode cX11_doubted 16 = .ok (.getfield 10, 3) := by decide +kernel
theorem dX11_doubted_19 : decode cX11_doubted 19 = .ok (.aload_n 0, 1) := by decide +kernel
theorem dX11_doubted_20 : decode cX11_doubted 20 = .ok (.getfield 79, 3) := by decide +kernel
theorem dX11_doubted_23 : decode cX11_doubted 23 = .ok (.aload_n 0, 1) := by decide +kernel
theorem dX11_doubted_24 : decode cX11_doubted 24 = .ok (.getfield 10, 3) := by decide +kernel
theorem dX11_doubted_27 : decode cX11_doubted 27 = .ok (.invokevirtual 258, 3) := by decide +kernel
theorem dX11_doubted_30 : decode cX11_doubted 30 = .ok (.invokevirtual 262, 3) := by decide +kernel
theorem dX11_doubted_33 : decode cX11_doubted 33 = .ok (.ireturn, 1) := by decide +kernel
theorem dX11_parts_0 : decode cX11_parts 0 = .ok (.aload_n 0, 1) := by decide +kernel
theorem dX11_parts_1 : decode cX11_parts 1 = .ok (.getfield 10, 3) := by decide +kernel
theorem dX11_parts_4 : decode cX11_parts 4 = .ok (.iload_n 1, 1) := by decide +kernel
theorem dX11_parts_5 : decode cX11_parts 5 = .ok (.invokevirtual 104, 3) := by decide +kernel
theorem dX11_parts_8 : decode cX11_parts 8 = .ok (.ifCond .eq 18, 3) := by decide +kernel
theorem dX11_parts_11 : decode cX11_parts 11 = .ok (.aload_n 0, 1) := by decide +kernel
theorem dX11_parts_12 : decode cX11_parts 12 = .ok (.getfield 79, 3) := by decide +kernel
theorem dX11_parts_15 : decode cX11_parts 15 = .ok (.aload_n 0, 1) := by decide +kernel
theorem dX11_parts_16 : decode cX11_parts 16 = .ok (.getfield 10, 3) := by decide +kernel
theorem dX11_parts_19 : decode cX11_parts 19 = .ok (.iload_n 1, 1) := by decide +kernel
theorem dX11_parts_20 : decode cX11_parts 20 = .ok (.invokevirtual 266, 3) := by decide +kernel
theorem dX11_parts_23 : decode cX11_parts 23 = .ok (.goto 4, 3) := by decide +kernel
theorem dX11_parts_26 : decode cX11_parts 26 = .ok (.iconst (-1), 1) := by decide +kernel
theorem dX11_parts_27 : decode cX11_parts 27 = .ok (.ireturn, 1) := by decide +kernel
theorem dX11_begin_0 : decode cX11_begin 0 = .ok (.aload_n 0, 1) := by decide +kernel
theorem dX11_begin_1 : decode cX11_begin 1 = .ok (.getfield 10, 3) := by decide +kernel
theorem dX11_begin_4 : decode cX11_begin 4 = .ok (.invokevirtual 269, 3) := by decide +kernel
theorem dX11_begin_7 : decode cX11_begin 7 = .ok (.istore_n 2, 1) := by decide +kernel
theorem dX11_begin_8 : decode cX11_begin 8 = .ok (.iload_n 1, 1) := by decide +kernel
theorem dX11_begin_9 : decode cX11_begin 9 = .ok (.ifCond .lt 7, 3) := by decide +kernel
theorem dX11_begin_12 : decode cX11_begin 12 = .ok (.iload_n 2, 1) := by decide +kernel
theorem dX11_begin_13 : decode cX11_begin 13 = .ok (.ifCond .gt 5, 3) := by decide +kernel
theorem dX11_begin_16 : decode cX11_begin 16 = .ok (.iconst 0, 1) := by decide +kernel
theorem dX11_begin_17 : decode cX11_begin 17 = .ok (.ireturn, 1) := by decide +kernel
theorem dX11_begin_18 : decode cX11_begin 18 = .ok (.iload_n 1, 1) := by decide +kernel
theorem dX11_begin_19 : decode cX11_begin 19 = .ok (.i2l, 1) := by decide +kernel
theorem dX11_begin_20 : decode cX11_begin 20 = .ok (.ldc2_w 272, 3) := by decide +kernel
theorem dX11_begin_23 : decode cX11_begin 23 = .ok (.lmul, 1) := by decide +kernel
theorem dX11_begin_24 : decode cX11_begin 24 = .ok (.ldc2_w 274, 3) := by decide +kernel
theorem dX11_begin_27 : decode cX11_begin 27 = .ok (.ladd, 1) := by decide +kernel
theorem dX11_begin_28 : decode cX11_begin 28 = .ok (.ldc2_w 276, 3) := by decide +kernel
theorem dX11_begin_31 : decode cX11_begin 31 = .ok (.land, 1) := by decide +kernel
theorem dX11_begin_32 : decode cX11_begin 32 = .ok (.lstore_n 3, 1) := by decide +kernel
theorem dX11_begin_33 : decode cX11_begin 33 = .ok (.aload_n 0, 1) := by decide +kernel
theorem dX11_begin_34 : decode cX11_begin 34 = .ok (.getfield 88, 3) := by decide +kernel
theorem dX11_begin_37 : decode cX11_begin 37 = .ok (.aload_n 0, 1) := by decide +kernel
theorem dX11_begin_38 : decode cX11_begin 38 = .ok (.getfield 10, 3) := by decide +kernel
theorem dX11_begin_41 : decode cX11_begin 41 = .ok (.aload_n 0, 1) := by decide +kernel
theorem dX11_begin_42 : decode cX11_begin 42 = .ok (.getfield 10, 3) := by decide +kernel
theorem dX11_begin_45 : decode cX11_begin 45 = .ok (.lload_n 3, 1) := by decide +kernel
theorem dX11_begin_46 : decode cX11_begin 46 = .ok (.ldc2_w 278, 3) := by decide +kernel
theorem dX11_begin_49 : decode cX11_begin 49 = .ok (.ldiv, 1) := by decide +kernel
theorem dX11_begin_50 : decode cX11_begin 50 = .ok (.iload_n 2, 1) := by decide +kernel
theorem dX11_begin_51 : decode cX11_begin 51 = .ok (.i2l, 1) := by decide +kernel
theorem dX11_begin_52 : decode cX11_begin 52 = .ok (.lrem, 1) := by decide +kernel
theorem dX11_begin_53 : decode cX11_begin 53 = .ok (.l2i, 1) := by decide +kernel
theorem dX11_begin_54 : decode cX11_begin 54 = .ok (.invokevirtual 280, 3) := by decide +kernel
theorem dX11_begin_57 : decode cX11_begin 57 = .ok (.invokevirtual 283, 3) := by decide +kernel
theorem dX11_begin_60 : decode cX11_begin 60 = .ok (.aload_n 0, 1) := by decide +kernel
theorem dX11_begin_61 : decode cX11_begin 61 = .ok (.iconst 1, 1) := by decide +kernel
theorem dX11_begin_62 : decode cX11_begin 62 = .ok (.putfield 92, 3) := by decide +kernel
theorem dX11_begin_65 : decode cX11_begin 65 = .ok (.iconst 1, 1) := by decide +kernel
theorem dX11_begin_66 : decode cX11_begin 66 = .ok (.ireturn, 1) := by decide +kernel
theorem dX11_drop_0 : decode cX11_drop 0 = .ok (.aload_n 0, 1) := by decide +kernel
theorem dX11_drop_1 : decode cX11_drop 1 = .ok (.getfield 92, 3) := by decide +kernel
theorem dX11_drop_4 : decode cX11_drop 4 = .ok (.ifCond .eq 19, 3) := by decide +kernel
theorem dX11_drop_7 : decode cX11_drop 7 = .ok (.aload_n 0, 1) := by decide +kernel
theorem dX11_drop_8 : decode cX11_drop 8 = .ok (.getfield 88, 3) := by decide +kernel
theorem dX11_drop_11 : decode cX11_drop 11 = .ok (.aload_n 0, 1) := by decide +kernel
theorem dX11_drop_12 : decode cX11_drop 12 = .ok (.getfield 10, 3) := by decide +kernel
theorem dX11_drop_15 : decode cX11_drop 15 = .ok (.iload_n 1, 1) := by decide +kernel
theorem dX11_drop_16 : decode cX11_drop 16 = .ok (.iload_n 2, 1) := by decide +kernel
theorem dX11_drop_17 : decode cX11_drop 17 = .ok (.invokevirtual 286, 3) := by decide +kernel
theorem dX11_drop_20 : decode cX11_drop 20 = .ok (.ifCond .ne 5, 3) := by decide +kernel
theorem dX11_drop_23 : decode cX11_drop 23 = .ok (.iconst (-1), 1) := by decide +kernel
theorem dX11_drop_24 : decode cX11_drop 24 = .ok (.ireturn, 1) := by decide +kernel
theorem dX11_drop_25 : decode cX11_drop 25 = .ok (.aload_n 0, 1) := by decide +kernel
theorem dX11_drop_26 : decode cX11_drop 26 = .ok (.getfield 88, 3) := by decide +kernel
theorem dX11_drop_29 : decode cX11_drop 29 = .ok (.aload_n 0, 1) := by decide +kernel
theorem dX11_drop_30 : decode cX11_drop 30 = .ok (.getfield 10, 3) := by decide +kernel
theorem dX11_drop_33 : decode cX11_drop 33 = .ok (.iload_n 1, 1) := by decide +kernel
theorem dX11_drop_34 : decode cX11_drop 34 = .ok (.iload_n 2, 1) := by decide +kernel
theorem dX11_drop_35 : decode cX11_drop 35 = .ok (.invokevirtual 290, 3) := by decide +kernel
theorem dX11_drop_38 : decode cX11_drop 38 = .ok (.ifCond .eq 7, 3) := by decide +kernel
theorem dX11_drop_41 : decode cX11_drop 41 = .ok (.iconst 2, 1) := by decide +kernel
theorem dX11_drop_42 : decode cX11_drop 42 = .ok (.goto 4, 3) := by decide +kernel
theorem dX11_drop_45 : decode cX11_drop 45 = .ok (.iconst 1, 1) := by decide +kernel
theorem dX11_drop_46 : decode cX11_drop 46 = .ok (.ireturn, 1) := by decide +kernel
theorem dX11_back_0 : decode cX11_back 0 = .ok (.aload_n 0, 1) := by decide +kernel
theorem dX11_back_1 : decode cX11_back 1 = .ok (.getfield 92, 3) := by decide +kernel
theorem dX11_back_4 : decode cX11_back 4 = .ok (.ifCond .eq 13, 3) := by decide +kernel
theorem dX11_back_7 : decode cX11_back 7 = .ok (.aload_n 0, 1) := by decide +kernel
theorem dX11_back_8 : decode cX11_back 8 = .ok (.getfield 88, 3) := by decide +kernel
theorem dX11_back_11 : decode cX11_back 11 = .ok (.getfield 177, 3) := by decide +kernel
theorem dX11_back_14 : decode cX11_back 14 = .ok (.ifCond .ne 5, 3) := by decide +kernel
theorem dX11_back_17 : decode cX11_back 17 = .ok (.iconst (-1), 1) := by decide +kernel
theorem dX11_back_18 : decode cX11_back 18 = .ok (.ireturn, 1) := by decide +kernel
theorem dX11_back_19 : decode cX11_back 19 = .ok (.aload_n 0, 1) := by decide +kernel
theorem dX11_back_20 : decode cX11_back 20 = .ok (.getfield 88, 3) := by decide +kernel
theorem dX11_back_23 : decode cX11_back 23 = .ok (.invokevirtual 293, 3) := by decide +kernel
theorem dX11_back_26 : decode cX11_back 26 = .ok (.aload_n 0, 1) := by decide +kernel
theorem dX11_back_27 : decode cX11_back 27 = .ok (.getfield 88, 3) := by decide +kernel
theorem dX11_back_30 : decode cX11_back 30 = .ok (.getfield 177, 3) := by decide +kernel
theorem dX11_back_33 : decode cX11_back 33 = .ok (.ireturn, 1) := by decide +kernel
theorem dX11_now_0 : decode cX11_now 0 = .ok (.aload_n 0, 1) := by decide +kernel
theorem dX11_now_1 : decode cX11_now 1 = .ok (.getfield 92, 3) := by decide +kernel
theorem dX11_now_4 : decode cX11_now 4 = .ok (.ifCond .ne 5, 3) := by decide +kernel
theorem dX11_now_7 : decode cX11_now 7 = .ok (.iconst (-1), 1) := by decide +kernel
theorem dX11_now_8 : decode cX11_now 8 = .ok (.ireturn, 1) := by decide +kernel
theorem dX11_now_9 : decode cX11_now 9 = .ok (.iload_n 1, 1) := by decide +kernel
theorem dX11_now_10 : decode cX11_now 10 = .ok (.tableswitch 86 0 5 #[38, 46, 54, 62, 70, 78], 38) := by decide +kernel
theorem dX11_now_48 : decode cX11_now 48 = .ok (.aload_n 0, 1) := by decide +kernel
theorem dX11_now_49 : decode cX11_now 49 = .ok (.getfield 88, 3) := by decide +kernel
theorem dX11_now_52 : decode cX11_now 52 = .ok (.getfield 296, 3) := by decide +kernel
theorem dX11_now_55 : decode cX11_now 55 = .ok (.ireturn, 1) := by decide +kernel
theorem dX11_now_56 : decode cX11_now 56 = .ok (.aload_n 0, 1) := by decide +kernel
theorem dX11_now_57 : decode cX11_now 57 = .ok (.getfield 88, 3) := by decide +kernel
theorem dX11_now_60 : decode cX11_now 60 = .ok (.getfield 299, 3) := by decide +kernel
theorem dX11_now_63 : decode cX11_now 63 = .ok (.ireturn, 1) := by decide +kernel
theorem dX11_now_64 : decode cX11_now 64 = .ok (.aload_n 0, 1) := by decide +kernel
theorem dX11_now_65 : decode cX11_now 65 = .ok (.getfield 88, 3) := by decide +kernel
theorem dX11_now_68 : decode cX11_now 68 = .ok (.getfield 177, 3) := by decide +kernel
theorem dX11_now_71 : decode cX11_now 71 = .ok (.ireturn, 1) := by decide +kernel
theorem dX11_now_72 : decode cX11_now 72 = .ok (.aload_n 0, 1) := by decide +kernel
theorem dX11_now_73 : decode cX11_now 73 = .ok (.getfield 88, 3) := by decide +kernel
theorem dX11_now_76 : decode cX11_now 76 = .ok (.invokevirtual 302, 3) := by decide +kernel
theorem dX11_now_79 : decode cX11_now 79 = .ok (.ireturn, 1) := by decide +kernel
theorem dX11_now_80 : decode cX11_now 80 = .ok (.aload_n 0, 1) := by decide +kernel
theorem dX11_now_81 : decode cX11_now 81 = .ok (.getfield 88, 3) := by decide +kernel
theorem dX11_now_84 : decode cX11_now 84 = .ok (.getfield 183, 3) := by decide +kernel
theorem dX11_now_87 : decode cX11_now 87 = .ok (.ireturn, 1) := by decide +kernel
theorem dX11_now_88 : decode cX11_now 88 = .ok (.aload_n 0, 1) := by decide +kernel
theorem dX11_now_89 : decode cX11_now 89 = .ok (.getfield 88, 3) := by decide +kernel
theorem dX11_now_92 : decode cX11_now 92 = .ok (.getfield 305, 3) := by decide +kernel
theorem dX11_now_95 : decode cX11_now 95 = .ok (.ireturn, 1) := by decide +kernel
theorem dX11_now_96 : decode cX11_now 96 = .ok (.iconst (-1), 1) := by decide +kernel
theorem dX11_now_97 : decode cX11_now 97 = .ok (.ireturn, 1) := by decide +kernel
theorem dX11_count_0 : decode cX11_count 0 = .ok (.iload_n 1, 1) := by decide +kernel
theorem dX11_count_1 : decode cX11_count 1 = .ok (.tableswitch 99 0 6 #[43, 51, 59, 67, 75, 83, 91], 43) := by decide +kernel
theorem dX11_count_44 : decode cX11_count 44 = .ok (.aload_n 0, 1) := by decide +kernel
theorem dX11_count_45 : decode cX11_count 45 = .ok (.getfield 10, 3) := by decide +kernel
theorem dX11_count_48 : decode cX11_count 48 = .ok (.getfield 194, 3) := by decide +kernel
theorem dX11_count_51 : decode cX11_count 51 = .ok (.ireturn, 1) := by decide +kernel
theorem dX11_count_52 : decode cX11_count 52 = .ok (.aload_n 0, 1) := by decide +kernel
theorem dX11_count_53 : decode cX11_count 53 = .ok (.getfield 34, 3) := by decide +kernel
theorem dX11_count_56 : decode cX11_count 56 = .ok (.getfield 157, 3) := by decide +kernel
theorem dX11_count_59 : decode cX11_count 59 = .ok (.ireturn, 1) := by decide +kernel
theorem dX11_count_60 : decode cX11_count 60 = .ok (.aload_n 0, 1) := by decide +kernel
theorem dX11_count_61 : decode cX11_count 61 = .ok (.getfield 34, 3) := by decide +kernel
theorem dX11_count_64 : decode cX11_count 64 = .ok (.getfield 308, 3) := by decide +kernel
theorem dX11_count_67 : decode cX11_count 67 = .ok (.ireturn, 1) := by decide +kernel
theorem dX11_count_68 : decode cX11_count 68 = .ok (.aload_n 0, 1) := by decide +kernel
theorem dX11_count_69 : decode cX11_count 69 = .ok (.getfield 79, 3) := by decide +kernel
theorem dX11_count_72 : decode cX11_count 72 = .ok (.getfield 311, 3) := by decide +kernel
theorem dX11_count_75 : decode cX11_count 75 = .ok (.ireturn, 1) := by decide +kernel
theorem dX11_count_76 : decode cX11_count 76 = .ok (.aload_n 0, 1) := by decide +kernel
theorem dX11_count_77 : decode cX11_count 77 = .ok (.getfield 10, 3) := by decide +kernel
theorem dX11_count_80 : decode cX11_count 80 = .ok (.getfield 314, 3) := by decide +kernel
theorem dX11_count_83 : decode cX11_count 83 = .ok (.ireturn, 1) := by decide +kernel
theorem dX11_count_84 : decode cX11_count 84 = .ok (.aload_n 0, 1) := by decide +kernel
theorem dX11_count_85 : decode cX11_count 85 = .ok (.getfield 10, 3) := by decide +kernel
theorem dX11_count_88 : decode cX11_count 88 = .ok (.getfield 317, 3) := by decide +kernel
theorem dX11_count_91 : decode cX11_count 91 = .ok (.ireturn, 1) := by decide +kernel
theorem dX11_count_92 : decode cX11_count 92 = .ok (.aload_n 0, 1) := by decide +kernel
theorem dX11_count_93 : decode cX11_count 93 = .ok (.getfield 10, 3) := by decide +kernel
theorem dX11_count_96 : decode cX11_count 96 = .ok (.invokevirtual 269, 3) := by decide +kernel
theorem dX11_count_99 : decode cX11_count 99 = .ok (.ireturn, 1) := by decide +kernel
theorem dX11_count_100 : decode cX11_count 100 = .ok (.iconst (-1), 1) := by decide +kernel
theorem dX11_count_101 : decode cX11_count 101 = .ok (.ireturn, 1) := by decide +kernel
theorem dX11_putBytes_0 : decode cX11_putBytes 0 = .ok (.bipush 24, 2) := by decide +kernel
theorem dX11_putBytes_2 : decode cX11_putBytes 2 = .ok (.istore_n 2, 1) := by decide +kernel
theorem dX11_putBytes_3 : decode cX11_putBytes 3 = .ok (.iload_n 2, 1) := by decide +kernel
theorem dX11_putBytes_4 : decode cX11_putBytes 4 = .ok (.ifCond .lt 45, 3) := by decide +kernel
theorem dX11_putBytes_7 : decode cX11_putBytes 7 = .ok (.aload_n 0, 1) := by decide +kernel
theorem dX11_putBytes_8 : decode cX11_putBytes 8 = .ok (.getfield 20, 3) := by decide +kernel
theorem dX11_putBytes_11 : decode cX11_putBytes 11 = .ok (.sipush 400, 3) := by decide +kernel
theorem dX11_putBytes_14 : decode cX11_putBytes 14 = .ok (.if_icmp .ge 29, 3) := by decide +kernel
theorem dX11_putBytes_17 : decode cX11_putBytes 17 = .ok (.aload_n 0, 1) := by decide +kernel
theorem dX11_putBytes_18 : decode cX11_putBytes 18 = .ok (.getfield 16, 3) := by decide +kernel
theorem dX11_putBytes_21 : decode cX11_putBytes 21 = .ok (.aload_n 0, 1) := by decide +kernel
theorem dX11_putBytes_22 : decode cX11_putBytes 22 = .ok (.getfield 20, 3) := by decide +kernel
theorem dX11_putBytes_25 : decode cX11_putBytes 25 = .ok (.iload_n 1, 1) := by decide +kernel
theorem dX11_putBytes_26 : decode cX11_putBytes 26 = .ok (.iload_n 2, 1) := by decide +kernel
theorem dX11_putBytes_27 : decode cX11_putBytes 27 = .ok (.iushr, 1) := by decide +kernel
theorem dX11_putBytes_28 : decode cX11_putBytes 28 = .ok (.sipush 255, 3) := by decide +kernel
theorem dX11_putBytes_31 : decode cX11_putBytes 31 = .ok (.iand, 1) := by decide +kernel
theorem dX11_putBytes_32 : decode cX11_putBytes 32 = .ok (.iastore, 1) := by decide +kernel
theorem dX11_putBytes_33 : decode cX11_putBytes 33 = .ok (.aload_n 0, 1) := by decide +kernel
theorem dX11_putBytes_34 : decode cX11_putBytes 34 = .ok (.dup, 1) := by decide +kernel
theorem dX11_putBytes_35 : decode cX11_putBytes 35 = .ok (.getfield 20, 3) := by decide +kernel
theorem dX11_putBytes_38 : decode cX11_putBytes 38 = .ok (.iconst 1, 1) := by decide +kernel
theorem dX11_putBytes_39 : decode cX11_putBytes 39 = .ok (.iadd, 1) := by decide +kernel
theorem dX11_putBytes_40 : decode cX11_putBytes 40 = .ok (.putfield 20, 3) := by decide +kernel
theorem dX11_putBytes_43 : decode cX11_putBytes 43 = .ok (.iinc 2 (-8), 3) := by decide +kernel
theorem dX11_putBytes_46 : decode cX11_putBytes 46 = .ok (.goto (-43), 3) := by decide +kernel
theorem dX11_putBytes_49 : decode cX11_putBytes 49 = .ok (.return_, 1) := by decide +kernel
theorem dX11_addRound_0 : decode cX11_addRound 0 = .ok (.iload_n 1, 1) := by decide +kernel
theorem dX11_addRound_1 : decode cX11_addRound 1 = .ok (.istore_n 3, 1) := by decide +kernel
theorem dX11_addRound_2 : decode cX11_addRound 2 = .ok (.iload_n 3, 1) := by decide +kernel
theorem dX11_addRound_3 : decode cX11_addRound 3 = .ok (.iconst 1, 1) := by decide +kernel
theorem dX11_addRound_4 : decode cX11_addRound 4 = .ok (.if_icmp .lt 65, 3) := by decide +kernel
theorem dX11_addRound_7 : decode cX11_addRound 7 = .ok (.iconst 0, 1) := by decide +kernel
theorem dX11_addRound_8 : decode cX11_addRound 8 = .ok (.istore 4, 2) := by decide +kernel
theorem dX11_addRound_10 : decode cX11_addRound 10 = .ok (.iconst 0, 1) := by decide +kernel
theorem dX11_addRound_11 : decode cX11_addRound 11 = .ok (.istore 5, 2) := by decide +kernel
theorem dX11_addRound_13 : decode cX11_addRound 13 = .ok (.iload 5, 2) := by decide +kernel
theorem dX11_addRound_15 : decode cX11_addRound 15 = .ok (.iload_n 2, 1) := by decide +kernel
theorem dX11_addRound_16 : decode cX11_addRound 16 = .ok (.iload_n 3, 1) := by decide +kernel
theorem dX11_addRound_17 : decode cX11_addRound 17 = .ok (.invokestatic 320, 3) := by decide +kernel
theorem dX11_addRound_20 : decode cX11_addRound 20 = .ok (.if_icmp .gt 23, 3) := by decide +kernel
theorem dX11_addRound_23 : decode cX11_addRound 23 = .ok (.iload 4, 2) := by decide +kernel
theorem dX11_addRound_25 : decode cX11_addRound 25 = .ok (.aload_n 0, 1) := by decide +kernel
theorem dX11_addRound_26 : decode cX11_addRound 26 = .ok (.getfield 66, 3) := by decide +kernel
theorem dX11_addRound_29 : decode cX11_addRound 29 = .ok (.iload_n 3, 1) := by decide +kernel
theorem dX11_addRound_30 : decode cX11_addRound 30 = .ok (.iload 5, 2) := by decide +kernel
theorem dX11_addRound_32 : decode cX11_addRound 32 = .ok (.isub, 1) := by decide +kernel
theorem dX11_addRound_33 : decode cX11_addRound 33 = .ok (.iaload, 1) := by decide +kernel
theorem dX11_addRound_34 : decode cX11_addRound 34 = .ok (.iadd, 1) := by decide +kernel
theorem dX11_addRound_35 : decode cX11_addRound 35 = .ok (.istore 4, 2) := by decide +kernel
theorem dX11_addRound_37 : decode cX11_addRound 37 = .ok (.iinc 5 1, 3) := by decide +kernel
theorem dX11_addRound_40 : decode cX11_addRound 40 = .ok (.goto (-27), 3) := by decide +kernel
theorem dX11_addRound_43 : decode cX11_addRound 43 = .ok (.aload_n 0, 1) := by decide +kernel
theorem dX11_addRound_44 : decode cX11_addRound 44 = .ok (.getfield 66, 3) := by decide +kernel
theorem dX11_addRound_47 : decode cX11_addRound 47 = .ok (.iload_n 3, 1) := by decide +kernel
theorem dX11_addRound_48 : decode cX11_addRound 48 = .ok (.iload 4, 2) := by decide +kernel
theorem dX11_addRound_50 : decode cX11_addRound 50 = .ok (.aload_n 0, 1) := by decide +kernel
theorem dX11_addRound_51 : decode cX11_addRound 51 = .ok (.getfield 10, 3) := by decide +kernel
theorem dX11_addRound_54 : decode cX11_addRound 54 = .ok (.getfield 194, 3) := by decide +kernel
theorem dX11_addRound_57 : decode cX11_addRound 57 = .ok (.iconst 1, 1) := by decide +kernel
theorem dX11_addRound_58 : decode cX11_addRound 58 = .ok (.iadd, 1) := by decide +kernel
theorem dX11_addRound_59 : decode cX11_addRound 59 = .ok (.invokestatic 320, 3) := by decide +kernel
theorem dX11_addRound_62 : decode cX11_addRound 62 = .ok (.iastore, 1) := by decide +kernel
theorem dX11_addRound_63 : decode cX11_addRound 63 = .ok (.iinc 3 (-1), 3) := by decide +kernel
theorem dX11_addRound_66 : decode cX11_addRound 66 = .ok (.goto (-64), 3) := by decide +kernel
theorem dX11_addRound_69 : decode cX11_addRound 69 = .ok (.return_, 1) := by decide +kernel
theorem dX11_isWithin_0 : decode cX11_isWithin 0 = .ok (.iload_n 0, 1) := by decide +kernel
theorem dX11_isWithin_1 : decode cX11_isWithin 1 = .ok (.ifCond .lt 12, 3) := by decide +kernel
theorem dX11_isWithin_4 : decode cX11_isWithin 4 = .ok (.iload_n 0, 1) := by decide +kernel
theorem dX11_isWithin_5 : decode cX11_isWithin 5 = .ok (.iload_n 1, 1) := by decide +kernel
theorem dX11_isWithin_6 : decode cX11_isWithin 6 = .ok (.if_icmp .gt 7, 3) := by decide +kernel
theorem dX11_isWithin_9 : decode cX11_isWithin 9 = .ok (.iconst 1, 1) := by decide +kernel
theorem dX11_isWithin_10 : decode cX11_isWithin 10 = .ok (.goto 4, 3) := by decide +kernel
theorem dX11_isWithin_13 : decode cX11_isWithin 13 = .ok (.iconst 0, 1) := by decide +kernel
theorem dX11_isWithin_14 : decode cX11_isWithin 14 = .ok (.ireturn, 1) := by decide +kernel
theorem dX11_unitOf_0 : decode cX11_unitOf 0 = .ok (.iload_n 0, 1) := by decide +kernel
theorem dX11_unitOf_1 : decode cX11_unitOf 1 = .ok (.ifCond .ne 7, 3) := by decide +kernel
theorem dX11_unitOf_4 : decode cX11_unitOf 4 = .ok (.iconst 1, 1) := by decide +kernel
theorem dX11_unitOf_5 : decode cX11_unitOf 5 = .ok (.goto 14, 3) := by decide +kernel
theorem dX11_unitOf_8 : decode cX11_unitOf 8 = .ok (.iload_n 0, 1) := by decide +kernel
theorem dX11_unitOf_9 : decode cX11_unitOf 9 = .ok (.iconst 1, 1) := by decide +kernel
theorem dX11_unitOf_10 : decode cX11_unitOf 10 = .ok (.if_icmp .ne 7, 3) := by decide +kernel
theorem dX11_unitOf_13 : decode cX11_unitOf 13 = .ok (.iconst 5, 1) := by decide +kernel
theorem dX11_unitOf_14 : decode cX11_unitOf 14 = .ok (.goto 5, 3) := by decide +kernel
theorem dX11_unitOf_17 : decode cX11_unitOf 17 = .ok (.bipush 25, 2) := by decide +kernel
theorem dX11_unitOf_19 : decode cX11_unitOf 19 = .ok (.ireturn, 1) := by decide +kernel
theorem dX11_spanAt_0 : decode cX11_spanAt 0 = .ok (.iload_n 1, 1) := by decide +kernel
theorem dX11_spanAt_1 : decode cX11_spanAt 1 = .ok (.iload_n 1, 1) := by decide +kernel
theorem dX11_spanAt_2 : decode cX11_spanAt 2 = .ok (.iconst 1, 1) := by decide +kernel
theorem dX11_spanAt_3 : decode cX11_spanAt 3 = .ok (.iadd, 1) := by decide +kernel
theorem dX11_spanAt_4 : decode cX11_spanAt 4 = .ok (.imul, 1) := by decide +kernel
theorem dX11_spanAt_5 : decode cX11_spanAt 5 = .ok (.iconst 2, 1) := by decide +kernel
theorem dX11_spanAt_6 : decode cX11_spanAt 6 = .ok (.idiv, 1) := by decide +kernel
theorem dX11_spanAt_7 : decode cX11_spanAt 7 = .ok (.iload_n 0, 1) := by decide +kernel
theorem dX11_spanAt_8 : decode cX11_spanAt 8 = .ok (.iadd, 1) := by decide +kernel
theorem dX11_spanAt_9 : decode cX11_spanAt 9 = .ok (.ireturn, 1) := by decide +kernel
theorem dJ6_bitCount_0f7a4_0 : decode cJ6_bitCount_0f7a4 0 = .ok (.iload_n 0, 1) := by decide +kernel
theorem dJ6_bitCount_0f7a4_1 : decode cJ6_bitCount_0f7a4 1 = .ok (.iload_n 0, 1) := by decide +kernel
theorem dJ6_bitCount_0f7a4_2 : decode cJ6_bitCount_0f7a4 2 = .ok (.iconst 1, 1) := by decide +kernel
theorem dJ6_bitCount_0f7a4_3 : decode cJ6_bitCount_0f7a4 3 = .ok (.iushr, 1) := by decide +kernel
theorem dJ6_bitCount_0f7a4_4 : decode cJ6_bitCount_0f7a4 4 = .ok (.ldc_w 265, 3) := by decide +kernel
theorem dJ6_bitCount_0f7a4_7 : decode cJ6_bitCount_0f7a4 7 = .ok (.iand, 1) := by decide +kernel
theorem dJ6_bitCount_0f7a4_8 : decode cJ6_bitCount_0f7a4 8 = .ok (.isub, 1) := by decide +kernel
theorem dJ6_bitCount_0f7a4_9 : decode cJ6_bitCount_0f7a4 9 = .ok (.istore_n 0, 1) := by decide +kernel
theorem dJ6_bitCount_0f7a4_10 : decode cJ6_bitCount_0f7a4 10 = .ok (.iload_n 0, 1) := by decide +kernel
theorem dJ6_bitCount_0f7a4_11 : decode cJ6_bitCount_0f7a4 11 = .ok (.ldc_w 266, 3) := by decide +kernel
theorem dJ6_bitCount_0f7a4_14 : decode cJ6_bitCount_0f7a4 14 = .ok (.iand, 1) := by decide +kernel
theorem dJ6_bitCount_0f7a4_15 : decode cJ6_bitCount_0f7a4 15 = .ok (.iload_n 0, 1) := by decide +kernel
theorem dJ6_bitCount_0f7a4_16 : decode cJ6_bitCount_0f7a4 16 = .ok (.iconst 2, 1) := by decide +kernel
theorem dJ6_bitCount_0f7a4_17 : decode cJ6_bitCount_0f7a4 17 = .ok (.iushr, 1) := by decide +kernel
theorem dJ6_bitCount_0f7a4_18 : decode cJ6_bitCount_0f7a4 18 = .ok (.ldc_w 266, 3) := by decide +kernel
theorem dJ6_bitCount_0f7a4_21 : decode cJ6_bitCount_0f7a4 21 = .ok (.iand, 1) := by decide +kernel
theorem dJ6_bitCount_0f7a4_22 : decode cJ6_bitCount_0f7a4 22 = .ok (.iadd, 1) := by decide +kernel
theorem dJ6_bitCount_0f7a4_23 : decode cJ6_bitCount_0f7a4 23 = .ok (.istore_n 0, 1) := by decide +kernel
theorem dJ6_bitCount_0f7a4_24 : decode cJ6_bitCount_0f7a4 24 = .ok (.iload_n 0, 1) := by decide +kernel
theorem dJ6_bitCount_0f7a4_25 : decode cJ6_bitCount_0f7a4 25 = .ok (.iload_n 0, 1) := by decide +kernel
theorem dJ6_bitCount_0f7a4_26 : decode cJ6_bitCount_0f7a4 26 = .ok (.iconst 4, 1) := by decide +kernel
theorem dJ6_bitCount_0f7a4_27 : decode cJ6_bitCount_0f7a4 27 = .ok (.iushr, 1) := by decide +kernel
theorem dJ6_bitCount_0f7a4_28 : decode cJ6_bitCount_0f7a4 28 = .ok (.iadd, 1) := by decide +kernel
theorem dJ6_bitCount_0f7a4_29 : decode cJ6_bitCount_0f7a4 29 = .ok (.ldc_w 267, 3) := by decide +kernel
theorem dJ6_bitCount_0f7a4_32 : decode cJ6_bitCount_0f7a4 32 = .ok (.iand, 1) := by decide +kernel
theorem dJ6_bitCount_0f7a4_33 : decode cJ6_bitCount_0f7a4 33 = .ok (.istore_n 0, 1) := by decide +kernel
theorem dJ6_bitCount_0f7a4_34 : decode cJ6_bitCount_0f7a4 34 = .ok (.iload_n 0, 1) := by decide +kernel
theorem dJ6_bitCount_0f7a4_35 : decode cJ6_bitCount_0f7a4 35 = .ok (.iload_n 0, 1) := by decide +kernel
theorem dJ6_bitCount_0f7a4_36 : decode cJ6_bitCount_0f7a4 36 = .ok (.bipush 8, 2) := by decide +kernel
theorem dJ6_bitCount_0f7a4_38 : decode cJ6_bitCount_0f7a4 38 = .ok (.iushr, 1) := by decide +kernel
theorem dJ6_bitCount_0f7a4_39 : decode cJ6_bitCount_0f7a4 39 = .ok (.iadd, 1) := by decide +kernel
theorem dJ6_bitCount_0f7a4_40 : decode cJ6_bitCount_0f7a4 40 = .ok (.istore_n 0, 1) := by decide +kernel
theorem dJ6_bitCount_0f7a4_41 : decode cJ6_bitCount_0f7a4 41 = .ok (.iload_n 0, 1) := by decide +kernel
theorem dJ6_bitCount_0f7a4_42 : decode cJ6_bitCount_0f7a4 42 = .ok (.iload_n 0, 1) := by decide +kernel
theorem dJ6_bitCount_0f7a4_43 : decode cJ6_bitCount_0f7a4 43 = .ok (.bipush 16, 2) := by decide +kernel
theorem dJ6_bitCount_0f7a4_45 : decode cJ6_bitCount_0f7a4 45 = .ok (.iushr, 1) := by decide +kernel
theorem dJ6_bitCount_0f7a4_46 : decode cJ6_bitCount_0f7a4 46 = .ok (.iadd, 1) := by decide +kernel
theorem dJ6_bitCount_0f7a4_47 : decode cJ6_bitCount_0f7a4 47 = .ok (.istore_n 0, 1) := by decide +kernel
theorem dJ6_bitCount_0f7a4_48 : decode cJ6_bitCount_0f7a4 48 = .ok (.iload_n 0, 1) := by decide +kernel
theorem dJ6_bitCount_0f7a4_49 : decode cJ6_bitCount_0f7a4 49 = .ok (.bipush 63, 2) := by decide +kernel
theorem dJ6_bitCount_0f7a4_51 : decode cJ6_bitCount_0f7a4 51 = .ok (.iand, 1) := by decide +kernel
theorem dJ6_bitCount_0f7a4_52 : decode cJ6_bitCount_0f7a4 52 = .ok (.ireturn, 1) := by decide +kernel
theorem dJ9_abs_0f7a4_0 : decode cJ9_abs_0f7a4 0 = .ok (.iload_n 0, 1) := by decide +kernel
theorem dJ9_abs_0f7a4_1 : decode cJ9_abs_0f7a4 1 = .ok (.ifCond .ge 8, 3) := by decide +kernel
theorem dJ9_abs_0f7a4_4 : decode cJ9_abs_0f7a4 4 = .ok (.iload_n 0, 1) := by decide +kernel
theorem dJ9_abs_0f7a4_5 : decode cJ9_abs_0f7a4 5 = .ok (.ineg, 1) := by decide +kernel
theorem dJ9_abs_0f7a4_6 : decode cJ9_abs_0f7a4 6 = .ok (.goto 4, 3) := by decide +kernel
theorem dJ9_abs_0f7a4_9 : decode cJ9_abs_0f7a4 9 = .ok (.iload_n 0, 1) := by decide +kernel
theorem dJ9_abs_0f7a4_10 : decode cJ9_abs_0f7a4 10 = .ok (.ireturn, 1) := by decide +kernel
theorem dJ9_abs_067f4_0 : decode cJ9_abs_067f4 0 = .ok (.lload_n 0, 1) := by decide +kernel
theorem dJ9_abs_067f4_1 : decode cJ9_abs_067f4 1 = .ok (.lconst 0, 1) := by decide +kernel
theorem dJ9_abs_067f4_2 : decode cJ9_abs_067f4 2 = .ok (.lcmp, 1) := by decide +kernel
theorem dJ9_abs_067f4_3 : decode cJ9_abs_067f4 3 = .ok (.ifCond .ge 8, 3) := by decide +kernel
theorem dJ9_abs_067f4_6 : decode cJ9_abs_067f4 6 = .ok (.lload_n 0, 1) := by decide +kernel
theorem dJ9_abs_067f4_7 : decode cJ9_abs_067f4 7 = .ok (.lneg, 1) := by decide +kernel
theorem dJ9_abs_067f4_8 : decode cJ9_abs_067f4 8 = .ok (.goto 4, 3) := by decide +kernel
theorem dJ9_abs_067f4_11 : decode cJ9_abs_067f4 11 = .ok (.lload_n 0, 1) := by decide +kernel
theorem dJ9_abs_067f4_12 : decode cJ9_abs_067f4 12 = .ok (.lreturn, 1) := by decide +kernel
theorem dJ9_max_7cf53_0 : decode cJ9_max_7cf53 0 = .ok (.iload_n 0, 1) := by decide +kernel
theorem dJ9_max_7cf53_1 : decode cJ9_max_7cf53 1 = .ok (.iload_n 1, 1) := by decide +kernel
theorem dJ9_max_7cf53_2 : decode cJ9_max_7cf53 2 = .ok (.if_icmp .lt 7, 3) := by decide +kernel
theorem dJ9_max_7cf53_5 : decode cJ9_max_7cf53 5 = .ok (.iload_n 0, 1) := by decide +kernel
theorem dJ9_max_7cf53_6 : decode cJ9_max_7cf53 6 = .ok (.goto 4, 3) := by decide +kernel
theorem dJ9_max_7cf53_9 : decode cJ9_max_7cf53 9 = .ok (.iload_n 1, 1) := by decide +kernel
theorem dJ9_max_7cf53_10 : decode cJ9_max_7cf53 10 = .ok (.ireturn, 1) := by decide +kernel
theorem dJ9_max_f86c9_0 : decode cJ9_max_f86c9 0 = .ok (.lload_n 0, 1) := by decide +kernel
theorem dJ9_max_f86c9_1 : decode cJ9_max_f86c9 1 = .ok (.lload_n 2, 1) := by decide +kernel
theorem dJ9_max_f86c9_2 : decode cJ9_max_f86c9 2 = .ok (.lcmp, 1) := by decide +kernel
theorem dJ9_max_f86c9_3 : decode cJ9_max_f86c9 3 = .ok (.ifCond .lt 7, 3) := by decide +kernel
theorem dJ9_max_f86c9_6 : decode cJ9_max_f86c9 6 = .ok (.lload_n 0, 1) := by decide +kernel
theorem dJ9_max_f86c9_7 : decode cJ9_max_f86c9 7 = .ok (.goto 4, 3) := by decide +kernel
theorem dJ9_max_f86c9_10 : decode cJ9_max_f86c9 10 = .ok (.lload_n 2, 1) := by decide +kernel
theorem dJ9_max_f86c9_11 : decode cJ9_max_f86c9 11 = .ok (.lreturn, 1) := by decide +kernel
theorem dJ9_min_7cf53_0 : decode cJ9_min_7cf53 0 = .ok (.iload_n 0, 1) := by decide +kernel
theorem dJ9_min_7cf53_1 : decode cJ9_min_7cf53 1 = .ok (.iload_n 1, 1) := by decide +kernel
theorem dJ9_min_7cf53_2 : decode cJ9_min_7cf53 2 = .ok (.if_icmp .gt 7, 3) := by decide +kernel
theorem dJ9_min_7cf53_5 : decode cJ9_min_7cf53 5 = .ok (.iload_n 0, 1) := by decide +kernel
theorem dJ9_min_7cf53_6 : decode cJ9_min_7cf53 6 = .ok (.goto 4, 3) := by decide +kernel
theorem dJ9_min_7cf53_9 : decode cJ9_min_7cf53 9 = .ok (.iload_n 1, 1) := by decide +kernel
theorem dJ9_min_7cf53_10 : decode cJ9_min_7cf53 10 = .ok (.ireturn, 1) := by decide +kernel
theorem dJ0_length_8abf5_0 : decode cJ0_length_8abf5 0 = .ok (.aload_n 0, 1) := by decide +kernel
theorem dJ0_length_8abf5_1 : decode cJ0_length_8abf5 1 = .ok (.getfield 9, 3) := by decide +kernel
theorem dJ0_length_8abf5_4 : decode cJ0_length_8abf5 4 = .ok (.arraylength, 1) := by decide +kernel
theorem dJ0_length_8abf5_5 : decode cJ0_length_8abf5 5 = .ok (.aload_n 0, 1) := by decide +kernel
theorem dJ0_length_8abf5_6 : decode cJ0_length_8abf5 6 = .ok (.invokevirtual 335, 3) := by decide +kernel
theorem dJ0_length_8abf5_9 : decode cJ0_length_8abf5 9 = .ok (.ishr, 1) := by decide +kernel
theorem dJ0_length_8abf5_10 : decode cJ0_length_8abf5 10 = .ok (.ireturn, 1) := by decide +kernel
theorem dJ0_charAt_5068e_0 : decode cJ0_charAt_5068e 0 = .ok (.aload_n 0, 1) := by decide +kernel
theorem dJ0_charAt_5068e_1 : decode cJ0_charAt_5068e 1 = .ok (.invokevirtual 492, 3) := by decide +kernel
theorem dJ0_charAt_5068e_4 : decode cJ0_charAt_5068e 4 = .ok (.ifCond .eq 12, 3) := by decide +kernel
theorem dJ0_charAt_5068e_7 : decode cJ0_charAt_5068e 7 = .ok (.aload_n 0, 1) := by decide +kernel
theorem dJ0_charAt_5068e_8 : decode cJ0_charAt_5068e 8 = .ok (.getfield 9, 3) := by decide +kernel
theorem dJ0_charAt_5068e_11 : decode cJ0_charAt_5068e 11 = .ok (.iload_n 1, 1) := by decide +kernel
theorem dJ0_charAt_5068e_12 : decode cJ0_charAt_5068e 12 = .ok (.invokestatic 495, 3) := by decide +kernel
theorem dJ0_charAt_5068e_15 : decode cJ0_charAt_5068e 15 = .ok (.ireturn, 1) := by decide +kernel
theorem dJ0_charAt_5068e_16 : decode cJ0_charAt_5068e 16 = .ok (.aload_n 0, 1) := by decide +kernel
theorem dJ0_charAt_5068e_17 : decode cJ0_charAt_5068e 17 = .ok (.getfield 9, 3) := by decide +kernel
theorem dJ0_charAt_5068e_20 : decode cJ0_charAt_5068e 20 = .ok (.iload_n 1, 1) := by decide +kernel
theorem dJ0_charAt_5068e_21 : decode cJ0_charAt_5068e 21 = .ok (.invokestatic 498, 3) := by decide +kernel
theorem dJ0_charAt_5068e_24 : decode cJ0_charAt_5068e 24 = .ok (.ireturn, 1) := by decide +kernel
theorem dJ0_coder_7d493_0 : decode cJ0_coder_7d493 0 = .ok (.getstatic 38, 3) := by decide +kernel
theorem dJ0_coder_7d493_3 : decode cJ0_coder_7d493 3 = .ok (.ifCond .eq 10, 3) := by decide +kernel
theorem dJ0_coder_7d493_6 : decode cJ0_coder_7d493 6 = .ok (.aload_n 0, 1) := by decide +kernel
theorem dJ0_coder_7d493_7 : decode cJ0_coder_7d493 7 = .ok (.getfield 15, 3) := by decide +kernel
theorem dJ0_coder_7d493_10 : decode cJ0_coder_7d493 10 = .ok (.goto 4, 3) := by decide +kernel
theorem dJ0_coder_7d493_13 : decode cJ0_coder_7d493 13 = .ok (.iconst 1, 1) := by decide +kernel
theorem dJ0_coder_7d493_14 : decode cJ0_coder_7d493 14 = .ok (.ireturn, 1) := by decide +kernel
theorem dJ0_isLatin1_aae02_0 : decode cJ0_isLatin1_aae02 0 = .ok (.getstatic 38, 3) := by decide +kernel
theorem dJ0_isLatin1_aae02_3 : decode cJ0_isLatin1_aae02 3 = .ok (.ifCond .eq 14, 3) := by decide +kernel
theorem dJ0_isLatin1_aae02_6 : decode cJ0_isLatin1_aae02 6 = .ok (.aload_n 0, 1) := by decide +kernel
theorem dJ0_isLatin1_aae02_7 : decode cJ0_isLatin1_aae02 7 = .ok (.getfield 15, 3) := by decide +kernel
theorem dJ0_isLatin1_aae02_10 : decode cJ0_isLatin1_aae02 10 = .ok (.ifCond .ne 7, 3) := by decide +kernel
theorem dJ0_isLatin1_aae02_13 : decode cJ0_isLatin1_aae02 13 = .ok (.iconst 1, 1) := by decide +kernel
theorem dJ0_isLatin1_aae02_14 : decode cJ0_isLatin1_aae02 14 = .ok (.goto 4, 3) := by decide +kernel
theorem dJ0_isLatin1_aae02_17 : decode cJ0_isLatin1_aae02 17 = .ok (.iconst 0, 1) := by decide +kernel
theorem dJ0_isLatin1_aae02_18 : decode cJ0_isLatin1_aae02 18 = .ok (.ireturn, 1) := by decide +kernel
theorem dJ0_checkIndex_df160_0 : decode cJ0_checkIndex_df160 0 = .ok (.iload_n 0, 1) := by decide +kernel
theorem dJ0_checkIndex_df160_1 : decode cJ0_checkIndex_df160 1 = .ok (.iload_n 1, 1) := by decide +kernel
theorem dJ0_checkIndex_df160_2 : decode cJ0_checkIndex_df160 2 = .ok (.getstatic 1053, 3) := by decide +kernel
theorem dJ0_checkIndex_df160_5 : decode cJ0_checkIndex_df160 5 = .ok (.invokestatic 1059, 3) := by decide +kernel
theorem dJ0_checkIndex_df160_8 : decode cJ0_checkIndex_df160 8 = .ok (.pop, 1) := by decide +kernel
theorem dJ0_checkIndex_df160_9 : decode cJ0_checkIndex_df160 9 = .ok (.return_, 1) := by decide +kernel
theorem dJ1_charAt_3b067_0 : decode cJ1_charAt_3b067 0 = .ok (.iload_n 1, 1) := by decide +kernel
theorem dJ1_charAt_3b067_1 : decode cJ1_charAt_3b067 1 = .ok (.aload_n 0, 1) := by decide +kernel
theorem dJ1_charAt_3b067_2 : decode cJ1_charAt_3b067 2 = .ok (.arraylength, 1) := by decide +kernel
theorem dJ1_charAt_3b067_3 : decode cJ1_charAt_3b067 3 = .ok (.invokestatic 9, 3) := by decide +kernel
theorem dJ1_charAt_3b067_6 : decode cJ1_charAt_3b067 6 = .ok (.aload_n 0, 1) := by decide +kernel
theorem dJ1_charAt_3b067_7 : decode cJ1_charAt_3b067 7 = .ok (.iload_n 1, 1) := by decide +kernel
theorem dJ1_charAt_3b067_8 : decode cJ1_charAt_3b067 8 = .ok (.baload, 1) := by decide +kernel
theorem dJ1_charAt_3b067_9 : decode cJ1_charAt_3b067 9 = .ok (.sipush 255, 3) := by decide +kernel
theorem dJ1_charAt_3b067_12 : decode cJ1_charAt_3b067 12 = .ok (.iand, 1) := by decide +kernel
theorem dJ1_charAt_3b067_13 : decode cJ1_charAt_3b067 13 = .ok (.i2c, 1) := by decide +kernel
theorem dJ1_charAt_3b067_14 : decode cJ1_charAt_3b067 14 = .ok (.ireturn, 1) := by decide +kernel
theorem dJ2_getChar_3b067_0 : decode cJ2_getChar_3b067 0 = .ok (.getstatic 44, 3) := by decide +kernel
theorem dJ2_getChar_3b067_3 : decode cJ2_getChar_3b067 3 = .ok (.ifCond .ne 25, 3) := by decide +kernel
theorem dJ2_getChar_3b067_6 : decode cJ2_getChar_3b067 6 = .ok (.iload_n 1, 1) := by decide +kernel
theorem dJ2_getChar_3b067_7 : decode cJ2_getChar_3b067 7 = .ok (.ifCond .lt 11, 3) := by decide +kernel
theorem dJ2_getChar_3b067_10 : decode cJ2_getChar_3b067 10 = .ok (.iload_n 1, 1) := by decide +kernel
theorem dJ2_getChar_3b067_11 : decode cJ2_getChar_3b067 11 = .ok (.aload_n 0, 1) := by decide +kernel
theorem dJ2_getChar_3b067_12 : decode cJ2_getChar_3b067 12 = .ok (.invokestatic 48, 3) := by decide +kernel
theorem dJ2_getChar_3b067_15 : decode cJ2_getChar_3b067 15 = .ok (.if_icmp .lt 13, 3) := by decide +kernel
theorem dJ2_getChar_3b067_18 : decode cJ2_getChar_3b067 18 = .ok (.new 52, 3) := by decide +kernel
theorem dJ2_getChar_3b067_21 : decode cJ2_getChar_3b067 21 = .ok (.dup, 1) := by decide +kernel
theorem dJ2_getChar_3b067_22 : decode cJ2_getChar_3b067 22 = .ok (.ldc 54, 2) := by decide +kernel
theorem dJ2_getChar_3b067_24 : decode cJ2_getChar_3b067 24 = .ok (.invokespecial 56, 3) := by decide +kernel
theorem dJ2_getChar_3b067_27 : decode cJ2_getChar_3b067 27 = .ok (.athrow, 1) := by decide +kernel
theorem dJ2_getChar_3b067_28 : decode cJ2_getChar_3b067 28 = .ok (.iload_n 1, 1) := by decide +kernel
theorem dJ2_getChar_3b067_29 : decode cJ2_getChar_3b067 29 = .ok (.iconst 1, 1) := by decide +kernel
theorem dJ2_getChar_3b067_30 : decode cJ2_getChar_3b067 30 = .ok (.ishl, 1) := by decide +kernel
theorem dJ2_getChar_3b067_31 : decode cJ2_getChar_3b067 31 = .ok (.istore_n 1, 1) := by decide +kernel
theorem dJ2_getChar_3b067_32 : decode cJ2_getChar_3b067 32 = .ok (.aload_n 0, 1) := by decide +kernel
theorem dJ2_getChar_3b067_33 : decode cJ2_getChar_3b067 33 = .ok (.iload_n 1, 1) := by decide +kernel
theorem dJ2_getChar_3b067_34 : decode cJ2_getChar_3b067 34 = .ok (.iinc 1 1, 3) := by decide +kernel
theorem dJ2_getChar_3b067_37 : decode cJ2_getChar_3b067 37 = .ok (.baload, 1) := by decide +kernel
theorem dJ2_getChar_3b067_38 : decode cJ2_getChar_3b067 38 = .ok (.sipush 255, 3) := by decide +kernel
theorem dJ2_getChar_3b067_41 : decode cJ2_getChar_3b067 41 = .ok (.iand, 1) := by decide +kernel
theorem dJ2_getChar_3b067_42 : decode cJ2_getChar_3b067 42 = .ok (.getstatic 59, 3) := by decide +kernel
theorem dJ2_getChar_3b067_45 : decode cJ2_getChar_3b067 45 = .ok (.ishl, 1) := by decide +kernel
theorem dJ2_getChar_3b067_46 : decode cJ2_getChar_3b067 46 = .ok (.aload_n 0, 1) := by decide +kernel
theorem dJ2_getChar_3b067_47 : decode cJ2_getChar_3b067 47 = .ok (.iload_n 1, 1) := by decide +kernel
theorem dJ2_getChar_3b067_48 : decode cJ2_getChar_3b067 48 = .ok (.baload, 1) := by decide +kernel
theorem dJ2_getChar_3b067_49 : decode cJ2_getChar_3b067 49 = .ok (.sipush 255, 3) := by decide +kernel
theorem dJ2_getChar_3b067_52 : decode cJ2_getChar_3b067 52 = .ok (.iand, 1) := by decide +kernel
theorem dJ2_getChar_3b067_53 : decode cJ2_getChar_3b067 53 = .ok (.getstatic 63, 3) := by decide +kernel
theorem dJ2_getChar_3b067_56 : decode cJ2_getChar_3b067 56 = .ok (.ishl, 1) := by decide +kernel
theorem dJ2_getChar_3b067_57 : decode cJ2_getChar_3b067 57 = .ok (.ior, 1) := by decide +kernel
theorem dJ2_getChar_3b067_58 : decode cJ2_getChar_3b067 58 = .ok (.i2c, 1) := by decide +kernel
theorem dJ2_getChar_3b067_59 : decode cJ2_getChar_3b067 59 = .ok (.ireturn, 1) := by decide +kernel
theorem dJ2_length_9d52b_0 : decode cJ2_length_9d52b 0 = .ok (.aload_n 0, 1) := by decide +kernel
theorem dJ2_length_9d52b_1 : decode cJ2_length_9d52b 1 = .ok (.arraylength, 1) := by decide +kernel
theorem dJ2_length_9d52b_2 : decode cJ2_length_9d52b 2 = .ok (.iconst 1, 1) := by decide +kernel
theorem dJ2_length_9d52b_3 : decode cJ2_length_9d52b 3 = .ok (.ishr, 1) := by decide +kernel
theorem dJ2_length_9d52b_4 : decode cJ2_length_9d52b 4 = .ok (.ireturn, 1) := by decide +kernel
theorem dJ2_charAt_3b067_0 : decode cJ2_charAt_3b067 0 = .ok (.iload_n 1, 1) := by decide +kernel
theorem dJ2_charAt_3b067_1 : decode cJ2_charAt_3b067 1 = .ok (.aload_n 0, 1) := by decide +kernel
theorem dJ2_charAt_3b067_2 : decode cJ2_charAt_3b067 2 = .ok (.invokestatic 67, 3) := by decide +kernel
theorem dJ2_charAt_3b067_5 : decode cJ2_charAt_3b067 5 = .ok (.aload_n 0, 1) := by decide +kernel
theorem dJ2_charAt_3b067_6 : decode cJ2_charAt_3b067 6 = .ok (.iload_n 1, 1) := by decide +kernel
theorem dJ2_charAt_3b067_7 : decode cJ2_charAt_3b067 7 = .ok (.invokestatic 71, 3) := by decide +kernel
theorem dJ2_charAt_3b067_10 : decode cJ2_charAt_3b067 10 = .ok (.ireturn, 1) := by decide +kernel
theorem dJ2_checkIndex_2214a_0 : decode cJ2_checkIndex_2214a 0 = .ok (.iload_n 0, 1) := by decide +kernel
theorem dJ2_checkIndex_2214a_1 : decode cJ2_checkIndex_2214a 1 = .ok (.aload_n 1, 1) := by decide +kernel
theorem dJ2_checkIndex_2214a_2 : decode cJ2_checkIndex_2214a 2 = .ok (.invokestatic 48, 3) := by decide +kernel
theorem dJ2_checkIndex_2214a_5 : decode cJ2_checkIndex_2214a 5 = .ok (.invokestatic 414, 3) := by decide +kernel
theorem dJ2_checkIndex_2214a_8 : decode cJ2_checkIndex_2214a 8 = .ok (.return_, 1) := by decide +kernel
theorem dJ7_fill_53178_0 : decode cJ7_fill_53178 0 = .ok (.iconst 0, 1) := by decide +kernel
theorem dJ7_fill_53178_1 : decode cJ7_fill_53178 1 = .ok (.istore_n 2, 1) := by decide +kernel
theorem dJ7_fill_53178_2 : decode cJ7_fill_53178 2 = .ok (.aload_n 0, 1) := by decide +kernel
theorem dJ7_fill_53178_3 : decode cJ7_fill_53178 3 = .ok (.arraylength, 1) := by decide +kernel
theorem dJ7_fill_53178_4 : decode cJ7_fill_53178 4 = .ok (.istore_n 3, 1) := by decide +kernel
theorem dJ7_fill_53178_5 : decode cJ7_fill_53178 5 = .ok (.iload_n 2, 1) := by decide +kernel
theorem dJ7_fill_53178_6 : decode cJ7_fill_53178 6 = .ok (.iload_n 3, 1) := by decide +kernel
theorem dJ7_fill_53178_7 : decode cJ7_fill_53178 7 = .ok (.if_icmp .ge 13, 3) := by decide +kernel
theorem dJ7_fill_53178_10 : decode cJ7_fill_53178 10 = .ok (.aload_n 0, 1) := by decide +kernel
theorem dJ7_fill_53178_11 : decode cJ7_fill_53178 11 = .ok (.iload_n 2, 1) := by decide +kernel
theorem dJ7_fill_53178_12 : decode cJ7_fill_53178 12 = .ok (.iload_n 1, 1) := by decide +kernel
theorem dJ7_fill_53178_13 : decode cJ7_fill_53178 13 = .ok (.iastore, 1) := by decide +kernel
theorem dJ7_fill_53178_14 : decode cJ7_fill_53178 14 = .ok (.iinc 2 1, 3) := by decide +kernel
theorem dJ7_fill_53178_17 : decode cJ7_fill_53178 17 = .ok (.goto (-12), 3) := by decide +kernel
theorem dJ7_fill_53178_20 : decode cJ7_fill_53178 20 = .ok (.return_, 1) := by decide +kernel
theorem dJ7_copyOf_9075b_0 : decode cJ7_copyOf_9075b 0 = .ok (.iload_n 1, 1) := by decide +kernel
theorem dJ7_copyOf_9075b_1 : decode cJ7_copyOf_9075b 1 = .ok (.aload_n 0, 1) := by decide +kernel
theorem dJ7_copyOf_9075b_2 : decode cJ7_copyOf_9075b 2 = .ok (.arraylength, 1) := by decide +kernel
theorem dJ7_copyOf_9075b_3 : decode cJ7_copyOf_9075b 3 = .ok (.if_icmp .ne 11, 3) := by decide +kernel
theorem dJ7_copyOf_9075b_6 : decode cJ7_copyOf_9075b 6 = .ok (.aload_n 0, 1) := by decide +kernel
theorem dJ7_copyOf_9075b_7 : decode cJ7_copyOf_9075b 7 = .ok (.invokevirtual 310, 3) := by decide +kernel
theorem dJ7_copyOf_9075b_10 : decode cJ7_copyOf_9075b 10 = .ok (.checkcast 311, 3) := by decide +kernel
theorem dJ7_copyOf_9075b_13 : decode cJ7_copyOf_9075b 13 = .ok (.areturn, 1) := by decide +kernel
theorem dJ7_copyOf_9075b_14 : decode cJ7_copyOf_9075b 14 = .ok (.iload_n 1, 1) := by decide +kernel
theorem dJ7_copyOf_9075b_15 : decode cJ7_copyOf_9075b 15 = .ok (.newarray .byte, 2) := by decide +kernel
theorem dJ7_copyOf_9075b_17 : decode cJ7_copyOf_9075b 17 = .ok (.astore_n 2, 1) := by decide +kernel
theorem dJ7_copyOf_9075b_18 : decode cJ7_copyOf_9075b 18 = .ok (.aload_n 0, 1) := by decide +kernel
theorem dJ7_copyOf_9075b_19 : decode cJ7_copyOf_9075b 19 = .ok (.iconst 0, 1) := by decide +kernel
theorem dJ7_copyOf_9075b_20 : decode cJ7_copyOf_9075b 20 = .ok (.aload_n 2, 1) := by decide +kernel
theorem dJ7_copyOf_9075b_21 : decode cJ7_copyOf_9075b 21 = .ok (.iconst 0, 1) := by decide +kernel
theorem dJ7_copyOf_9075b_22 : decode cJ7_copyOf_9075b 22 = .ok (.aload_n 0, 1) := by decide +kernel
theorem dJ7_copyOf_9075b_23 : decode cJ7_copyOf_9075b 23 = .ok (.arraylength, 1) := by decide +kernel
theorem dJ7_copyOf_9075b_24 : decode cJ7_copyOf_9075b 24 = .ok (.iload_n 1, 1) := by decide +kernel
theorem dJ7_copyOf_9075b_25 : decode cJ7_copyOf_9075b 25 = .ok (.invokestatic 304, 3) := by decide +kernel
theorem dJ7_copyOf_9075b_28 : decode cJ7_copyOf_9075b 28 = .ok (.invokestatic 150, 3) := by decide +kernel
theorem dJ7_copyOf_9075b_31 : decode cJ7_copyOf_9075b 31 = .ok (.aload_n 2, 1) := by decide +kernel
theorem dJ7_copyOf_9075b_32 : decode cJ7_copyOf_9075b 32 = .ok (.areturn, 1) := by decide +kernel
theorem dJ3_checkIndex_8e157_0 : decode cJ3_checkIndex_8e157 0 = .ok (.iload_n 0, 1) := by decide +kernel
theorem dJ3_checkIndex_8e157_1 : decode cJ3_checkIndex_8e157 1 = .ok (.ifCond .lt 8, 3) := by decide +kernel
theorem dJ3_checkIndex_8e157_4 : decode cJ3_checkIndex_8e157 4 = .ok (.iload_n 0, 1) := by decide +kernel
theorem dJ3_checkIndex_8e157_5 : decode cJ3_checkIndex_8e157 5 = .ok (.iload_n 1, 1) := by decide +kernel
theorem dJ3_checkIndex_8e157_6 : decode cJ3_checkIndex_8e157 6 = .ok (.if_icmp .lt 10, 3) := by decide +kernel
theorem dJ3_checkIndex_8e157_9 : decode cJ3_checkIndex_8e157 9 = .ok (.aload_n 2, 1) := by decide +kernel
theorem dJ3_checkIndex_8e157_10 : decode cJ3_checkIndex_8e157 10 = .ok (.iload_n 0, 1) := by decide +kernel
theorem dJ3_checkIndex_8e157_11 : decode cJ3_checkIndex_8e157 11 = .ok (.iload_n 1, 1) := by decide +kernel
theorem dJ3_checkIndex_8e157_12 : decode cJ3_checkIndex_8e157 12 = .ok (.invokestatic 95, 3) := by decide +kernel
theorem dJ3_checkIndex_8e157_15 : decode cJ3_checkIndex_8e157 15 = .ok (.athrow, 1) := by decide +kernel
theorem dJ3_checkIndex_8e157_16 : decode cJ3_checkIndex_8e157 16 = .ok (.iload_n 0, 1) := by decide +kernel
theorem dJ3_checkIndex_8e157_17 : decode cJ3_checkIndex_8e157 17 = .ok (.ireturn, 1) := by decide +kernel
