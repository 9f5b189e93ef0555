theorem d_X_init_0 : decode b_X_init 0 = .ok (.aload_n 0, 1) := by decide +kernel
theorem d_X_init_1 : decode b_X_init 1 = .ok (.invokespecial 1, 3) := by decide +kernel
theorem d_X_init_4 : decode b_X_init 4 = .ok (.aload_n 0, 1) := by decide +kernel
theorem d_X_init_5 : decode b_X_init 5 = .ok (.iconst 2, 1) := by decide +kernel
theorem d_X_init_6 : decode b_X_init 6 = .ok (.iconst 5, 1) := by decide +kernel
theorem d_X_init_7 : decode b_X_init 7 = .ok (.iload_n 1, 1) := by decide +kernel
theorem d_X_init_8 : decode b_X_init 8 = .ok (.invokestatic 9, 3) := by decide +kernel
theorem d_X_init_11 : decode b_X_init 11 = .ok (.invokestatic 15, 3) := by decide +kernel
theorem d_X_init_14 : decode b_X_init 14 = .ok (.putfield 18, 3) := by decide +kernel
theorem d_X_init_17 : decode b_X_init 17 = .ok (.aload_n 0, 1) := by decide +kernel
theorem d_X_init_18 : decode b_X_init 18 = .ok (.aload_n 0, 1) := by decide +kernel
theorem d_X_init_19 : decode b_X_init 19 = .ok (.getfield 18, 3) := by decide +kernel
theorem d_X_init_22 : decode b_X_init 22 = .ok (.anewarray 22, 3) := by decide +kernel
theorem d_X_init_25 : decode b_X_init 25 = .ok (.putfield 24, 3) := by decide +kernel
theorem d_X_init_28 : decode b_X_init 28 = .ok (.iconst 0, 1) := by decide +kernel
theorem d_X_init_29 : decode b_X_init 29 = .ok (.istore_n 2, 1) := by decide +kernel
theorem d_X_init_30 : decode b_X_init 30 = .ok (.iload_n 2, 1) := by decide +kernel
theorem d_X_init_31 : decode b_X_init 31 = .ok (.aload_n 0, 1) := by decide +kernel
theorem d_X_init_32 : decode b_X_init 32 = .ok (.getfield 18, 3) := by decide +kernel
theorem d_X_init_35 : decode b_X_init 35 = .ok (.if_icmp .ge 26, 3) := by decide +kernel
theorem d_X_init_38 : decode b_X_init 38 = .ok (.aload_n 0, 1) := by decide +kernel
theorem d_X_init_39 : decode b_X_init 39 = .ok (.getfield 24, 3) := by decide +kernel
theorem d_X_init_42 : decode b_X_init 42 = .ok (.iload_n 2, 1) := by decide +kernel
theorem d_X_init_43 : decode b_X_init 43 = .ok (.new 22, 3) := by decide +kernel
theorem d_X_init_46 : decode b_X_init 46 = .ok (.dup, 1) := by decide +kernel
theorem d_X_init_47 : decode b_X_init 47 = .ok (.aload_n 0, 1) := by decide +kernel
theorem d_X_init_48 : decode b_X_init 48 = .ok (.getfield 18, 3) := by decide +kernel
theorem d_X_init_51 : decode b_X_init 51 = .ok (.invokespecial 28, 3) := by decide +kernel
theorem d_X_init_54 : decode b_X_init 54 = .ok (.aastore, 1) := by decide +kernel
theorem d_X_init_55 : decode b_X_init 55 = .ok (.iinc 2 1, 3) := by decide +kernel
theorem d_X_init_58 : decode b_X_init 58 = .ok (.goto (-28), 3) := by decide +kernel
theorem d_X_init_61 : decode b_X_init 61 = .ok (.aload_n 0, 1) := by decide +kernel
theorem d_X_init_62 : decode b_X_init 62 = .ok (.aload_n 0, 1) := by decide +kernel
theorem d_X_init_63 : decode b_X_init 63 = .ok (.getfield 18, 3) := by decide +kernel
theorem d_X_init_66 : decode b_X_init 66 = .ok (.aload_n 0, 1) := by decide +kernel
theorem d_X_init_67 : decode b_X_init 67 = .ok (.getfield 18, 3) := by decide +kernel
theorem d_X_init_70 : decode b_X_init 70 = .ok (.imul, 1) := by decide +kernel
theorem d_X_init_71 : decode b_X_init 71 = .ok (.anewarray 31, 3) := by decide +kernel
theorem d_X_init_74 : decode b_X_init 74 = .ok (.putfield 33, 3) := by decide +kernel
theorem d_X_init_77 : decode b_X_init 77 = .ok (.iconst 0, 1) := by decide +kernel
theorem d_X_init_78 : decode b_X_init 78 = .ok (.istore_n 2, 1) := by decide +kernel
theorem d_X_init_79 : decode b_X_init 79 = .ok (.iload_n 2, 1) := by decide +kernel
theorem d_X_init_80 : decode b_X_init 80 = .ok (.aload_n 0, 1) := by decide +kernel
theorem d_X_init_81 : decode b_X_init 81 = .ok (.getfield 33, 3) := by decide +kernel
theorem d_X_init_84 : decode b_X_init 84 = .ok (.arraylength, 1) := by decide +kernel
theorem d_X_init_85 : decode b_X_init 85 = .ok (.if_icmp .ge 22, 3) := by decide +kernel
theorem d_X_init_88 : decode b_X_init 88 = .ok (.aload_n 0, 1) := by decide +kernel
theorem d_X_init_89 : decode b_X_init 89 = .ok (.getfield 33, 3) := by decide +kernel
theorem d_X_init_92 : decode b_X_init 92 = .ok (.iload_n 2, 1) := by decide +kernel
theorem d_X_init_93 : decode b_X_init 93 = .ok (.new 31, 3) := by decide +kernel
theorem d_X_init_96 : decode b_X_init 96 = .ok (.dup, 1) := by decide +kernel
theorem d_X_init_97 : decode b_X_init 97 = .ok (.invokespecial 37, 3) := by decide +kernel
theorem d_X_init_100 : decode b_X_init 100 = .ok (.aastore, 1) := by decide +kernel
theorem d_X_init_101 : decode b_X_init 101 = .ok (.iinc 2 1, 3) := by decide +kernel
theorem d_X_init_104 : decode b_X_init 104 = .ok (.goto (-25), 3) := by decide +kernel
theorem d_X_init_107 : decode b_X_init 107 = .ok (.aload_n 0, 1) := by decide +kernel
theorem d_X_init_108 : decode b_X_init 108 = .ok (.new 38, 3) := by decide +kernel
theorem d_X_init_111 : decode b_X_init 111 = .ok (.dup, 1) := by decide +kernel
theorem d_X_init_112 : decode b_X_init 112 = .ok (.aload_n 0, 1) := by decide +kernel
theorem d_X_init_113 : decode b_X_init 113 = .ok (.getfield 18, 3) := by decide +kernel
theorem d_X_init_116 : decode b_X_init 116 = .ok (.invokespecial 40, 3) := by decide +kernel
theorem d_X_init_119 : decode b_X_init 119 = .ok (.putfield 41, 3) := by decide +kernel
theorem d_X_init_122 : decode b_X_init 122 = .ok (.aload_n 0, 1) := by decide +kernel
theorem d_X_init_123 : decode b_X_init 123 = .ok (.sipush 513, 3) := by decide +kernel
theorem d_X_init_126 : decode b_X_init 126 = .ok (.newarray .boolean, 2) := by decide +kernel
theorem d_X_init_128 : decode b_X_init 128 = .ok (.putfield 45, 3) := by decide +kernel
theorem d_X_init_131 : decode b_X_init 131 = .ok (.aload_n 0, 1) := by decide +kernel
theorem d_X_init_132 : decode b_X_init 132 = .ok (.sipush 513, 3) := by decide +kernel
theorem d_X_init_135 : decode b_X_init 135 = .ok (.newarray .int, 2) := by decide +kernel
theorem d_X_init_137 : decode b_X_init 137 = .ok (.putfield 49, 3) := by decide +kernel
theorem d_X_init_140 : decode b_X_init 140 = .ok (.return_, 1) := by decide +kernel
theorem d_R_init_0 : decode b_R_init 0 = .ok (.aload_n 0, 1) := by decide +kernel
theorem d_R_init_1 : decode b_R_init 1 = .ok (.invokespecial 1, 3) := by decide +kernel
theorem d_R_init_4 : decode b_R_init 4 = .ok (.aload_n 0, 1) := by decide +kernel
theorem d_R_init_5 : decode b_R_init 5 = .ok (.iconst 5, 1) := by decide +kernel
theorem d_R_init_6 : decode b_R_init 6 = .ok (.newarray .int, 2) := by decide +kernel
theorem d_R_init_8 : decode b_R_init 8 = .ok (.putfield 7, 3) := by decide +kernel
theorem d_R_init_11 : decode b_R_init 11 = .ok (.aload_n 0, 1) := by decide +kernel
theorem d_R_init_12 : decode b_R_init 12 = .ok (.sipush 2560, 3) := by decide +kernel
theorem d_R_init_15 : decode b_R_init 15 = .ok (.newarray .int, 2) := by decide +kernel
theorem d_R_init_17 : decode b_R_init 17 = .ok (.putfield 13, 3) := by decide +kernel
theorem d_R_init_20 : decode b_R_init 20 = .ok (.aload_n 0, 1) := by decide +kernel
theorem d_R_init_21 : decode b_R_init 21 = .ok (.sipush 2560, 3) := by decide +kernel
theorem d_R_init_24 : decode b_R_init 24 = .ok (.newarray .int, 2) := by decide +kernel
theorem d_R_init_26 : decode b_R_init 26 = .ok (.putfield 16, 3) := by decide +kernel
theorem d_R_init_29 : decode b_R_init 29 = .ok (.aload_n 0, 1) := by decide +kernel
theorem d_R_init_30 : decode b_R_init 30 = .ok (.sipush 2560, 3) := by decide +kernel
theorem d_R_init_33 : decode b_R_init 33 = .ok (.newarray .int, 2) := by decide +kernel
theorem d_R_init_35 : decode b_R_init 35 = .ok (.putfield 19, 3) := by decide +kernel
theorem d_R_init_38 : decode b_R_init 38 = .ok (.aload_n 0, 1) := by decide +kernel
theorem d_R_init_39 : decode b_R_init 39 = .ok (.sipush 2560, 3) := by decide +kernel
theorem d_R_init_42 : decode b_R_init 42 = .ok (.newarray .int, 2) := by decide +kernel
theorem d_R_init_44 : decode b_R_init 44 = .ok (.putfield 22, 3) := by decide +kernel
theorem d_R_init_47 : decode b_R_init 47 = .ok (.aload_n 0, 1) := by decide +kernel
theorem d_R_init_48 : decode b_R_init 48 = .ok (.iconst 5, 1) := by decide +kernel
theorem d_R_init_49 : decode b_R_init 49 = .ok (.newarray .int, 2) := by decide +kernel
theorem d_R_init_51 : decode b_R_init 51 = .ok (.putfield 25, 3) := by decide +kernel
theorem d_R_init_54 : decode b_R_init 54 = .ok (.aload_n 0, 1) := by decide +kernel
theorem d_R_init_55 : decode b_R_init 55 = .ok (.iconst 5, 1) := by decide +kernel
theorem d_R_init_56 : decode b_R_init 56 = .ok (.newarray .int, 2) := by decide +kernel
theorem d_R_init_58 : decode b_R_init 58 = .ok (.putfield 28, 3) := by decide +kernel
theorem d_R_init_61 : decode b_R_init 61 = .ok (.aload_n 0, 1) := by decide +kernel
theorem d_R_init_62 : decode b_R_init 62 = .ok (.bipush 25, 2) := by decide +kernel
theorem d_R_init_64 : decode b_R_init 64 = .ok (.newarray .int, 2) := by decide +kernel
theorem d_R_init_66 : decode b_R_init 66 = .ok (.putfield 31, 3) := by decide +kernel
theorem d_R_init_69 : decode b_R_init 69 = .ok (.aload_n 0, 1) := by decide +kernel
theorem d_R_init_70 : decode b_R_init 70 = .ok (.iconst 5, 1) := by decide +kernel
theorem d_R_init_71 : decode b_R_init 71 = .ok (.newarray .boolean, 2) := by decide +kernel
theorem d_R_init_73 : decode b_R_init 73 = .ok (.putfield 34, 3) := by decide +kernel
theorem d_R_init_76 : decode b_R_init 76 = .ok (.aload_n 0, 1) := by decide +kernel
theorem d_R_init_77 : decode b_R_init 77 = .ok (.iconst 5, 1) := by decide +kernel
theorem d_R_init_78 : decode b_R_init 78 = .ok (.newarray .int, 2) := by decide +kernel
theorem d_R_init_80 : decode b_R_init 80 = .ok (.putfield 38, 3) := by decide +kernel
theorem d_R_init_83 : decode b_R_init 83 = .ok (.aload_n 0, 1) := by decide +kernel
theorem d_R_init_84 : decode b_R_init 84 = .ok (.iconst 5, 1) := by decide +kernel
theorem d_R_init_85 : decode b_R_init 85 = .ok (.newarray .boolean, 2) := by decide +kernel
theorem d_R_init_87 : decode b_R_init 87 = .ok (.putfield 41, 3) := by decide +kernel
theorem d_R_init_90 : decode b_R_init 90 = .ok (.aload_n 0, 1) := by decide +kernel
theorem d_R_init_91 : decode b_R_init 91 = .ok (.iconst 5, 1) := by decide +kernel
theorem d_R_init_92 : decode b_R_init 92 = .ok (.newarray .int, 2) := by decide +kernel
theorem d_R_init_94 : decode b_R_init 94 = .ok (.putfield 44, 3) := by decide +kernel
theorem d_R_init_97 : decode b_R_init 97 = .ok (.aload_n 0, 1) := by decide +kernel
theorem d_R_init_98 : decode b_R_init 98 = .ok (.iconst 5, 1) := by decide +kernel
theorem d_R_init_99 : decode b_R_init 99 = .ok (.newarray .int, 2) := by decide +kernel
theorem d_R_init_101 : decode b_R_init 101 = .ok (.putfield 47, 3) := by decide +kernel
theorem d_R_init_104 : decode b_R_init 104 = .ok (.aload_n 0, 1) := by decide +kernel
theorem d_R_init_105 : decode b_R_init 105 = .ok (.iconst 5, 1) := by decide +kernel
theorem d_R_init_106 : decode b_R_init 106 = .ok (.newarray .int, 2) := by decide +kernel
theorem d_R_init_108 : decode b_R_init 108 = .ok (.putfield 50, 3) := by decide +kernel
theorem d_R_init_111 : decode b_R_init 111 = .ok (.aload_n 0, 1) := by decide +kernel
theorem d_R_init_112 : decode b_R_init 112 = .ok (.iconst 5, 1) := by decide +kernel
theorem d_R_init_113 : decode b_R_init 113 = .ok (.newarray .int, 2) := by decide +kernel
theorem d_R_init_115 : decode b_R_init 115 = .ok (.putfield 53, 3) := by decide +kernel
theorem d_R_init_118 : decode b_R_init 118 = .ok (.aload_n 0, 1) := by decide +kernel
theorem d_R_init_119 : decode b_R_init 119 = .ok (.sipush 520, 3) := by decide +kernel
theorem d_R_init_122 : decode b_R_init 122 = .ok (.newarray .int, 2) := by decide +kernel
theorem d_R_init_124 : decode b_R_init 124 = .ok (.putfield 56, 3) := by decide +kernel
theorem d_R_init_127 : decode b_R_init 127 = .ok (.aload_n 0, 1) := by decide +kernel
theorem d_R_init_128 : decode b_R_init 128 = .ok (.sipush 400, 3) := by decide +kernel
theorem d_R_init_131 : decode b_R_init 131 = .ok (.newarray .int, 2) := by decide +kernel
theorem d_R_init_133 : decode b_R_init 133 = .ok (.putfield 59, 3) := by decide +kernel
theorem d_R_init_136 : decode b_R_init 136 = .ok (.aload_n 0, 1) := by decide +kernel
theorem d_R_init_137 : decode b_R_init 137 = .ok (.sipush 400, 3) := by decide +kernel
theorem d_R_init_140 : decode b_R_init 140 = .ok (.newarray .int, 2) := by decide +kernel
theorem d_R_init_142 : decode b_R_init 142 = .ok (.putfield 62, 3) := by decide +kernel
theorem d_R_init_145 : decode b_R_init 145 = .ok (.aload_n 0, 1) := by decide +kernel
theorem d_R_init_146 : decode b_R_init 146 = .ok (.sipush 400, 3) := by decide +kernel
theorem d_R_init_149 : decode b_R_init 149 = .ok (.newarray .int, 2) := by decide +kernel
theorem d_R_init_151 : decode b_R_init 151 = .ok (.putfield 65, 3) := by decide +kernel
theorem d_R_init_154 : decode b_R_init 154 = .ok (.aload_n 0, 1) := by decide +kernel
theorem d_R_init_155 : decode b_R_init 155 = .ok (.sipush 400, 3) := by decide +kernel
theorem d_R_init_158 : decode b_R_init 158 = .ok (.newarray .int, 2) := by decide +kernel
theorem d_R_init_160 : decode b_R_init 160 = .ok (.putfield 68, 3) := by decide +kernel
theorem d_R_init_163 : decode b_R_init 163 = .ok (.aload_n 0, 1) := by decide +kernel
theorem d_R_init_164 : decode b_R_init 164 = .ok (.sipush 400, 3) := by decide +kernel
theorem d_R_init_167 : decode b_R_init 167 = .ok (.newarray .boolean, 2) := by decide +kernel
theorem d_R_init_169 : decode b_R_init 169 = .ok (.putfield 71, 3) := by decide +kernel
theorem d_R_init_172 : decode b_R_init 172 = .ok (.aload_n 0, 1) := by decide +kernel
theorem d_R_init_173 : decode b_R_init 173 = .ok (.sipush 400, 3) := by decide +kernel
theorem d_R_init_176 : decode b_R_init 176 = .ok (.newarray .int, 2) := by decide +kernel
theorem d_R_init_178 : decode b_R_init 178 = .ok (.putfield 74, 3) := by decide +kernel
theorem d_R_init_181 : decode b_R_init 181 = .ok (.aload_n 0, 1) := by decide +kernel
theorem d_R_init_182 : decode b_R_init 182 = .ok (.iconst 5, 1) := by decide +kernel
theorem d_R_init_183 : decode b_R_init 183 = .ok (.newarray .int, 2) := by decide +kernel
theorem d_R_init_185 : decode b_R_init 185 = .ok (.putfield 77, 3) := by decide +kernel
theorem d_R_init_188 : decode b_R_init 188 = .ok (.aload_n 0, 1) := by decide +kernel
theorem d_R_init_189 : decode b_R_init 189 = .ok (.iconst 5, 1) := by decide +kernel
theorem d_R_init_190 : decode b_R_init 190 = .ok (.newarray .int, 2) := by decide +kernel
theorem d_R_init_192 : decode b_R_init 192 = .ok (.putfield 80, 3) := by decide +kernel
theorem d_R_init_195 : decode b_R_init 195 = .ok (.aload_n 0, 1) := by decide +kernel
theorem d_R_init_196 : decode b_R_init 196 = .ok (.iload_n 1, 1) := by decide +kernel
theorem d_R_init_197 : decode b_R_init 197 = .ok (.iconst 2, 1) := by decide +kernel
theorem d_R_init_198 : decode b_R_init 198 = .ok (.if_icmp .ge 7, 3) := by decide +kernel
theorem d_R_init_201 : decode b_R_init 201 = .ok (.iconst 2, 1) := by decide +kernel
theorem d_R_init_202 : decode b_R_init 202 = .ok (.goto 13, 3) := by decide +kernel
theorem d_R_init_205 : decode b_R_init 205 = .ok (.iload_n 1, 1) := by decide +kernel
theorem d_R_init_206 : decode b_R_init 206 = .ok (.iconst 5, 1) := by decide +kernel
theorem d_R_init_207 : decode b_R_init 207 = .ok (.if_icmp .le 7, 3) := by decide +kernel
theorem d_R_init_210 : decode b_R_init 210 = .ok (.iconst 5, 1) := by decide +kernel
theorem d_R_init_211 : decode b_R_init 211 = .ok (.goto 4, 3) := by decide +kernel
theorem d_R_init_214 : decode b_R_init 214 = .ok (.iload_n 1, 1) := by decide +kernel
theorem d_R_init_215 : decode b_R_init 215 = .ok (.putfield 83, 3) := by decide +kernel
theorem d_R_init_218 : decode b_R_init 218 = .ok (.return_, 1) := by decide +kernel
theorem d_H_init_0 : decode b_H_init 0 = .ok (.aload_n 0, 1) := by decide +kernel
theorem d_H_init_1 : decode b_H_init 1 = .ok (.invokespecial 3, 3) := by decide +kernel
theorem d_H_init_4 : decode b_H_init 4 = .ok (.aload_n 0, 1) := by decide +kernel
theorem d_H_init_5 : decode b_H_init 5 = .ok (.bipush 6, 2) := by decide +kernel
theorem d_H_init_7 : decode b_H_init 7 = .ok (.newarray .int, 2) := by decide +kernel
theorem d_H_init_9 : decode b_H_init 9 = .ok (.putfield 9, 3) := by decide +kernel
theorem d_H_init_12 : decode b_H_init 12 = .ok (.aload_n 0, 1) := by decide +kernel
theorem d_H_init_13 : decode b_H_init 13 = .ok (.bipush 6, 2) := by decide +kernel
theorem d_H_init_15 : decode b_H_init 15 = .ok (.newarray .int, 2) := by decide +kernel
theorem d_H_init_17 : decode b_H_init 17 = .ok (.putfield 15, 3) := by decide +kernel
theorem d_H_init_20 : decode b_H_init 20 = .ok (.return_, 1) := by decide +kernel
theorem d_M_init_0 : decode b_M_init 0 = .ok (.aload_n 0, 1) := by decide +kernel
theorem d_M_init_1 : decode b_M_init 1 = .ok (.invokespecial 3, 3) := by decide +kernel
theorem d_M_init_4 : decode b_M_init 4 = .ok (.aload_n 0, 1) := by decide +kernel
theorem d_M_init_5 : decode b_M_init 5 = .ok (.new 9, 3) := by decide +kernel
theorem d_M_init_8 : decode b_M_init 8 = .ok (.dup, 1) := by decide +kernel
theorem d_M_init_9 : decode b_M_init 9 = .ok (.iload_n 1, 1) := by decide +kernel
theorem d_M_init_10 : decode b_M_init 10 = .ok (.invokespecial 11, 3) := by decide +kernel
theorem d_M_init_13 : decode b_M_init 13 = .ok (.putfield 14, 3) := by decide +kernel
theorem d_M_init_16 : decode b_M_init 16 = .ok (.aload_n 0, 1) := by decide +kernel
theorem d_M_init_17 : decode b_M_init 17 = .ok (.new 9, 3) := by decide +kernel
theorem d_M_init_20 : decode b_M_init 20 = .ok (.dup, 1) := by decide +kernel
theorem d_M_init_21 : decode b_M_init 21 = .ok (.iload_n 1, 1) := by decide +kernel
theorem d_M_init_22 : decode b_M_init 22 = .ok (.invokespecial 11, 3) := by decide +kernel
theorem d_M_init_25 : decode b_M_init 25 = .ok (.putfield 20, 3) := by decide +kernel
theorem d_M_init_28 : decode b_M_init 28 = .ok (.aload_n 0, 1) := by decide +kernel
theorem d_M_init_29 : decode b_M_init 29 = .ok (.new 9, 3) := by decide +kernel
theorem d_M_init_32 : decode b_M_init 32 = .ok (.dup, 1) := by decide +kernel
theorem d_M_init_33 : decode b_M_init 33 = .ok (.iload_n 1, 1) := by decide +kernel
theorem d_M_init_34 : decode b_M_init 34 = .ok (.invokespecial 11, 3) := by decide +kernel
theorem d_M_init_37 : decode b_M_init 37 = .ok (.putfield 23, 3) := by decide +kernel
theorem d_M_init_40 : decode b_M_init 40 = .ok (.aload_n 0, 1) := by decide +kernel
theorem d_M_init_41 : decode b_M_init 41 = .ok (.iload_n 1, 1) := by decide +kernel
theorem d_M_init_42 : decode b_M_init 42 = .ok (.newarray .boolean, 2) := by decide +kernel
theorem d_M_init_44 : decode b_M_init 44 = .ok (.putfield 26, 3) := by decide +kernel
theorem d_M_init_47 : decode b_M_init 47 = .ok (.return_, 1) := by decide +kernel
theorem d_N_init_0 : decode b_N_init 0 = .ok (.aload_n 0, 1) := by decide +kernel
theorem d_N_init_1 : decode b_N_init 1 = .ok (.invokespecial 1, 3) := by decide +kernel
theorem d_N_init_4 : decode b_N_init 4 = .ok (.return_, 1) := by decide +kernel
theorem d_L_init_0 : decode b_L_init 0 = .ok (.aload_n 0, 1) := by decide +kernel
theorem d_L_init_1 : decode b_L_init 1 = .ok (.invokespecial 1, 3) := by decide +kernel
theorem d_L_init_4 : decode b_L_init 4 = .ok (.aload_n 0, 1) := by decide +kernel
theorem d_L_init_5 : decode b_L_init 5 = .ok (.iconst 4, 1) := by decide +kernel
theorem d_L_init_6 : decode b_L_init 6 = .ok (.iload_n 1, 1) := by decide +kernel
theorem d_L_init_7 : decode b_L_init 7 = .ok (.imul, 1) := by decide +kernel
theorem d_L_init_8 : decode b_L_init 8 = .ok (.iload_n 1, 1) := by decide +kernel
theorem d_L_init_9 : decode b_L_init 9 = .ok (.iconst 1, 1) := by decide +kernel
theorem d_L_init_10 : decode b_L_init 10 = .ok (.isub, 1) := by decide +kernel
theorem d_L_init_11 : decode b_L_init 11 = .ok (.imul, 1) := by decide +kernel
theorem d_L_init_12 : decode b_L_init 12 = .ok (.anewarray 7, 3) := by decide +kernel
theorem d_L_init_15 : decode b_L_init 15 = .ok (.putfield 9, 3) := by decide +kernel
theorem d_L_init_18 : decode b_L_init 18 = .ok (.iconst 0, 1) := by decide +kernel
theorem d_L_init_19 : decode b_L_init 19 = .ok (.istore_n 2, 1) := by decide +kernel
theorem d_L_init_20 : decode b_L_init 20 = .ok (.iload_n 2, 1) := by decide +kernel
theorem d_L_init_21 : decode b_L_init 21 = .ok (.aload_n 0, 1) := by decide +kernel
theorem d_L_init_22 : decode b_L_init 22 = .ok (.getfield 9, 3) := by decide +kernel
theorem d_L_init_25 : decode b_L_init 25 = .ok (.arraylength, 1) := by decide +kernel
theorem d_L_init_26 : decode b_L_init 26 = .ok (.if_icmp .ge 22, 3) := by decide +kernel
theorem d_L_init_29 : decode b_L_init 29 = .ok (.aload_n 0, 1) := by decide +kernel
theorem d_L_init_30 : decode b_L_init 30 = .ok (.getfield 9, 3) := by decide +kernel
theorem d_L_init_33 : decode b_L_init 33 = .ok (.iload_n 2, 1) := by decide +kernel
theorem d_L_init_34 : decode b_L_init 34 = .ok (.new 7, 3) := by decide +kernel
theorem d_L_init_37 : decode b_L_init 37 = .ok (.dup, 1) := by decide +kernel
theorem d_L_init_38 : decode b_L_init 38 = .ok (.invokespecial 15, 3) := by decide +kernel
theorem d_L_init_41 : decode b_L_init 41 = .ok (.aastore, 1) := by decide +kernel
theorem d_L_init_42 : decode b_L_init 42 = .ok (.iinc 2 1, 3) := by decide +kernel
theorem d_L_init_45 : decode b_L_init 45 = .ok (.goto (-25), 3) := by decide +kernel
theorem d_L_init_48 : decode b_L_init 48 = .ok (.return_, 1) := by decide +kernel
theorem d_S_init_0 : decode b_S_init 0 = .ok (.aload_n 0, 1) := by decide +kernel
theorem d_S_init_1 : decode b_S_init 1 = .ok (.invokespecial 1, 3) := by decide +kernel
theorem d_S_init_4 : decode b_S_init 4 = .ok (.aload_n 0, 1) := by decide +kernel
theorem d_S_init_5 : decode b_S_init 5 = .ok (.iload_n 1, 1) := by decide +kernel
theorem d_S_init_6 : decode b_S_init 6 = .ok (.newarray .int, 2) := by decide +kernel
theorem d_S_init_8 : decode b_S_init 8 = .ok (.putfield 7, 3) := by decide +kernel
theorem d_S_init_11 : decode b_S_init 11 = .ok (.aload_n 0, 1) := by decide +kernel
theorem d_S_init_12 : decode b_S_init 12 = .ok (.iload_n 1, 1) := by decide +kernel
theorem d_S_init_13 : decode b_S_init 13 = .ok (.newarray .int, 2) := by decide +kernel
theorem d_S_init_15 : decode b_S_init 15 = .ok (.putfield 13, 3) := by decide +kernel
theorem d_S_init_18 : decode b_S_init 18 = .ok (.return_, 1) := by decide +kernel
theorem tw_gI {y : MethodName} {cc : ByteArray} {mL : Nat} {rt : Option FieldType} (h5 : Cond.code y cc mL rt ∈ tw_tbl) : GoodIn tw_tbl (Cond.code y cc mL rt :: tw_tbl) := by
  refine tw_gd fun w hw => ?_
  rcases List.mem_cons.mp hw with rfl | hw
  · exact h5
  · exact hw
theorem tw_15 : (Jvm.Cond.instanceMethod ({ cls := "java/lang/Object", name := "<init>", desc := "()V" } : Jvm.MethodName)) ∈ tw_tbl := tw_of 15 (by decide +kernel) (by decide +kernel)
theorem tw_16 : (Jvm.Cond.code ({ cls := "java/lang/Object", name := "<init>", desc := "()V" } : Jvm.MethodName) object_method_1_code (1 : Nat) (Option.none : Option Jvm.ClassFile.FieldType)) ∈ tw_tbl := tw_of 16 (by decide +kernel) (by decide +kernel)
theorem tw_29 : (Jvm.Cond.methodLink "TwoPhaseCuts$Member" (3 : Nat) ({ cls := "java/lang/Object", name := "<init>", desc := "()V" } : Jvm.MethodName)) ∈ tw_tbl := tw_of 29 (by decide +kernel) (by decide +kernel)
theorem tw_30 : (Jvm.Cond.classLink "TwoPhaseCuts$Member" (9 : Nat) "TwoPhaseCuts$State") ∈ tw_tbl := tw_of 30 (by decide +kernel) (by decide +kernel)
theorem tw_31 : (Jvm.Cond.instantiable "TwoPhaseCuts$State" (3 : Nat)) ∈ tw_tbl := tw_of 31 (by decide +kernel) (by decide +kernel)
theorem tw_32 : (Jvm.Cond.methodLink "TwoPhaseCuts$Member" (11 : Nat) ({ cls := "TwoPhaseCuts$State", name := "<init>", desc := "(I)V" } : Jvm.MethodName)) ∈ tw_tbl := tw_of 32 (by decide +kernel) (by decide +kernel)
theorem tw_33 : (Jvm.Cond.instanceMethod ({ cls := "TwoPhaseCuts$State", name := "<init>", desc := "(I)V" } : Jvm.MethodName)) ∈ tw_tbl := tw_of 33 (by decide +kernel) (by decide +kernel)
theorem tw_34 : (Jvm.Cond.code ({ cls := "TwoPhaseCuts$State", name := "<init>", desc := "(I)V" } : Jvm.MethodName) prog_6_method_1_code (2 : Nat) (Option.none : Option Jvm.ClassFile.FieldType)) ∈ tw_tbl := tw_of 34 (by decide +kernel) (by decide +kernel)
theorem tw_35 : (Jvm.Cond.methodLink "TwoPhaseCuts$State" (1 : Nat) ({ cls := "java/lang/Object", name := "<init>", desc := "()V" } : Jvm.MethodName)) ∈ tw_tbl := tw_of 35 (by decide +kernel) (by decide +kernel)
theorem tw_51 : (Jvm.Cond.arrayClass Jvm.ClassFile.FieldType.int) ∈ tw_tbl := tw_of 51 (by decide +kernel) (by decide +kernel)
theorem tw_67 : (Jvm.Cond.fieldLink "TwoPhaseCuts$Member" (26 : Nat) "TwoPhaseCuts$Member" "cohort" "[Z") ∈ tw_tbl := tw_of 67 (by decide +kernel) (by decide +kernel)
theorem tw_98 : (Jvm.Cond.arrayClass Jvm.ClassFile.FieldType.boolean) ∈ tw_tbl := tw_of 98 (by decide +kernel) (by decide +kernel)
theorem tw_105 : (Jvm.Cond.methodLink "TwoPhaseCuts$Channel" (3 : Nat) ({ cls := "java/lang/Object", name := "<init>", desc := "()V" } : Jvm.MethodName)) ∈ tw_tbl := tw_of 105 (by decide +kernel) (by decide +kernel)
theorem tw_131 : (Jvm.Cond.methodLink "TwoPhaseCuts$Note" (1 : Nat) ({ cls := "java/lang/Object", name := "<init>", desc := "()V" } : Jvm.MethodName)) ∈ tw_tbl := tw_of 131 (by decide +kernel) (by decide +kernel)
abbrev rm_N_init : Room := { frames := 1, cells := 0, slots := 0, locals := 20 }
set_option maxHeartbeats 4000000 in
set_option maxRecDepth 100000 in
theorem ci_N (l : Launch) (G : ec_G) (base : Nat) (f : Nat → va_E) (len o : Nat) (ho : o < len) (he : f o = .inr (5, [.int 0, .int 0, .int 0, .int 0, .int 0])) :
    Met l y_N_init (Cond.code y_N_init b_N_init 1 none :: tw_tbl) rm_N_init (va_Pc [.ref (base + o)] (bp G.1 ec_cl (ec_T G) base f len))
      (va_Qv (fun f' : Nat → va_E => f' o = .inr (5, [.int 0, .int 0, .int 0, .int 0, .int 0]) ∧ (∀ x, x < len → x ≠ o → f' x = f x)) (fun f' t => bw G.1 ec_cl base f' (len) t.heap) (fun q => base ≤ q)) 0 0 (fun q => base ≤ q) := by
  refine Met.ofW (cc := b_N_init) (maxL := 1) (ret := none) (by decide) rfl ?_
  intro p e s m args below meth c s₁ B hml hv
  obtain ⟨rfl, hB, hK, hnA, hnB, hO⟩ := hv
  have hx := B.exec
  have hb := B.bytes
  have hr := B.returns
  have hts0 := atoms_spec (ws := Cond.code y_N_init b_N_init 1 none :: tw_tbl) B.pre
  have hts : ∀ w ∈ tw_tbl, w.before [.ref (base + o)].toArray s = true := fun w h => hts0 w (List.mem_cons_of_mem _ h)
  clear hts0
  have hown : s.vm.findClass "TwoPhaseCuts$Note" = some m.cls := findClass_of_methodNamed B.named
  have hlocks := B.notSynchronized
  have hin : meth.name = "<init>" := (name_of_methodNamed B.named B.method).1
  have hC : CallFix p m c b_N_init 1 s [.ref (base + o)].toArray tw_tbl "TwoPhaseCuts$Note" := ⟨hx, hb, hml, hown, hts⟩
  have hS : va_S (fun q => base ≤ q) s.heap s.heap [] := va_S.rf
  have hl := lv_entry ([.ref (base + o)]) (n := 1) (Nat.le_of_ble_eq_true rfl)
  rw [lg_entry_eq]
  generalize (lg_sl ([.ref (base + o)]) ++ List.replicate (1 - (lg_sl ([.ref (base + o)])).length) Slot.unset).toArray = ls at hl ⊢
  have hl : lv_has ls 1 [(0, .ref (base + o))] := hl
  have hB : bw G.1 ec_cl base f len s.heap := hB
  clear B
  have h_o_0 : f (o) = .inr (5, [.int 0, .int 0, .int 0, .int 0, .int 0]) := he
  have hx0 : ∀ x, x < len → x ≠ o → f x = f x := fun _ _ _ => rfl
  refine lv_aload_n hx hb d_N_init_0 rfl (lv_at hl 0 rfl) ?_
  refine W.objInit hx hb hown (hts _ tw_131) (hts _ tw_15) (hts _ tw_16) rfl (by rw [hml]; exact hl.1) rfl d_N_init_1 (Nat.le_of_ble_eq_true rfl) (Nat.le_of_ble_eq_true rfl) ?_
  refine W.eq (g2 := F0 m 4 ls []) rfl ?_
  refine W.widen (k := 0) (n := 0) (by omega) (by omega) ?_
  exact W.vret hx hb hr (fun t ht hw => ⟨⟨f, rfl, ⟨h_o_0, hx0⟩, by show bw G.1 ec_cl base f (len) t.heap; rw [ht]; exact hB⟩, hS.F ht⟩) hS.2.2 d_N_init_4
abbrev rm_S_init : Room := { frames := 1, cells := 2, slots := 10, locals := 20 }
set_option maxHeartbeats 4000000 in
set_option maxRecDepth 100000 in
theorem ci_S (l : Launch) (G : ec_G) (base : Nat) (f : Nat → va_E) (len o : Nat) (n : Nat) (hn2 : 2 ≤ n) (hn5 : n ≤ 5) (ho : o < len) (he : f o = .inr (2, [.int 0, .null, .null])) :
    Met l y_S_init (Cond.code y_S_init b_S_init 2 none :: tw_tbl) rm_S_init (va_Pc [.ref (base + o), .int (nI n)] (bp G.1 ec_cl (ec_T G) base f len))
      (va_Qv (fun f' : Nat → va_E => f' o = .inr (2, [.int 0, .ref (base + (len)), .ref (base + (len + 1))]) ∧ (∀ x, x < len → x ≠ o → f' x = f x) ∧ f' (len) = .inl (G.2 0, n, .inl (fun _ => 0)) ∧ f' (len + 1) = .inl (G.2 0, n, .inl (fun _ => 0))) (fun f' t => bw G.1 ec_cl base f' (len + 2) t.heap) (fun q => base ≤ q)) 2 10 (fun q => base ≤ q) := by
  refine Met.ofW (cc := b_S_init) (maxL := 2) (ret := none) (by decide) rfl ?_
  intro p e s m args below meth c s₁ B hml hv
  obtain ⟨rfl, hB, hK, hnA, hnB, hO⟩ := hv
  have hx := B.exec
  have hb := B.bytes
  have hr := B.returns
  have hts0 := atoms_spec (ws := Cond.code y_S_init b_S_init 2 none :: tw_tbl) B.pre
  have hts : ∀ w ∈ tw_tbl, w.before [.ref (base + o), .int (nI n)].toArray s = true := fun w h => hts0 w (List.mem_cons_of_mem _ h)
  clear hts0
  have hown : s.vm.findClass "TwoPhaseCuts$State" = some m.cls := findClass_of_methodNamed B.named
  have hlocks := B.notSynchronized
  have hin : meth.name = "<init>" := (name_of_methodNamed B.named B.method).1
  have hC : CallFix p m c b_S_init 2 s [.ref (base + o), .int (nI n)].toArray tw_tbl "TwoPhaseCuts$State" := ⟨hx, hb, hml, hown, hts⟩
  have hS : va_S (fun q => base ≤ q) s.heap s.heap [] := va_S.rf
  have hl := lv_entry ([.ref (base + o), .int (nI n)]) (n := 2) (Nat.le_of_ble_eq_true rfl)
  rw [lg_entry_eq]
  generalize (lg_sl ([.ref (base + o), .int (nI n)]) ++ List.replicate (2 - (lg_sl ([.ref (base + o), .int (nI n)])).length) Slot.unset).toArray = ls at hl ⊢
  have hl : lv_has ls 2 [(0, .ref (base + o)), (1, .int (nI n))] := hl
  have hB : bw G.1 ec_cl base f len s.heap := hB
  clear B
  have h_o_0 : f (o) = .inr (2, [.int 0, .null, .null]) := he
  have hx0 : ∀ x, x < len → x ≠ o → f x = f x := fun _ _ _ => rfl
  refine lv_aload_n hx hb d_S_init_0 rfl (lv_at hl 0 rfl) ?_
  refine W.objInit hx hb hown (hts _ tw_35) (hts _ tw_15) (hts _ tw_16) rfl (by rw [hml]; exact hl.1) rfl d_S_init_1 (Nat.le_of_ble_eq_true rfl) (Nat.le_of_ble_eq_true rfl) ?_
  refine W.eq (g2 := F0 m 4 ls []) rfl ?_
  refine lv_aload_n hx hb d_S_init_4 rfl (lv_at hl 0 rfl) ?_
  refine lv_iload_n hx hb d_S_init_5 rfl (lv_at hl 1 rfl) ?_
  refine bw_newa (D := G.1) (N' := n) (atype := .int) (ty := .int) hx hb (hts _ tw_51) rfl rfl hK 0 rfl (fun h => h) hB hS (nI_pos (by omega)) (nI_clamp (by omega)) (by show n * 4 ≤ 536870912; omega) (by show 0 + 1 ≤ 2; omega) (by show 0 + n ≤ 10; omega) d_S_init_6 (fun H hB hS => ?_)
  have hB : bw G.1 ec_cl base (bu f (len) (.inl (G.2 0, n, .inl (fun _ => 0)))) (len + 1) H := hB
  obtain ⟨f1, hf1⟩ : ∃ g, g = bu f (len) (.inl (G.2 0, n, .inl (fun _ => 0))) := ⟨_, rfl⟩
  rw [← hf1] at hB
  have hB : bw G.1 ec_cl base f1 (len + 1) H := hB
  have h_o_1 : f1 (o) = .inr (2, [.int 0, .null, .null]) := by rw [hf1, bu_n _ _ (by omega)]; exact h_o_0
  have h_len_1 : f1 (len) = .inl (G.2 0, n, .inl (fun _ => 0)) := by rw [hf1, bu_s]
  have hx1 : ∀ x, x < len → x ≠ o → f1 x = f x := fun x z1 z2 => (congrFun hf1 x).trans ((bu_n _ _ (by omega)).trans (hx0 x z1 z2))
  refine W.widen (k := 1) (n := 5) (by omega) (by omega) ?_
  refine bw_putF (D := G.1) (ci := 2) (C := "TwoPhaseCuts$State") (T := T_S) (N := 3) (v := .ref (base + (len))) (ty := .array .int) (o := o) hx hb hts ui_S ty_S tyo_S nmo_S hown hK hB hS (by omega) h_o_1 rfl 1 (by decide) (hts _ tw_38) (fun _ h9 => h9) rfl hin rfl (by decide +kernel) rfl rfl (Nat.le_of_ble_eq_true rfl) d_S_init_8 (fun H locs hB hS => ?_)
  have hB : bw G.1 ec_cl base (bu f1 (o) (.inr (2, [.int 0, .ref (base + (len)), .null]))) (len + 1) H := hB
  obtain ⟨f2, hf2⟩ : ∃ g, g = bu f1 (o) (.inr (2, [.int 0, .ref (base + (len)), .null])) := ⟨_, rfl⟩
  rw [← hf2] at hB
  have hB : bw G.1 ec_cl base f2 (len + 1) H := hB
  have h_len_2 : f2 (len) = .inl (G.2 0, n, .inl (fun _ => 0)) := by rw [hf2, bu_n _ _ (by omega)]; exact h_len_1
  have h_o_2 : f2 (o) = .inr (2, [.int 0, .ref (base + (len)), .null]) := by rw [hf2, bu_s]
  have hx2 : ∀ x, x < len → x ≠ o → f2 x = f x := fun x z1 z2 => (congrFun hf2 x).trans ((bu_n _ _ (by omega)).trans (hx1 x z1 z2))
  refine lv_aload_n hx hb d_S_init_11 rfl (lv_at hl 0 rfl) ?_
  refine lv_iload_n hx hb d_S_init_12 rfl (lv_at hl 1 rfl) ?_
  refine bw_newa (D := G.1) (N' := n) (atype := .int) (ty := .int) hx hb (hts _ tw_51) rfl rfl hK 0 rfl (fun h => h) hB hS (nI_pos (by omega)) (nI_clamp (by omega)) (by show n * 4 ≤ 536870912; omega) (by show 1 + 1 ≤ 2; omega) (by show 5 + n ≤ 10; omega) d_S_init_13 (fun H hB hS => ?_)
  have hB : bw G.1 ec_cl base (bu f2 (len + 1) (.inl (G.2 0, n, .inl (fun _ => 0)))) (len + 2) H := hB
  obtain ⟨f3, hf3⟩ : ∃ g, g = bu f2 (len + 1) (.inl (G.2 0, n, .inl (fun _ => 0))) := ⟨_, rfl⟩
  rw [← hf3] at hB
  have hB : bw G.1 ec_cl base f3 (len + 2) H := hB
  have h_o_3 : f3 (o) = .inr (2, [.int 0, .ref (base + (len)), .null]) := by rw [hf3, bu_n _ _ (by omega)]; exact h_o_2
  have h_len_3 : f3 (len) = .inl (G.2 0, n, .inl (fun _ => 0)) := by rw [hf3, bu_n _ _ (by omega)]; exact h_len_2
  have h_len1_3 : f3 (len + 1) = .inl (G.2 0, n, .inl (fun _ => 0)) := by rw [hf3, bu_s]
  have hx3 : ∀ x, x < len → x ≠ o → f3 x = f x := fun x z1 z2 => (congrFun hf3 x).trans ((bu_n _ _ (by omega)).trans (hx2 x z1 z2))
  refine W.widen (k := 2) (n := 10) (by omega) (by omega) ?_
  refine bw_putF (D := G.1) (ci := 2) (C := "TwoPhaseCuts$State") (T := T_S) (N := 3) (v := .ref (base + (len + 1))) (ty := .array .int) (o := o) hx hb hts ui_S ty_S tyo_S nmo_S hown hK hB hS (by omega) h_o_3 rfl 2 (by decide) (hts _ tw_41) (fun _ h9 => h9) rfl hin rfl (by decide +kernel) rfl rfl (Nat.le_of_ble_eq_true rfl) d_S_init_15 (fun H locs hB hS => ?_)
  have hB : bw G.1 ec_cl base (bu f3 (o) (.inr (2, [.int 0, .ref (base + (len)), .ref (base + (len + 1))]))) (len + 2) H := hB
  obtain ⟨f4, hf4⟩ : ∃ g, g = bu f3 (o) (.inr (2, [.int 0, .ref (base + (len)), .ref (base + (len + 1))])) := ⟨_, rfl⟩
  rw [← hf4] at hB
  have hB : bw G.1 ec_cl base f4 (len + 2) H := hB
  have h_len_4 : f4 (len) = .inl (G.2 0, n, .inl (fun _ => 0)) := by rw [hf4, bu_n _ _ (by omega)]; exact h_len_3
  have h_len1_4 : f4 (len + 1) = .inl (G.2 0, n, .inl (fun _ => 0)) := by rw [hf4, bu_n _ _ (by omega)]; exact h_len1_3
  have h_o_4 : f4 (o) = .inr (2, [.int 0, .ref (base + (len)), .ref (base + (len + 1))]) := by rw [hf4, bu_s]
  have hx4 : ∀ x, x < len → x ≠ o → f4 x = f x := fun x z1 z2 => (congrFun hf4 x).trans ((bu_n _ _ (by omega)).trans (hx3 x z1 z2))
  refine W.widen (k := 2) (n := 10) (by omega) (by omega) ?_
  exact W.vret hx hb hr (fun t ht hw => ⟨⟨f4, rfl, ⟨h_o_4, hx4, h_len_4, h_len1_4⟩, by show bw G.1 ec_cl base f4 (len + 2) t.heap; rw [ht]; exact hB⟩, hS.F ht⟩) hS.2.2 d_S_init_18
abbrev rm_H_init : Room := { frames := 1, cells := 2, slots := 12, locals := 20 }
set_option maxHeartbeats 4000000 in
set_option maxRecDepth 100000 in
theorem ci_H (l : Launch) (G : ec_G) (base : Nat) (f : Nat → va_E) (len o : Nat) (ho : o < len) (he : f o = .inr (3, [.null, .null, .int 0])) :
    Met l y_H_init (Cond.code y_H_init b_H_init 1 none :: tw_tbl) rm_H_init (va_Pc [.ref (base + o)] (bp G.1 ec_cl (ec_T G) base f len))
      (va_Qv (fun f' : Nat → va_E => f' o = .inr (3, [.ref (base + (len)), .ref (base + (len + 1)), .int 0]) ∧ (∀ x, x < len → x ≠ o → f' x = f x) ∧ f' (len) = .inl (G.2 0, 6, .inl (fun _ => 0)) ∧ f' (len + 1) = .inl (G.2 0, 6, .inl (fun _ => 0))) (fun f' t => bw G.1 ec_cl base f' (len + 2) t.heap) (fun q => base ≤ q)) 2 12 (fun q => base ≤ q) := by
  refine Met.ofW (cc := b_H_init) (maxL := 1) (ret := none) (by decide) rfl ?_
  intro p e s m args below meth c s₁ B hml hv
  obtain ⟨rfl, hB, hK, hnA, hnB, hO⟩ := hv
  have hx := B.exec
  have hb := B.bytes
  have hr := B.returns
  have hts0 := atoms_spec (ws := Cond.code y_H_init b_H_init 1 none :: tw_tbl) B.pre
  have hts : ∀ w ∈ tw_tbl, w.before [.ref (base + o)].toArray s = true := fun w h => hts0 w (List.mem_cons_of_mem _ h)
  clear hts0
  have hown : s.vm.findClass "TwoPhaseCuts$Channel" = some m.cls := findClass_of_methodNamed B.named
  have hlocks := B.notSynchronized
  have hin : meth.name = "<init>" := (name_of_methodNamed B.named B.method).1
  have hC : CallFix p m c b_H_init 1 s [.ref (base + o)].toArray tw_tbl "TwoPhaseCuts$Channel" := ⟨hx, hb, hml, hown, hts⟩
  have hS : va_S (fun q => base ≤ q) s.heap s.heap [] := va_S.rf
  have hl := lv_entry ([.ref (base + o)]) (n := 1) (Nat.le_of_ble_eq_true rfl)
  rw [lg_entry_eq]
  generalize (lg_sl ([.ref (base + o)]) ++ List.replicate (1 - (lg_sl ([.ref (base + o)])).length) Slot.unset).toArray = ls at hl ⊢
  have hl : lv_has ls 1 [(0, .ref (base + o))] := hl
  have hB : bw G.1 ec_cl base f len s.heap := hB
  clear B
  have h_o_0 : f (o) = .inr (3, [.null, .null, .int 0]) := he
  have hx0 : ∀ x, x < len → x ≠ o → f x = f x := fun _ _ _ => rfl
  refine lv_aload_n hx hb d_H_init_0 rfl (lv_at hl 0 rfl) ?_
  refine W.objInit hx hb hown (hts _ tw_105) (hts _ tw_15) (hts _ tw_16) rfl (by rw [hml]; exact hl.1) rfl d_H_init_1 (Nat.le_of_ble_eq_true rfl) (Nat.le_of_ble_eq_true rfl) ?_
  refine W.eq (g2 := F0 m 4 ls []) rfl ?_
  refine lv_aload_n hx hb d_H_init_4 rfl (lv_at hl 0 rfl) ?_
  refine lv_bipush (v := nI 6) hx hb d_H_init_5 (by decide) ?_
  refine bw_newa (D := G.1) (N' := 6) (atype := .int) (ty := .int) hx hb (hts _ tw_51) rfl rfl hK 0 rfl (fun h => h) hB hS (nI_pos (by omega)) (nI_clamp (by omega)) (by show 6 * 4 ≤ 536870912; omega) (by show 0 + 1 ≤ 2; omega) (by show 0 + 6 ≤ 12; omega) d_H_init_7 (fun H hB hS => ?_)
  have hB : bw G.1 ec_cl base (bu f (len) (.inl (G.2 0, 6, .inl (fun _ => 0)))) (len + 1) H := hB
  obtain ⟨f1, hf1⟩ : ∃ g, g = bu f (len) (.inl (G.2 0, 6, .inl (fun _ => 0))) := ⟨_, rfl⟩
  rw [← hf1] at hB
  have hB : bw G.1 ec_cl base f1 (len + 1) H := hB
  have h_o_1 : f1 (o) = .inr (3, [.null, .null, .int 0]) := by rw [hf1, bu_n _ _ (by omega)]; exact h_o_0
  have h_len_1 : f1 (len) = .inl (G.2 0, 6, .inl (fun _ => 0)) := by rw [hf1, bu_s]
  have hx1 : ∀ x, x < len → x ≠ o → f1 x = f x := fun x z1 z2 => (congrFun hf1 x).trans ((bu_n _ _ (by omega)).trans (hx0 x z1 z2))
  refine W.widen (k := 1) (n := 6) (by omega) (by omega) ?_
  refine bw_putF (D := G.1) (ci := 3) (C := "TwoPhaseCuts$Channel") (T := T_H) (N := 3) (v := .ref (base + (len))) (ty := .array .int) (o := o) hx hb hts ui_H ty_H tyo_H nmo_H hown hK hB hS (by omega) h_o_1 rfl 0 (by decide) (hts _ tw_106) (fun _ h9 => h9) rfl hin rfl (by decide +kernel) rfl rfl (Nat.le_of_ble_eq_true rfl) d_H_init_9 (fun H locs hB hS => ?_)
  have hB : bw G.1 ec_cl base (bu f1 (o) (.inr (3, [.ref (base + (len)), .null, .int 0]))) (len + 1) H := hB
  obtain ⟨f2, hf2⟩ : ∃ g, g = bu f1 (o) (.inr (3, [.ref (base + (len)), .null, .int 0])) := ⟨_, rfl⟩
  rw [← hf2] at hB
  have hB : bw G.1 ec_cl base f2 (len + 1) H := hB
  have h_len_2 : f2 (len) = .inl (G.2 0, 6, .inl (fun _ => 0)) := by rw [hf2, bu_n _ _ (by omega)]; exact h_len_1
  have h_o_2 : f2 (o) = .inr (3, [.ref (base + (len)), .null, .int 0]) := by rw [hf2, bu_s]
  have hx2 : ∀ x, x < len → x ≠ o → f2 x = f x := fun x z1 z2 => (congrFun hf2 x).trans ((bu_n _ _ (by omega)).trans (hx1 x z1 z2))
  refine lv_aload_n hx hb d_H_init_12 rfl (lv_at hl 0 rfl) ?_
  refine lv_bipush (v := nI 6) hx hb d_H_init_13 (by decide) ?_
  refine bw_newa (D := G.1) (N' := 6) (atype := .int) (ty := .int) hx hb (hts _ tw_51) rfl rfl hK 0 rfl (fun h => h) hB hS (nI_pos (by omega)) (nI_clamp (by omega)) (by show 6 * 4 ≤ 536870912; omega) (by show 1 + 1 ≤ 2; omega) (by show 6 + 6 ≤ 12; omega) d_H_init_15 (fun H hB hS => ?_)
  have hB : bw G.1 ec_cl base (bu f2 (len + 1) (.inl (G.2 0, 6, .inl (fun _ => 0)))) (len + 2) H := hB
  obtain ⟨f3, hf3⟩ : ∃ g, g = bu f2 (len + 1) (.inl (G.2 0, 6, .inl (fun _ => 0))) := ⟨_, rfl⟩
  rw [← hf3] at hB
  have hB : bw G.1 ec_cl base f3 (len + 2) H := hB
  have h_o_3 : f3 (o) = .inr (3, [.ref (base + (len)), .null, .int 0]) := by rw [hf3, bu_n _ _ (by omega)]; exact h_o_2
  have h_len_3 : f3 (len) = .inl (G.2 0, 6, .inl (fun _ => 0)) := by rw [hf3, bu_n _ _ (by omega)]; exact h_len_2
  have h_len1_3 : f3 (len + 1) = .inl (G.2 0, 6, .inl (fun _ => 0)) := by rw [hf3, bu_s]
  have hx3 : ∀ x, x < len → x ≠ o → f3 x = f x := fun x z1 z2 => (congrFun hf3 x).trans ((bu_n _ _ (by omega)).trans (hx2 x z1 z2))
  refine W.widen (k := 2) (n := 12) (by omega) (by omega) ?_
  refine bw_putF (D := G.1) (ci := 3) (C := "TwoPhaseCuts$Channel") (T := T_H) (N := 3) (v := .ref (base + (len + 1))) (ty := .array .int) (o := o) hx hb hts ui_H ty_H tyo_H nmo_H hown hK hB hS (by omega) h_o_3 rfl 1 (by decide) (hts _ tw_108) (fun _ h9 => h9) rfl hin rfl (by decide +kernel) rfl rfl (Nat.le_of_ble_eq_true rfl) d_H_init_17 (fun H locs hB hS => ?_)
  have hB : bw G.1 ec_cl base (bu f3 (o) (.inr (3, [.ref (base + (len)), .ref (base + (len + 1)), .int 0]))) (len + 2) H := hB
  obtain ⟨f4, hf4⟩ : ∃ g, g = bu f3 (o) (.inr (3, [.ref (base + (len)), .ref (base + (len + 1)), .int 0])) := ⟨_, rfl⟩
  rw [← hf4] at hB
  have hB : bw G.1 ec_cl base f4 (len + 2) H := hB
  have h_len_4 : f4 (len) = .inl (G.2 0, 6, .inl (fun _ => 0)) := by rw [hf4, bu_n _ _ (by omega)]; exact h_len_3
  have h_len1_4 : f4 (len + 1) = .inl (G.2 0, 6, .inl (fun _ => 0)) := by rw [hf4, bu_n _ _ (by omega)]; exact h_len1_3
  have h_o_4 : f4 (o) = .inr (3, [.ref (base + (len)), .ref (base + (len + 1)), .int 0]) := by rw [hf4, bu_s]
  have hx4 : ∀ x, x < len → x ≠ o → f4 x = f x := fun x z1 z2 => (congrFun hf4 x).trans ((bu_n _ _ (by omega)).trans (hx3 x z1 z2))
  refine W.widen (k := 2) (n := 12) (by omega) (by omega) ?_
  exact W.vret hx hb hr (fun t ht hw => ⟨⟨f4, rfl, ⟨h_o_4, hx4, h_len_4, h_len1_4⟩, by show bw G.1 ec_cl base f4 (len + 2) t.heap; rw [ht]; exact hB⟩, hS.F ht⟩) hS.2.2 d_H_init_20
abbrev rm_M_init : Room := { frames := 2, cells := 10, slots := 44, locals := 41 }
set_option maxHeartbeats 4000000 in
set_option maxRecDepth 100000 in
theorem ci_M (l : Launch) (G : ec_G) (base : Nat) (f : Nat → va_E) (len o : Nat) (n : Nat) (hn2 : 2 ≤ n) (hn5 : n ≤ 5) (ho : o < len) (he : f o = .inr (1, [.null, .null, .null, .int 0, .int 0, .int 0, .int 0, .int 0, .int 0, .null, .int 0, .int 0])) :
    Met l y_M_init (Cond.code y_M_init b_M_init 2 none :: tw_tbl) rm_M_init (va_Pc [.ref (base + o), .int (nI n)] (bp G.1 ec_cl (ec_T G) base f len))
      (va_Qv (fun f' : Nat → va_E => f' o = .inr (1, [.ref (base + (len)), .ref (base + (len + 3)), .ref (base + (len + 6)), .int 0, .int 0, .int 0, .int 0, .int 0, .int 0, .ref (base + (len + 9)), .int 0, .int 0]) ∧ (∀ x, x < len → x ≠ o → f' x = f x) ∧ f' (len) = .inr (2, [.int 0, .ref (base + (len + 1)), .ref (base + (len + 2))]) ∧ f' (len + 1) = .inl (G.2 0, n, .inl (fun _ => 0)) ∧ f' (len + 2) = .inl (G.2 0, n, .inl (fun _ => 0)) ∧ f' (len + 3) = .inr (2, [.int 0, .ref (base + (len + 4)), .ref (base + (len + 5))]) ∧ f' (len + 4) = .inl (G.2 0, n, .inl (fun _ => 0)) ∧ f' (len + 5) = .inl (G.2 0, n, .inl (fun _ => 0)) ∧ f' (len + 6) = .inr (2, [.int 0, .ref (base + (len + 7)), .ref (base + (len + 8))]) ∧ f' (len + 7) = .inl (G.2 0, n, .inl (fun _ => 0)) ∧ f' (len + 8) = .inl (G.2 0, n, .inl (fun _ => 0)) ∧ f' (len + 9) = .inl (G.2 1, n, .inl (fun _ => 0))) (fun f' t => bw G.1 ec_cl base f' (len + 10) t.heap) (fun q => base ≤ q)) 10 44 (fun q => base ≤ q) := by
  refine Met.ofW (cc := b_M_init) (maxL := 2) (ret := none) (by decide) rfl ?_
  intro p e s m args below meth c s₁ B hml hv
  obtain ⟨rfl, hB, hK, hnA, hnB, hO⟩ := hv
  have hx := B.exec
  have hb := B.bytes
  have hr := B.returns
  have hts0 := atoms_spec (ws := Cond.code y_M_init b_M_init 2 none :: tw_tbl) B.pre
  have hts : ∀ w ∈ tw_tbl, w.before [.ref (base + o), .int (nI n)].toArray s = true := fun w h => hts0 w (List.mem_cons_of_mem _ h)
  clear hts0
  have hown : s.vm.findClass "TwoPhaseCuts$Member" = some m.cls := findClass_of_methodNamed B.named
  have hlocks := B.notSynchronized
  have hin : meth.name = "<init>" := (name_of_methodNamed B.named B.method).1
  have hC : CallFix p m c b_M_init 2 s [.ref (base + o), .int (nI n)].toArray tw_tbl "TwoPhaseCuts$Member" := ⟨hx, hb, hml, hown, hts⟩
  have hS : va_S (fun q => base ≤ q) s.heap s.heap [] := va_S.rf
  have hl := lv_entry ([.ref (base + o), .int (nI n)]) (n := 2) (Nat.le_of_ble_eq_true rfl)
  rw [lg_entry_eq]
  generalize (lg_sl ([.ref (base + o), .int (nI n)]) ++ List.replicate (2 - (lg_sl ([.ref (base + o), .int (nI n)])).length) Slot.unset).toArray = ls at hl ⊢
  have hl : lv_has ls 2 [(0, .ref (base + o)), (1, .int (nI n))] := hl
  have hB : bw G.1 ec_cl base f len s.heap := hB
  clear B
  have h_o_0 : f (o) = .inr (1, [.null, .null, .null, .int 0, .int 0, .int 0, .int 0, .int 0, .int 0, .null, .int 0, .int 0]) := he
  have hx0 : ∀ x, x < len → x ≠ o → f x = f x := fun _ _ _ => rfl
  refine lv_aload_n hx hb d_M_init_0 rfl (lv_at hl 0 rfl) ?_
  refine W.objInit hx hb hown (hts _ tw_29) (hts _ tw_15) (hts _ tw_16) rfl (by rw [hml]; exact hl.1) rfl d_M_init_1 (Nat.le_of_ble_eq_true rfl) (Nat.le_of_ble_eq_true rfl) ?_
  refine W.eq (g2 := F0 m 4 ls []) rfl ?_
  refine lv_aload_n hx hb d_M_init_4 rfl (lv_at hl 0 rfl) ?_
  refine bw_new (D := G.1) (ci := 2) (fs := [.int 0, .null, .null]) (C := "TwoPhaseCuts$State") (T := T_S) (N := 3) hx hb hts ui_S ty_S tyo_S hown (hts _ tw_30) (hts _ tw_31) (hts _ tw_4) hK hB hS rfl (fun j hj => by rcases (show j = 0 ∨ j = 1 ∨ j = 2 by omega) with rfl | rfl | rfl <;> rfl) (by show 0 + 1 ≤ 10; omega) (by show 0 + 3 ≤ 44; omega) d_M_init_5 (fun H hB hS => ?_)
  have hB : bw G.1 ec_cl base (bu f (len) (.inr (2, [.int 0, .null, .null]))) (len + 1) H := hB
  obtain ⟨f1, hf1⟩ : ∃ g, g = bu f (len) (.inr (2, [.int 0, .null, .null])) := ⟨_, rfl⟩
  rw [← hf1] at hB
  have hB : bw G.1 ec_cl base f1 (len + 1) H := hB
  have h_o_1 : f1 (o) = .inr (1, [.null, .null, .null, .int 0, .int 0, .int 0, .int 0, .int 0, .int 0, .null, .int 0, .int 0]) := by rw [hf1, bu_n _ _ (by omega)]; exact h_o_0
  have h_len_1 : f1 (len) = .inr (2, [.int 0, .null, .null]) := by rw [hf1, bu_s]
  have hx1 : ∀ x, x < len → x ≠ o → f1 x = f x := fun x z1 z2 => (congrFun hf1 x).trans ((bu_n _ _ (by omega)).trans (hx0 x z1 z2))
  refine W.widen (k := 1) (n := 3) (by omega) (by omega) ?_
  refine lv_dup hx hb d_M_init_8 rfl ?_
  refine lv_iload_n hx hb d_M_init_9 rfl (lv_at hl 1 rfl) ?_
  refine bw_callv (va_runI (As := [.int (nI n)]) (rest := [.ref (base + (len)), .ref (base + (o))]) hC (ci_S l G base f1 (len + 1) (len) n hn2 hn5 (by omega) h_len_1) (cwI 1 hts (tw_gI tw_34) rfl rfl rfl (hts _ tw_4) (hts _ tw_32) (hts _ tw_33) rfl (by decide +kernel) ⟨Nat.le_of_ble_eq_true rfl, Nat.le_of_ble_eq_true rfl⟩) (bp_preS hK hnA hnB hO hB) rfl rfl hl.1 rfl (lv_room (Nat.le_of_ble_eq_true rfl)) d_M_init_10 ⟨(by show 1 + 2 ≤ 10; omega), (by show 3 + 10 ≤ 44; omega)⟩) (fun _ h => h) hS (fun f2 H locs hq hB hS => ?_)
  obtain ⟨hq0, hqx, hq1, hq2⟩ := hq
  have hB : bw G.1 ec_cl base f2 (len + 3) H := hB
  have h_o_2 : f2 (o) = .inr (1, [.null, .null, .null, .int 0, .int 0, .int 0, .int 0, .int 0, .int 0, .null, .int 0, .int 0]) := by rw [hqx _ (by omega) (by omega)]; exact h_o_1
  have h_len_2 : f2 (len) = .inr (2, [.int 0, .ref (base + (len + 1)), .ref (base + (len + 2))]) := hq0
  have h_len1_2 : f2 (len + 1) = .inl (G.2 0, n, .inl (fun _ => 0)) := hq1
  have h_len2_2 : f2 (len + 2) = .inl (G.2 0, n, .inl (fun _ => 0)) := hq2
  have hx2 : ∀ x, x < len → x ≠ o → f2 x = f x := fun x z1 z2 => (hqx x (by omega) (by omega)).trans (hx1 x z1 z2)
  refine W.widen (k := 3) (n := 13) (by omega) (by omega) ?_
  refine bw_putF (D := G.1) (ci := 1) (C := "TwoPhaseCuts$Member") (T := T_M) (N := 12) (v := .ref (base + (len))) (ty := .object "TwoPhaseCuts$State") (o := o) hx hb hts ui_M ty_M tyo_M nmo_M hown hK hB hS (by omega) h_o_2 rfl 0 (by decide) (hts _ tw_52) (fun _ h9 => h9) rfl hin rfl (by decide +kernel) rfl rfl (Nat.le_of_ble_eq_true rfl) d_M_init_13 (fun H locs hB hS => ?_)
  have hB : bw G.1 ec_cl base (bu f2 (o) (.inr (1, [.ref (base + (len)), .null, .null, .int 0, .int 0, .int 0, .int 0, .int 0, .int 0, .null, .int 0, .int 0]))) (len + 3) H := hB
  obtain ⟨f3, hf3⟩ : ∃ g, g = bu f2 (o) (.inr (1, [.ref (base + (len)), .null, .null, .int 0, .int 0, .int 0, .int 0, .int 0, .int 0, .null, .int 0, .int 0])) := ⟨_, rfl⟩
  rw [← hf3] at hB
  have hB : bw G.1 ec_cl base f3 (len + 3) H := hB
  have h_len_3 : f3 (len) = .inr (2, [.int 0, .ref (base + (len + 1)), .ref (base + (len + 2))]) := by rw [hf3, bu_n _ _ (by omega)]; exact h_len_2
  have h_len1_3 : f3 (len + 1) = .inl (G.2 0, n, .inl (fun _ => 0)) := by rw [hf3, bu_n _ _ (by omega)]; exact h_len1_2
  have h_len2_3 : f3 (len + 2) = .inl (G.2 0, n, .inl (fun _ => 0)) := by rw [hf3, bu_n _ _ (by omega)]; exact h_len2_2
  have h_o_3 : f3 (o) = .inr (1, [.ref (base + (len)), .null, .null, .int 0, .int 0, .int 0, .int 0, .int 0, .int 0, .null, .int 0, .int 0]) := by rw [hf3, bu_s]
  have hx3 : ∀ x, x < len → x ≠ o → f3 x = f x := fun x z1 z2 => (congrFun hf3 x).trans ((bu_n _ _ (by omega)).trans (hx2 x z1 z2))
  refine lv_aload_n hx hb d_M_init_16 rfl (lv_at hl 0 rfl) ?_
  refine bw_new (D := G.1) (ci := 2) (fs := [.int 0, .null, .null]) (C := "TwoPhaseCuts$State") (T := T_S) (N := 3) hx hb hts ui_S ty_S tyo_S hown (hts _ tw_30) (hts _ tw_31) (hts _ tw_4) hK hB hS rfl (fun j hj => by rcases (show j = 0 ∨ j = 1 ∨ j = 2 by omega) with rfl | rfl | rfl <;> rfl) (by show 3 + 1 ≤ 10; omega) (by show 13 + 3 ≤ 44; omega) d_M_init_17 (fun H hB hS => ?_)
  have hB : bw G.1 ec_cl base (bu f3 (len + 3) (.inr (2, [.int 0, .null, .null]))) (len + 4) H := hB
  obtain ⟨f4, hf4⟩ : ∃ g, g = bu f3 (len + 3) (.inr (2, [.int 0, .null, .null])) := ⟨_, rfl⟩
  rw [← hf4] at hB
  have hB : bw G.1 ec_cl base f4 (len + 4) H := hB
  have h_o_4 : f4 (o) = .inr (1, [.ref (base + (len)), .null, .null, .int 0, .int 0, .int 0, .int 0, .int 0, .int 0, .null, .int 0, .int 0]) := by rw [hf4, bu_n _ _ (by omega)]; exact h_o_3
  have h_len_4 : f4 (len) = .inr (2, [.int 0, .ref (base + (len + 1)), .ref (base + (len + 2))]) := by rw [hf4, bu_n _ _ (by omega)]; exact h_len_3
  have h_len1_4 : f4 (len + 1) = .inl (G.2 0, n, .inl (fun _ => 0)) := by rw [hf4, bu_n _ _ (by omega)]; exact h_len1_3
  have h_len2_4 : f4 (len + 2) = .inl (G.2 0, n, .inl (fun _ => 0)) := by rw [hf4, bu_n _ _ (by omega)]; exact h_len2_3
  have h_len3_4 : f4 (len + 3) = .inr (2, [.int 0, .null, .null]) := by rw [hf4, bu_s]
  have hx4 : ∀ x, x < len → x ≠ o → f4 x = f x := fun x z1 z2 => (congrFun hf4 x).trans ((bu_n _ _ (by omega)).trans (hx3 x z1 z2))
  refine W.widen (k := 4) (n := 16) (by omega) (by omega) ?_
  refine lv_dup hx hb d_M_init_20 rfl ?_
  refine lv_iload_n hx hb d_M_init_21 rfl (lv_at hl 1 rfl) ?_
  refine bw_callv (va_runI (As := [.int (nI n)]) (rest := [.ref (base + (len + 3)), .ref (base + (o))]) hC (ci_S l G base f4 (len + 4) (len + 3) n hn2 hn5 (by omega) h_len3_4) (cwI 1 hts (tw_gI tw_34) rfl rfl rfl (hts _ tw_4) (hts _ tw_32) (hts _ tw_33) rfl (by decide +kernel) ⟨Nat.le_of_ble_eq_true rfl, Nat.le_of_ble_eq_true rfl⟩) (bp_preS hK hnA hnB hO hB) rfl rfl hl.1 rfl (lv_room (Nat.le_of_ble_eq_true rfl)) d_M_init_22 ⟨(by show 4 + 2 ≤ 10; omega), (by show 16 + 10 ≤ 44; omega)⟩) (fun _ h => h) hS (fun f5 H locs hq hB hS => ?_)
  obtain ⟨hq0, hqx, hq1, hq2⟩ := hq
  have hB : bw G.1 ec_cl base f5 (len + 6) H := hB
  have h_o_5 : f5 (o) = .inr (1, [.ref (base + (len)), .null, .null, .int 0, .int 0, .int 0, .int 0, .int 0, .int 0, .null, .int 0, .int 0]) := by rw [hqx _ (by omega) (by omega)]; exact h_o_4
  have h_len_5 : f5 (len) = .inr (2, [.int 0, .ref (base + (len + 1)), .ref (base + (len + 2))]) := by rw [hqx _ (by omega) (by omega)]; exact h_len_4
  have h_len1_5 : f5 (len + 1) = .inl (G.2 0, n, .inl (fun _ => 0)) := by rw [hqx _ (by omega) (by omega)]; exact h_len1_4
  have h_len2_5 : f5 (len + 2) = .inl (G.2 0, n, .inl (fun _ => 0)) := by rw [hqx _ (by omega) (by omega)]; exact h_len2_4
  have h_len3_5 : f5 (len + 3) = .inr (2, [.int 0, .ref (base + (len + 4)), .ref (base + (len + 5))]) := hq0
  have h_len4_5 : f5 (len + 4) = .inl (G.2 0, n, .inl (fun _ => 0)) := hq1
  have h_len5_5 : f5 (len + 5) = .inl (G.2 0, n, .inl (fun _ => 0)) := hq2
  have hx5 : ∀ x, x < len → x ≠ o → f5 x = f x := fun x z1 z2 => (hqx x (by omega) (by omega)).trans (hx4 x z1 z2)
  refine W.widen (k := 6) (n := 26) (by omega) (by omega) ?_
  refine bw_putF (D := G.1) (ci := 1) (C := "TwoPhaseCuts$Member") (T := T_M) (N := 12) (v := .ref (base + (len + 3))) (ty := .object "TwoPhaseCuts$State") (o := o) hx hb hts ui_M ty_M tyo_M nmo_M hown hK hB hS (by omega) h_o_5 rfl 1 (by decide) (hts _ tw_54) (fun _ h9 => h9) rfl hin rfl (by decide +kernel) rfl rfl (Nat.le_of_ble_eq_true rfl) d_M_init_25 (fun H locs hB hS => ?_)
  have hB : bw G.1 ec_cl base (bu f5 (o) (.inr (1, [.ref (base + (len)), .ref (base + (len + 3)), .null, .int 0, .int 0, .int 0, .int 0, .int 0, .int 0, .null, .int 0, .int 0]))) (len + 6) H := hB
  obtain ⟨f6, hf6⟩ : ∃ g, g = bu f5 (o) (.inr (1, [.ref (base + (len)), .ref (base + (len + 3)), .null, .int 0, .int 0, .int 0, .int 0, .int 0, .int 0, .null, .int 0, .int 0])) := ⟨_, rfl⟩
  rw [← hf6] at hB
  have hB : bw G.1 ec_cl base f6 (len + 6) H := hB
  have h_len_6 : f6 (len) = .inr (2, [.int 0, .ref (base + (len + 1)), .ref (base + (len + 2))]) := by rw [hf6, bu_n _ _ (by omega)]; exact h_len_5
  have h_len1_6 : f6 (len + 1) = .inl (G.2 0, n, .inl (fun _ => 0)) := by rw [hf6, bu_n _ _ (by omega)]; exact h_len1_5
  have h_len2_6 : f6 (len + 2) = .inl (G.2 0, n, .inl (fun _ => 0)) := by rw [hf6, bu_n _ _ (by omega)]; exact h_len2_5
  have h_len3_6 : f6 (len + 3) = .inr (2, [.int 0, .ref (base + (len + 4)), .ref (base + (len + 5))]) := by rw [hf6, bu_n _ _ (by omega)]; exact h_len3_5
  have h_len4_6 : f6 (len + 4) = .inl (G.2 0, n, .inl (fun _ => 0)) := by rw [hf6, bu_n _ _ (by omega)]; exact h_len4_5
  have h_len5_6 : f6 (len + 5) = .inl (G.2 0, n, .inl (fun _ => 0)) := by rw [hf6, bu_n _ _ (by omega)]; exact h_len5_5
  have h_o_6 : f6 (o) = .inr (1, [.ref (base + (len)), .ref (base + (len + 3)), .null, .int 0, .int 0, .int 0, .int 0, .int 0, .int 0, .null, .int 0, .int 0]) := by rw [hf6, bu_s]
  have hx6 : ∀ x, x < len → x ≠ o → f6 x = f x := fun x z1 z2 => (congrFun hf6 x).trans ((bu_n _ _ (by omega)).trans (hx5 x z1 z2))
  refine lv_aload_n hx hb d_M_init_28 rfl (lv_at hl 0 rfl) ?_
  refine bw_new (D := G.1) (ci := 2) (fs := [.int 0, .null, .null]) (C := "TwoPhaseCuts$State") (T := T_S) (N := 3) hx hb hts ui_S ty_S tyo_S hown (hts _ tw_30) (hts _ tw_31) (hts _ tw_4) hK hB hS rfl (fun j hj => by rcases (show j = 0 ∨ j = 1 ∨ j = 2 by omega) with rfl | rfl | rfl <;> rfl) (by show 6 + 1 ≤ 10; omega) (by show 26 + 3 ≤ 44; omega) d_M_init_29 (fun H hB hS => ?_)
  have hB : bw G.1 ec_cl base (bu f6 (len + 6) (.inr (2, [.int 0, .null, .null]))) (len + 7) H := hB
  obtain ⟨f7, hf7⟩ : ∃ g, g = bu f6 (len + 6) (.inr (2, [.int 0, .null, .null])) := ⟨_, rfl⟩
  rw [← hf7] at hB
  have hB : bw G.1 ec_cl base f7 (len + 7) H := hB
  have h_o_7 : f7 (o) = .inr (1, [.ref (base + (len)), .ref (base + (len + 3)), .null, .int 0, .int 0, .int 0, .int 0, .int 0, .int 0, .null, .int 0, .int 0]) := by rw [hf7, bu_n _ _ (by omega)]; exact h_o_6
  have h_len_7 : f7 (len) = .inr (2, [.int 0, .ref (base + (len + 1)), .ref (base + (len + 2))]) := by rw [hf7, bu_n _ _ (by omega)]; exact h_len_6
  have h_len1_7 : f7 (len + 1) = .inl (G.2 0, n, .inl (fun _ => 0)) := by rw [hf7, bu_n _ _ (by omega)]; exact h_len1_6
  have h_len2_7 : f7 (len + 2) = .inl (G.2 0, n, .inl (fun _ => 0)) := by rw [hf7, bu_n _ _ (by omega)]; exact h_len2_6
  have h_len3_7 : f7 (len + 3) = .inr (2, [.int 0, .ref (base + (len + 4)), .ref (base + (len + 5))]) := by rw [hf7, bu_n _ _ (by omega)]; exact h_len3_6
  have h_len4_7 : f7 (len + 4) = .inl (G.2 0, n, .inl (fun _ => 0)) := by rw [hf7, bu_n _ _ (by omega)]; exact h_len4_6
  have h_len5_7 : f7 (len + 5) = .inl (G.2 0, n, .inl (fun _ => 0)) := by rw [hf7, bu_n _ _ (by omega)]; exact h_len5_6
  have h_len6_7 : f7 (len + 6) = .inr (2, [.int 0, .null, .null]) := by rw [hf7, bu_s]
  have hx7 : ∀ x, x < len → x ≠ o → f7 x = f x := fun x z1 z2 => (congrFun hf7 x).trans ((bu_n _ _ (by omega)).trans (hx6 x z1 z2))
  refine W.widen (k := 7) (n := 29) (by omega) (by omega) ?_
  refine lv_dup hx hb d_M_init_32 rfl ?_
  refine lv_iload_n hx hb d_M_init_33 rfl (lv_at hl 1 rfl) ?_
  refine bw_callv (va_runI (As := [.int (nI n)]) (rest := [.ref (base + (len + 6)), .ref (base + (o))]) hC (ci_S l G base f7 (len + 7) (len + 6) n hn2 hn5 (by omega) h_len6_7) (cwI 1 hts (tw_gI tw_34) rfl rfl rfl (hts _ tw_4) (hts _ tw_32) (hts _ tw_33) rfl (by decide +kernel) ⟨Nat.le_of_ble_eq_true rfl, Nat.le_of_ble_eq_true rfl⟩) (bp_preS hK hnA hnB hO hB) rfl rfl hl.1 rfl (lv_room (Nat.le_of_ble_eq_true rfl)) d_M_init_34 ⟨(by show 7 + 2 ≤ 10; omega), (by show 29 + 10 ≤ 44; omega)⟩) (fun _ h => h) hS (fun f8 H locs hq hB hS => ?_)
  obtain ⟨hq0, hqx, hq1, hq2⟩ := hq
  have hB : bw G.1 ec_cl base f8 (len + 9) H := hB
  have h_o_8 : f8 (o) = .inr (1, [.ref (base + (len)), .ref (base + (len + 3)), .null, .int 0, .int 0, .int 0, .int 0, .int 0, .int 0, .null, .int 0, .int 0]) := by rw [hqx _ (by omega) (by omega)]; exact h_o_7
  have h_len_8 : f8 (len) = .inr (2, [.int 0, .ref (base + (len + 1)), .ref (base + (len + 2))]) := by rw [hqx _ (by omega) (by omega)]; exact h_len_7
  have h_len1_8 : f8 (len + 1) = .inl (G.2 0, n, .inl (fun _ => 0)) := by rw [hqx _ (by omega) (by omega)]; exact h_len1_7
  have h_len2_8 : f8 (len + 2) = .inl (G.2 0, n, .inl (fun _ => 0)) := by rw [hqx _ (by omega) (by omega)]; exact h_len2_7
  have h_len3_8 : f8 (len + 3) = .inr (2, [.int 0, .ref (base + (len + 4)), .ref (base + (len + 5))]) := by rw [hqx _ (by omega) (by omega)]; exact h_len3_7
  have h_len4_8 : f8 (len + 4) = .inl (G.2 0, n, .inl (fun _ => 0)) := by rw [hqx _ (by omega) (by omega)]; exact h_len4_7
  have h_len5_8 : f8 (len + 5) = .inl (G.2 0, n, .inl (fun _ => 0)) := by rw [hqx _ (by omega) (by omega)]; exact h_len5_7
  have h_len6_8 : f8 (len + 6) = .inr (2, [.int 0, .ref (base + (len + 7)), .ref (base + (len + 8))]) := hq0
  have h_len7_8 : f8 (len + 7) = .inl (G.2 0, n, .inl (fun _ => 0)) := hq1
  have h_len8_8 : f8 (len + 8) = .inl (G.2 0, n, .inl (fun _ => 0)) := hq2
  have hx8 : ∀ x, x < len → x ≠ o → f8 x = f x := fun x z1 z2 => (hqx x (by omega) (by omega)).trans (hx7 x z1 z2)
  refine W.widen (k := 9) (n := 39) (by omega) (by omega) ?_
  refine bw_putF (D := G.1) (ci := 1) (C := "TwoPhaseCuts$Member") (T := T_M) (N := 12) (v := .ref (base + (len + 6))) (ty := .object "TwoPhaseCuts$State") (o := o) hx hb hts ui_M ty_M tyo_M nmo_M hown hK hB hS (by omega) h_o_8 rfl 2 (by decide) (hts _ tw_56) (fun _ h9 => h9) rfl hin rfl (by decide +kernel) rfl rfl (Nat.le_of_ble_eq_true rfl) d_M_init_37 (fun H locs hB hS => ?_)
  have hB : bw G.1 ec_cl base (bu f8 (o) (.inr (1, [.ref (base + (len)), .ref (base + (len + 3)), .ref (base + (len + 6)), .int 0, .int 0, .int 0, .int 0, .int 0, .int 0, .null, .int 0, .int 0]))) (len + 9) H := hB
  obtain ⟨f9, hf9⟩ : ∃ g, g = bu f8 (o) (.inr (1, [.ref (base + (len)), .ref (base + (len + 3)), .ref (base + (len + 6)), .int 0, .int 0, .int 0, .int 0, .int 0, .int 0, .null, .int 0, .int 0])) := ⟨_, rfl⟩
  rw [← hf9] at hB
  have hB : bw G.1 ec_cl base f9 (len + 9) H := hB
  have h_len_9 : f9 (len) = .inr (2, [.int 0, .ref (base + (len + 1)), .ref (base + (len + 2))]) := by rw [hf9, bu_n _ _ (by omega)]; exact h_len_8
  have h_len1_9 : f9 (len + 1) = .inl (G.2 0, n, .inl (fun _ => 0)) := by rw [hf9, bu_n _ _ (by omega)]; exact h_len1_8
  have h_len2_9 : f9 (len + 2) = .inl (G.2 0, n, .inl (fun _ => 0)) := by rw [hf9, bu_n _ _ (by omega)]; exact h_len2_8
  have h_len3_9 : f9 (len + 3) = .inr (2, [.int 0, .ref (base + (len + 4)), .ref (base + (len + 5))]) := by rw [hf9, bu_n _ _ (by omega)]; exact h_len3_8
  have h_len4_9 : f9 (len + 4) = .inl (G.2 0, n, .inl (fun _ => 0)) := by rw [hf9, bu_n _ _ (by omega)]; exact h_len4_8
  have h_len5_9 : f9 (len + 5) = .inl (G.2 0, n, .inl (fun _ => 0)) := by rw [hf9, bu_n _ _ (by omega)]; exact h_len5_8
  have h_len6_9 : f9 (len + 6) = .inr (2, [.int 0, .ref (base + (len + 7)), .ref (base + (len + 8))]) := by rw [hf9, bu_n _ _ (by omega)]; exact h_len6_8
  have h_len7_9 : f9 (len + 7) = .inl (G.2 0, n, .inl (fun _ => 0)) := by rw [hf9, bu_n _ _ (by omega)]; exact h_len7_8
  have h_len8_9 : f9 (len + 8) = .inl (G.2 0, n, .inl (fun _ => 0)) := by rw [hf9, bu_n _ _ (by omega)]; exact h_len8_8
  have h_o_9 : f9 (o) = .inr (1, [.ref (base + (len)), .ref (base + (len + 3)), .ref (base + (len + 6)), .int 0, .int 0, .int 0, .int 0, .int 0, .int 0, .null, .int 0, .int 0]) := by rw [hf9, bu_s]
  have hx9 : ∀ x, x < len → x ≠ o → f9 x = f x := fun x z1 z2 => (congrFun hf9 x).trans ((bu_n _ _ (by omega)).trans (hx8 x z1 z2))
  refine lv_aload_n hx hb d_M_init_40 rfl (lv_at hl 0 rfl) ?_
  refine lv_iload_n hx hb d_M_init_41 rfl (lv_at hl 1 rfl) ?_
  refine bw_newa (D := G.1) (N' := n) (atype := .boolean) (ty := .boolean) hx hb (hts _ tw_98) rfl rfl hK 1 rfl (fun h => h) hB hS (nI_pos (by omega)) (nI_clamp (by omega)) (by show n * 1 ≤ 536870912; omega) (by show 9 + 1 ≤ 10; omega) (by show 39 + n ≤ 44; omega) d_M_init_42 (fun H hB hS => ?_)
  have hB : bw G.1 ec_cl base (bu f9 (len + 9) (.inl (G.2 1, n, .inl (fun _ => 0)))) (len + 10) H := hB
  obtain ⟨f10, hf10⟩ : ∃ g, g = bu f9 (len + 9) (.inl (G.2 1, n, .inl (fun _ => 0))) := ⟨_, rfl⟩
  rw [← hf10] at hB
  have hB : bw G.1 ec_cl base f10 (len + 10) H := hB
  have h_o_10 : f10 (o) = .inr (1, [.ref (base + (len)), .ref (base + (len + 3)), .ref (base + (len + 6)), .int 0, .int 0, .int 0, .int 0, .int 0, .int 0, .null, .int 0, .int 0]) := by rw [hf10, bu_n _ _ (by omega)]; exact h_o_9
  have h_len_10 : f10 (len) = .inr (2, [.int 0, .ref (base + (len + 1)), .ref (base + (len + 2))]) := by rw [hf10, bu_n _ _ (by omega)]; exact h_len_9
  have h_len1_10 : f10 (len + 1) = .inl (G.2 0, n, .inl (fun _ => 0)) := by rw [hf10, bu_n _ _ (by omega)]; exact h_len1_9
  have h_len2_10 : f10 (len + 2) = .inl (G.2 0, n, .inl (fun _ => 0)) := by rw [hf10, bu_n _ _ (by omega)]; exact h_len2_9
  have h_len3_10 : f10 (len + 3) = .inr (2, [.int 0, .ref (base + (len + 4)), .ref (base + (len + 5))]) := by rw [hf10, bu_n _ _ (by omega)]; exact h_len3_9
  have h_len4_10 : f10 (len + 4) = .inl (G.2 0, n, .inl (fun _ => 0)) := by rw [hf10, bu_n _ _ (by omega)]; exact h_len4_9
  have h_len5_10 : f10 (len + 5) = .inl (G.2 0, n, .inl (fun _ => 0)) := by rw [hf10, bu_n _ _ (by omega)]; exact h_len5_9
  have h_len6_10 : f10 (len + 6) = .inr (2, [.int 0, .ref (base + (len + 7)), .ref (base + (len + 8))]) := by rw [hf10, bu_n _ _ (by omega)]; exact h_len6_9
  have h_len7_10 : f10 (len + 7) = .inl (G.2 0, n, .inl (fun _ => 0)) := by rw [hf10, bu_n _ _ (by omega)]; exact h_len7_9
  have h_len8_10 : f10 (len + 8) = .inl (G.2 0, n, .inl (fun _ => 0)) := by rw [hf10, bu_n _ _ (by omega)]; exact h_len8_9
  have h_len9_10 : f10 (len + 9) = .inl (G.2 1, n, .inl (fun _ => 0)) := by rw [hf10, bu_s]
  have hx10 : ∀ x, x < len → x ≠ o → f10 x = f x := fun x z1 z2 => (congrFun hf10 x).trans ((bu_n _ _ (by omega)).trans (hx9 x z1 z2))
  refine W.widen (k := 10) (n := 44) (by omega) (by omega) ?_
  refine bw_putF (D := G.1) (ci := 1) (C := "TwoPhaseCuts$Member") (T := T_M) (N := 12) (v := .ref (base + (len + 9))) (ty := .array .boolean) (o := o) hx hb hts ui_M ty_M tyo_M nmo_M hown hK hB hS (by omega) h_o_10 rfl 9 (by decide) (hts _ tw_67) (fun _ h9 => h9) rfl hin rfl (by decide +kernel) rfl rfl (Nat.le_of_ble_eq_true rfl) d_M_init_44 (fun H locs hB hS => ?_)
  have hB : bw G.1 ec_cl base (bu f10 (o) (.inr (1, [.ref (base + (len)), .ref (base + (len + 3)), .ref (base + (len + 6)), .int 0, .int 0, .int 0, .int 0, .int 0, .int 0, .ref (base + (len + 9)), .int 0, .int 0]))) (len + 10) H := hB
  obtain ⟨f11, hf11⟩ : ∃ g, g = bu f10 (o) (.inr (1, [.ref (base + (len)), .ref (base + (len + 3)), .ref (base + (len + 6)), .int 0, .int 0, .int 0, .int 0, .int 0, .int 0, .ref (base + (len + 9)), .int 0, .int 0])) := ⟨_, rfl⟩
  rw [← hf11] at hB
  have hB : bw G.1 ec_cl base f11 (len + 10) H := hB
  have h_len_11 : f11 (len) = .inr (2, [.int 0, .ref (base + (len + 1)), .ref (base + (len + 2))]) := by rw [hf11, bu_n _ _ (by omega)]; exact h_len_10
  have h_len1_11 : f11 (len + 1) = .inl (G.2 0, n, .inl (fun _ => 0)) := by rw [hf11, bu_n _ _ (by omega)]; exact h_len1_10
  have h_len2_11 : f11 (len + 2) = .inl (G.2 0, n, .inl (fun _ => 0)) := by rw [hf11, bu_n _ _ (by omega)]; exact h_len2_10
  have h_len3_11 : f11 (len + 3) = .inr (2, [.int 0, .ref (base + (len + 4)), .ref (base + (len + 5))]) := by rw [hf11, bu_n _ _ (by omega)]; exact h_len3_10
  have h_len4_11 : f11 (len + 4) = .inl (G.2 0, n, .inl (fun _ => 0)) := by rw [hf11, bu_n _ _ (by omega)]; exact h_len4_10
  have h_len5_11 : f11 (len + 5) = .inl (G.2 0, n, .inl (fun _ => 0)) := by rw [hf11, bu_n _ _ (by omega)]; exact h_len5_10
  have h_len6_11 : f11 (len + 6) = .inr (2, [.int 0, .ref (base + (len + 7)), .ref (base + (len + 8))]) := by rw [hf11, bu_n _ _ (by omega)]; exact h_len6_10
  have h_len7_11 : f11 (len + 7) = .inl (G.2 0, n, .inl (fun _ => 0)) := by rw [hf11, bu_n _ _ (by omega)]; exact h_len7_10
  have h_len8_11 : f11 (len + 8) = .inl (G.2 0, n, .inl (fun _ => 0)) := by rw [hf11, bu_n _ _ (by omega)]; exact h_len8_10
  have h_len9_11 : f11 (len + 9) = .inl (G.2 1, n, .inl (fun _ => 0)) := by rw [hf11, bu_n _ _ (by omega)]; exact h_len9_10
  have h_o_11 : f11 (o) = .inr (1, [.ref (base + (len)), .ref (base + (len + 3)), .ref (base + (len + 6)), .int 0, .int 0, .int 0, .int 0, .int 0, .int 0, .ref (base + (len + 9)), .int 0, .int 0]) := by rw [hf11, bu_s]
  have hx11 : ∀ x, x < len → x ≠ o → f11 x = f x := fun x z1 z2 => (congrFun hf11 x).trans ((bu_n _ _ (by omega)).trans (hx10 x z1 z2))
  refine W.widen (k := 10) (n := 44) (by omega) (by omega) ?_
  exact W.vret hx hb hr (fun t ht hw => ⟨⟨f11, rfl, ⟨h_o_11, hx11, h_len_11, h_len1_11, h_len2_11, h_len3_11, h_len4_11, h_len5_11, h_len6_11, h_len7_11, h_len8_11, h_len9_11⟩, by show bw G.1 ec_cl base f11 (len + 10) t.heap; rw [ht]; exact hB⟩, hS.F ht⟩) hS.2.2 d_M_init_47
