theorem d_G_writeConstant_6 : decode b_G_writeConstant 6 = .ok (.astore_n 2, 1) := by decide +kernel
theorem d_G_writeConstant_7 : decode b_G_writeConstant 7 = .ok (.aload_n 0, 1) := by decide +kernel
theorem d_G_writeConstant_8 : decode b_G_writeConstant 8 = .ok (.getfield 24, 3) := by decide +kernel
theorem d_G_writeConstant_11 : decode b_G_writeConstant 11 = .ok (.ldc2_w 261, 3) := by decide +kernel
theorem d_G_writeConstant_14 : decode b_G_writeConstant 14 = .ok (.iconst 1, 1) := by decide +kernel
theorem d_G_writeConstant_15 : decode b_G_writeConstant 15 = .ok (.invokevirtual 33, 3) := by decide +kernel
theorem d_G_writeConstant_18 : decode b_G_writeConstant 18 = .ok (.aload_n 0, 1) := by decide +kernel
theorem d_G_writeConstant_19 : decode b_G_writeConstant 19 = .ok (.aload_n 0, 1) := by decide +kernel
theorem d_G_writeConstant_20 : decode b_G_writeConstant 20 = .ok (.getfield 11, 3) := by decide +kernel
theorem d_G_writeConstant_23 : decode b_G_writeConstant 23 = .ok (.aload_n 2, 1) := by decide +kernel
theorem d_G_writeConstant_24 : decode b_G_writeConstant 24 = .ok (.getfield 177, 3) := by decide +kernel
theorem d_G_writeConstant_27 : decode b_G_writeConstant 27 = .ok (.aaload, 1) := by decide +kernel
theorem d_G_writeConstant_28 : decode b_G_writeConstant 28 = .ok (.invokevirtual 263, 3) := by decide +kernel
theorem d_G_writeConstant_31 : decode b_G_writeConstant 31 = .ok (.aload_n 0, 1) := by decide +kernel
theorem d_G_writeConstant_32 : decode b_G_writeConstant 32 = .ok (.getfield 24, 3) := by decide +kernel
theorem d_G_writeConstant_35 : decode b_G_writeConstant 35 = .ok (.iload_n 1, 1) := by decide +kernel
theorem d_G_writeConstant_36 : decode b_G_writeConstant 36 = .ok (.invokevirtual 254, 3) := by decide +kernel
theorem d_G_writeConstant_39 : decode b_G_writeConstant 39 = .ok (.aload_n 0, 1) := by decide +kernel
theorem d_G_writeConstant_40 : decode b_G_writeConstant 40 = .ok (.getfield 24, 3) := by decide +kernel
theorem d_G_writeConstant_43 : decode b_G_writeConstant 43 = .ok (.bipush 12, 2) := by decide +kernel
theorem d_G_writeConstant_45 : decode b_G_writeConstant 45 = .ok (.iload_n 1, 1) := by decide +kernel
theorem d_G_writeConstant_46 : decode b_G_writeConstant 46 = .ok (.iadd, 1) := by decide +kernel
theorem d_G_writeConstant_47 : decode b_G_writeConstant 47 = .ok (.invokevirtual 221, 3) := by decide +kernel
theorem d_G_writeConstant_50 : decode b_G_writeConstant 50 = .ok (.ifCond .ne 18, 3) := by decide +kernel
theorem d_G_writeConstant_53 : decode b_G_writeConstant 53 = .ok (.aload_n 0, 1) := by decide +kernel
theorem d_G_writeConstant_54 : decode b_G_writeConstant 54 = .ok (.getfield 24, 3) := by decide +kernel
theorem d_G_writeConstant_57 : decode b_G_writeConstant 57 = .ok (.bipush 12, 2) := by decide +kernel
theorem d_G_writeConstant_59 : decode b_G_writeConstant 59 = .ok (.iload_n 1, 1) := by decide +kernel
theorem d_G_writeConstant_60 : decode b_G_writeConstant 60 = .ok (.iadd, 1) := by decide +kernel
theorem d_G_writeConstant_61 : decode b_G_writeConstant 61 = .ok (.aload_n 2, 1) := by decide +kernel
theorem d_G_writeConstant_62 : decode b_G_writeConstant 62 = .ok (.getfield 180, 3) := by decide +kernel
theorem d_G_writeConstant_65 : decode b_G_writeConstant 65 = .ok (.invokevirtual 224, 3) := by decide +kernel
theorem d_G_writeConstant_68 : decode b_G_writeConstant 68 = .ok (.return_, 1) := by decide +kernel
theorem d_G_writeDescriptor_0 : decode b_G_writeDescriptor 0 = .ok (.aload_n 1, 1) := by decide +kernel
theorem d_G_writeDescriptor_1 : decode b_G_writeDescriptor 1 = .ok (.getfield 73, 3) := by decide +kernel
theorem d_G_writeDescriptor_4 : decode b_G_writeDescriptor 4 = .ok (.arraylength, 1) := by decide +kernel
theorem d_G_writeDescriptor_5 : decode b_G_writeDescriptor 5 = .ok (.iconst 1, 1) := by decide +kernel
theorem d_G_writeDescriptor_6 : decode b_G_writeDescriptor 6 = .ok (.isub, 1) := by decide +kernel
theorem d_G_writeDescriptor_7 : decode b_G_writeDescriptor 7 = .ok (.istore_n 2, 1) := by decide +kernel
theorem d_G_writeDescriptor_8 : decode b_G_writeDescriptor 8 = .ok (.iload_n 2, 1) := by decide +kernel
theorem d_G_writeDescriptor_9 : decode b_G_writeDescriptor 9 = .ok (.ifCond .lt 210, 3) := by decide +kernel
theorem d_G_writeDescriptor_12 : decode b_G_writeDescriptor 12 = .ok (.aload_n 0, 1) := by decide +kernel
theorem d_G_writeDescriptor_13 : decode b_G_writeDescriptor 13 = .ok (.getfield 11, 3) := by decide +kernel
theorem d_G_writeDescriptor_16 : decode b_G_writeDescriptor 16 = .ok (.aload_n 1, 1) := by decide +kernel
theorem d_G_writeDescriptor_17 : decode b_G_writeDescriptor 17 = .ok (.getfield 73, 3) := by decide +kernel
theorem d_G_writeDescriptor_20 : decode b_G_writeDescriptor 20 = .ok (.iload_n 2, 1) := by decide +kernel
theorem d_G_writeDescriptor_21 : decode b_G_writeDescriptor 21 = .ok (.iaload, 1) := by decide +kernel
theorem d_G_writeDescriptor_22 : decode b_G_writeDescriptor 22 = .ok (.aaload, 1) := by decide +kernel
theorem d_G_writeDescriptor_23 : decode b_G_writeDescriptor 23 = .ok (.astore_n 3, 1) := by decide +kernel
theorem d_G_writeDescriptor_24 : decode b_G_writeDescriptor 24 = .ok (.aload_n 3, 1) := by decide +kernel
theorem d_G_writeDescriptor_25 : decode b_G_writeDescriptor 25 = .ok (.getfield 52, 3) := by decide +kernel
theorem d_G_writeDescriptor_28 : decode b_G_writeDescriptor 28 = .ok (.ifCond .ne 6, 3) := by decide +kernel
theorem d_G_writeDescriptor_31 : decode b_G_writeDescriptor 31 = .ok (.goto 188, 3) := by decide +kernel
theorem d_G_writeDescriptor_34 : decode b_G_writeDescriptor 34 = .ok (.aload_n 0, 1) := by decide +kernel
theorem d_G_writeDescriptor_35 : decode b_G_writeDescriptor 35 = .ok (.getfield 24, 3) := by decide +kernel
theorem d_G_writeDescriptor_38 : decode b_G_writeDescriptor 38 = .ok (.bipush 24, 2) := by decide +kernel
theorem d_G_writeDescriptor_40 : decode b_G_writeDescriptor 40 = .ok (.aload_n 3, 1) := by decide +kernel
theorem d_G_writeDescriptor_41 : decode b_G_writeDescriptor 41 = .ok (.getfield 293, 3) := by decide +kernel
theorem d_G_writeDescriptor_44 : decode b_G_writeDescriptor 44 = .ok (.iadd, 1) := by decide +kernel
theorem d_G_writeDescriptor_45 : decode b_G_writeDescriptor 45 = .ok (.aload_n 3, 1) := by decide +kernel
theorem d_G_writeDescriptor_46 : decode b_G_writeDescriptor 46 = .ok (.getfield 267, 3) := by decide +kernel
theorem d_G_writeDescriptor_49 : decode b_G_writeDescriptor 49 = .ok (.aload_n 3, 1) := by decide +kernel
theorem d_G_writeDescriptor_50 : decode b_G_writeDescriptor 50 = .ok (.getfield 298, 3) := by decide +kernel
theorem d_G_writeDescriptor_53 : decode b_G_writeDescriptor 53 = .ok (.aload_n 3, 1) := by decide +kernel
theorem d_G_writeDescriptor_54 : decode b_G_writeDescriptor 54 = .ok (.invokevirtual 302, 3) := by decide +kernel
theorem d_G_writeDescriptor_57 : decode b_G_writeDescriptor 57 = .ok (.aload_n 3, 1) := by decide +kernel
theorem d_G_writeDescriptor_58 : decode b_G_writeDescriptor 58 = .ok (.getfield 280, 3) := by decide +kernel
theorem d_G_writeDescriptor_61 : decode b_G_writeDescriptor 61 = .ok (.invokevirtual 247, 3) := by decide +kernel
theorem d_G_writeDescriptor_64 : decode b_G_writeDescriptor 64 = .ok (.ifCond .ne 4, 3) := by decide +kernel
theorem d_G_writeDescriptor_67 : decode b_G_writeDescriptor 67 = .ok (.return_, 1) := by decide +kernel
theorem d_G_writeDescriptor_68 : decode b_G_writeDescriptor 68 = .ok (.iconst 0, 1) := by decide +kernel
theorem d_G_writeDescriptor_69 : decode b_G_writeDescriptor 69 = .ok (.istore 4, 2) := by decide +kernel
theorem d_G_writeDescriptor_71 : decode b_G_writeDescriptor 71 = .ok (.iload 4, 2) := by decide +kernel
theorem d_G_writeDescriptor_73 : decode b_G_writeDescriptor 73 = .ok (.aload_n 3, 1) := by decide +kernel
theorem d_G_writeDescriptor_74 : decode b_G_writeDescriptor 74 = .ok (.getfield 280, 3) := by decide +kernel
theorem d_G_writeDescriptor_77 : decode b_G_writeDescriptor 77 = .ok (.if_icmp .ge 125, 3) := by decide +kernel
theorem d_G_writeDescriptor_80 : decode b_G_writeDescriptor 80 = .ok (.aload_n 3, 1) := by decide +kernel
theorem d_G_writeDescriptor_81 : decode b_G_writeDescriptor 81 = .ok (.getfield 190, 3) := by decide +kernel
theorem d_G_writeDescriptor_84 : decode b_G_writeDescriptor 84 = .ok (.aload_n 3, 1) := by decide +kernel
theorem d_G_writeDescriptor_85 : decode b_G_writeDescriptor 85 = .ok (.getfield 283, 3) := by decide +kernel
theorem d_G_writeDescriptor_88 : decode b_G_writeDescriptor 88 = .ok (.iload 4, 2) := by decide +kernel
theorem d_G_writeDescriptor_90 : decode b_G_writeDescriptor 90 = .ok (.iaload, 1) := by decide +kernel
theorem d_G_writeDescriptor_91 : decode b_G_writeDescriptor 91 = .ok (.iaload, 1) := by decide +kernel
theorem d_G_writeDescriptor_92 : decode b_G_writeDescriptor 92 = .ok (.istore 5, 2) := by decide +kernel
theorem d_G_writeDescriptor_94 : decode b_G_writeDescriptor 94 = .ok (.aload_n 0, 1) := by decide +kernel
theorem d_G_writeDescriptor_95 : decode b_G_writeDescriptor 95 = .ok (.getfield 24, 3) := by decide +kernel
theorem d_G_writeDescriptor_98 : decode b_G_writeDescriptor 98 = .ok (.ldc_w 305, 3) := by decide +kernel
theorem d_G_writeDescriptor_101 : decode b_G_writeDescriptor 101 = .ok (.iload 5, 2) := by decide +kernel
theorem d_G_writeDescriptor_103 : decode b_G_writeDescriptor 103 = .ok (.invokevirtual 307, 3) := by decide +kernel
theorem d_G_writeDescriptor_106 : decode b_G_writeDescriptor 106 = .ok (.i2l, 1) := by decide +kernel
theorem d_G_writeDescriptor_107 : decode b_G_writeDescriptor 107 = .ok (.iconst 1, 1) := by decide +kernel
theorem d_G_writeDescriptor_108 : decode b_G_writeDescriptor 108 = .ok (.invokevirtual 33, 3) := by decide +kernel
theorem d_G_writeDescriptor_111 : decode b_G_writeDescriptor 111 = .ok (.aload_n 0, 1) := by decide +kernel
theorem d_G_writeDescriptor_112 : decode b_G_writeDescriptor 112 = .ok (.getfield 24, 3) := by decide +kernel
theorem d_G_writeDescriptor_115 : decode b_G_writeDescriptor 115 = .ok (.ldc 102, 2) := by decide +kernel
theorem d_G_writeDescriptor_117 : decode b_G_writeDescriptor 117 = .ok (.aload_n 3, 1) := by decide +kernel
theorem d_G_writeDescriptor_118 : decode b_G_writeDescriptor 118 = .ok (.getfield 311, 3) := by decide +kernel
theorem d_G_writeDescriptor_121 : decode b_G_writeDescriptor 121 = .ok (.aload_n 3, 1) := by decide +kernel
theorem d_G_writeDescriptor_122 : decode b_G_writeDescriptor 122 = .ok (.getfield 283, 3) := by decide +kernel
theorem d_G_writeDescriptor_125 : decode b_G_writeDescriptor 125 = .ok (.iload 4, 2) := by decide +kernel
theorem d_G_writeDescriptor_127 : decode b_G_writeDescriptor 127 = .ok (.iaload, 1) := by decide +kernel
theorem d_G_writeDescriptor_128 : decode b_G_writeDescriptor 128 = .ok (.iaload, 1) := by decide +kernel
theorem d_G_writeDescriptor_129 : decode b_G_writeDescriptor 129 = .ok (.invokevirtual 307, 3) := by decide +kernel
theorem d_G_writeDescriptor_132 : decode b_G_writeDescriptor 132 = .ok (.invokevirtual 314, 3) := by decide +kernel
theorem d_G_writeDescriptor_135 : decode b_G_writeDescriptor 135 = .ok (.iload 5, 2) := by decide +kernel
theorem d_G_writeDescriptor_137 : decode b_G_writeDescriptor 137 = .ok (.bipush 6, 2) := by decide +kernel
theorem d_G_writeDescriptor_139 : decode b_G_writeDescriptor 139 = .ok (.if_icmp .ne 26, 3) := by decide +kernel
theorem d_G_writeDescriptor_142 : decode b_G_writeDescriptor 142 = .ok (.aload_n 0, 1) := by decide +kernel
theorem d_G_writeDescriptor_143 : decode b_G_writeDescriptor 143 = .ok (.getfield 24, 3) := by decide +kernel
theorem d_G_writeDescriptor_146 : decode b_G_writeDescriptor 146 = .ok (.bipush 33, 2) := by decide +kernel
theorem d_G_writeDescriptor_148 : decode b_G_writeDescriptor 148 = .ok (.invokevirtual 221, 3) := by decide +kernel
theorem d_G_writeDescriptor_151 : decode b_G_writeDescriptor 151 = .ok (.ifCond .ne 14, 3) := by decide +kernel
theorem d_G_writeDescriptor_154 : decode b_G_writeDescriptor 154 = .ok (.aload_n 0, 1) := by decide +kernel
theorem d_G_writeDescriptor_155 : decode b_G_writeDescriptor 155 = .ok (.getfield 24, 3) := by decide +kernel
theorem d_G_writeDescriptor_158 : decode b_G_writeDescriptor 158 = .ok (.bipush 33, 2) := by decide +kernel
theorem d_G_writeDescriptor_160 : decode b_G_writeDescriptor 160 = .ok (.ldc 244, 2) := by decide +kernel
theorem d_G_writeDescriptor_162 : decode b_G_writeDescriptor 162 = .ok (.invokevirtual 224, 3) := by decide +kernel
theorem d_G_writeDescriptor_165 : decode b_G_writeDescriptor 165 = .ok (.iload 5, 2) := by decide +kernel
theorem d_G_writeDescriptor_167 : decode b_G_writeDescriptor 167 = .ok (.bipush 7, 2) := by decide +kernel
theorem d_G_writeDescriptor_169 : decode b_G_writeDescriptor 169 = .ok (.if_icmp .ne 27, 3) := by decide +kernel
theorem d_G_writeDescriptor_172 : decode b_G_writeDescriptor 172 = .ok (.aload_n 0, 1) := by decide +kernel
theorem d_G_writeDescriptor_173 : decode b_G_writeDescriptor 173 = .ok (.getfield 24, 3) := by decide +kernel
theorem d_G_writeDescriptor_176 : decode b_G_writeDescriptor 176 = .ok (.bipush 34, 2) := by decide +kernel
theorem d_G_writeDescriptor_178 : decode b_G_writeDescriptor 178 = .ok (.invokevirtual 221, 3) := by decide +kernel
theorem d_G_writeDescriptor_181 : decode b_G_writeDescriptor 181 = .ok (.ifCond .ne 15, 3) := by decide +kernel
theorem d_G_writeDescriptor_184 : decode b_G_writeDescriptor 184 = .ok (.aload_n 0, 1) := by decide +kernel
theorem d_G_writeDescriptor_185 : decode b_G_writeDescriptor 185 = .ok (.getfield 24, 3) := by decide +kernel
theorem d_G_writeDescriptor_188 : decode b_G_writeDescriptor 188 = .ok (.bipush 34, 2) := by decide +kernel
theorem d_G_writeDescriptor_190 : decode b_G_writeDescriptor 190 = .ok (.ldc_w 318, 3) := by decide +kernel
theorem d_G_writeDescriptor_193 : decode b_G_writeDescriptor 193 = .ok (.invokevirtual 224, 3) := by decide +kernel
theorem d_G_writeDescriptor_196 : decode b_G_writeDescriptor 196 = .ok (.iinc 4 1, 3) := by decide +kernel
theorem d_G_writeDescriptor_199 : decode b_G_writeDescriptor 199 = .ok (.goto (-128), 3) := by decide +kernel
theorem d_G_writeDescriptor_202 : decode b_G_writeDescriptor 202 = .ok (.aload_n 0, 1) := by decide +kernel
theorem d_G_writeDescriptor_203 : decode b_G_writeDescriptor 203 = .ok (.getfield 24, 3) := by decide +kernel
theorem d_G_writeDescriptor_206 : decode b_G_writeDescriptor 206 = .ok (.ldc2_w 296, 3) := by decide +kernel
theorem d_G_writeDescriptor_209 : decode b_G_writeDescriptor 209 = .ok (.iconst 1, 1) := by decide +kernel
theorem d_G_writeDescriptor_210 : decode b_G_writeDescriptor 210 = .ok (.invokevirtual 33, 3) := by decide +kernel
theorem d_G_writeDescriptor_213 : decode b_G_writeDescriptor 213 = .ok (.iinc 2 (-1), 3) := by decide +kernel
theorem d_G_writeDescriptor_216 : decode b_G_writeDescriptor 216 = .ok (.goto (-208), 3) := by decide +kernel
theorem d_G_writeDescriptor_219 : decode b_G_writeDescriptor 219 = .ok (.aload_n 1, 1) := by decide +kernel
theorem d_G_writeDescriptor_220 : decode b_G_writeDescriptor 220 = .ok (.getfield 52, 3) := by decide +kernel
theorem d_G_writeDescriptor_223 : decode b_G_writeDescriptor 223 = .ok (.iconst 3, 1) := by decide +kernel
theorem d_G_writeDescriptor_224 : decode b_G_writeDescriptor 224 = .ok (.if_icmp .eq 17, 3) := by decide +kernel
theorem d_G_writeDescriptor_227 : decode b_G_writeDescriptor 227 = .ok (.aload_n 0, 1) := by decide +kernel
theorem d_G_writeDescriptor_228 : decode b_G_writeDescriptor 228 = .ok (.getfield 24, 3) := by decide +kernel
theorem d_G_writeDescriptor_231 : decode b_G_writeDescriptor 231 = .ok (.ldc2_w 215, 3) := by decide +kernel
theorem d_G_writeDescriptor_234 : decode b_G_writeDescriptor 234 = .ok (.iconst 1, 1) := by decide +kernel
theorem d_G_writeDescriptor_235 : decode b_G_writeDescriptor 235 = .ok (.invokevirtual 33, 3) := by decide +kernel
theorem d_G_writeDescriptor_238 : decode b_G_writeDescriptor 238 = .ok (.goto 29, 3) := by decide +kernel
theorem d_G_writeDescriptor_241 : decode b_G_writeDescriptor 241 = .ok (.aload_n 0, 1) := by decide +kernel
theorem d_G_writeDescriptor_242 : decode b_G_writeDescriptor 242 = .ok (.getfield 24, 3) := by decide +kernel
theorem d_G_writeDescriptor_245 : decode b_G_writeDescriptor 245 = .ok (.bipush 32, 2) := by decide +kernel
theorem d_G_writeDescriptor_247 : decode b_G_writeDescriptor 247 = .ok (.ldc_w 320, 3) := by decide +kernel
theorem d_G_writeDescriptor_250 : decode b_G_writeDescriptor 250 = .ok (.lconst 0, 1) := by decide +kernel
theorem d_G_writeDescriptor_251 : decode b_G_writeDescriptor 251 = .ok (.bipush 18, 2) := by decide +kernel
theorem d_G_writeDescriptor_253 : decode b_G_writeDescriptor 253 = .ok (.iconst 0, 1) := by decide +kernel
theorem d_G_writeDescriptor_254 : decode b_G_writeDescriptor 254 = .ok (.invokevirtual 247, 3) := by decide +kernel
theorem d_G_writeDescriptor_257 : decode b_G_writeDescriptor 257 = .ok (.ifCond .eq 10, 3) := by decide +kernel
theorem d_G_writeDescriptor_260 : decode b_G_writeDescriptor 260 = .ok (.aload_n 0, 1) := by decide +kernel
theorem d_G_writeDescriptor_261 : decode b_G_writeDescriptor 261 = .ok (.getfield 24, 3) := by decide +kernel
theorem d_G_writeDescriptor_264 : decode b_G_writeDescriptor 264 = .ok (.invokevirtual 251, 3) := by decide +kernel
theorem d_G_writeDescriptor_267 : decode b_G_writeDescriptor 267 = .ok (.return_, 1) := by decide +kernel
theorem d_D_flags_0 : decode b_D_flags 0 = .ok (.aload_n 0, 1) := by decide +kernel
theorem d_D_flags_1 : decode b_D_flags 1 = .ok (.getfield 25, 3) := by decide +kernel
theorem d_D_flags_4 : decode b_D_flags 4 = .ok (.iconst 3, 1) := by decide +kernel
theorem d_D_flags_5 : decode b_D_flags 5 = .ok (.if_icmp .ne 6, 3) := by decide +kernel
theorem d_D_flags_8 : decode b_D_flags 8 = .ok (.bipush 18, 2) := by decide +kernel
theorem d_D_flags_10 : decode b_D_flags 10 = .ok (.ireturn, 1) := by decide +kernel
theorem d_D_flags_11 : decode b_D_flags 11 = .ok (.aload_n 0, 1) := by decide +kernel
theorem d_D_flags_12 : decode b_D_flags 12 = .ok (.getfield 25, 3) := by decide +kernel
theorem d_D_flags_15 : decode b_D_flags 15 = .ok (.iconst 2, 1) := by decide +kernel
theorem d_D_flags_16 : decode b_D_flags 16 = .ok (.if_icmp .ne 7, 3) := by decide +kernel
theorem d_D_flags_19 : decode b_D_flags 19 = .ok (.iconst 3, 1) := by decide +kernel
theorem d_D_flags_20 : decode b_D_flags 20 = .ok (.goto 4, 3) := by decide +kernel
theorem d_D_flags_23 : decode b_D_flags 23 = .ok (.iconst 2, 1) := by decide +kernel
theorem d_D_flags_24 : decode b_D_flags 24 = .ok (.ireturn, 1) := by decide +kernel
theorem d_O_putSign_0 : decode b_O_putSign 0 = .ok (.aload_n 0, 1) := by decide +kernel
theorem d_O_putSign_1 : decode b_O_putSign 1 = .ok (.lconst 1, 1) := by decide +kernel
theorem d_O_putSign_2 : decode b_O_putSign 2 = .ok (.iconst 2, 1) := by decide +kernel
theorem d_O_putSign_3 : decode b_O_putSign 3 = .ok (.invokevirtual 64, 3) := by decide +kernel
theorem d_O_putSign_6 : decode b_O_putSign 6 = .ok (.aload_n 0, 1) := by decide +kernel
theorem d_O_putSign_7 : decode b_O_putSign 7 = .ok (.iload_n 1, 1) := by decide +kernel
theorem d_O_putSign_8 : decode b_O_putSign 8 = .ok (.i2l, 1) := by decide +kernel
theorem d_O_putSign_9 : decode b_O_putSign 9 = .ok (.iconst 1, 1) := by decide +kernel
theorem d_O_putSign_10 : decode b_O_putSign 10 = .ok (.invokevirtual 64, 3) := by decide +kernel
theorem d_O_putSign_13 : decode b_O_putSign 13 = .ok (.return_, 1) := by decide +kernel
theorem d_G_writeInstance_0 : decode b_G_writeInstance 0 = .ok (.aload_n 0, 1) := by decide +kernel
theorem d_G_writeInstance_1 : decode b_G_writeInstance 1 = .ok (.getfield 17, 3) := by decide +kernel
theorem d_G_writeInstance_4 : decode b_G_writeInstance 4 = .ok (.iload_n 1, 1) := by decide +kernel
theorem d_G_writeInstance_5 : decode b_G_writeInstance 5 = .ok (.aaload, 1) := by decide +kernel
theorem d_G_writeInstance_6 : decode b_G_writeInstance 6 = .ok (.astore_n 3, 1) := by decide +kernel
theorem d_G_writeInstance_7 : decode b_G_writeInstance 7 = .ok (.aload_n 0, 1) := by decide +kernel
theorem d_G_writeInstance_8 : decode b_G_writeInstance 8 = .ok (.getfield 11, 3) := by decide +kernel
theorem d_G_writeInstance_11 : decode b_G_writeInstance 11 = .ok (.aload_n 3, 1) := by decide +kernel
theorem d_G_writeInstance_12 : decode b_G_writeInstance 12 = .ok (.getfield 177, 3) := by decide +kernel
theorem d_G_writeInstance_15 : decode b_G_writeInstance 15 = .ok (.aaload, 1) := by decide +kernel
theorem d_G_writeInstance_16 : decode b_G_writeInstance 16 = .ok (.astore 4, 2) := by decide +kernel
theorem d_G_writeInstance_18 : decode b_G_writeInstance 18 = .ok (.aload 4, 2) := by decide +kernel
theorem d_G_writeInstance_20 : decode b_G_writeInstance 20 = .ok (.getfield 52, 3) := by decide +kernel
theorem d_G_writeInstance_23 : decode b_G_writeInstance 23 = .ok (.ifCond .ne 16, 3) := by decide +kernel
theorem d_G_writeInstance_26 : decode b_G_writeInstance 26 = .ok (.aload_n 0, 1) := by decide +kernel
theorem d_G_writeInstance_27 : decode b_G_writeInstance 27 = .ok (.getfield 24, 3) := by decide +kernel
theorem d_G_writeInstance_30 : decode b_G_writeInstance 30 = .ok (.aload 4, 2) := by decide +kernel
theorem d_G_writeInstance_32 : decode b_G_writeInstance 32 = .ok (.getfield 267, 3) := by decide +kernel
theorem d_G_writeInstance_35 : decode b_G_writeInstance 35 = .ok (.invokevirtual 270, 3) := by decide +kernel
theorem d_G_writeInstance_38 : decode b_G_writeInstance 38 = .ok (.return_, 1) := by decide +kernel
theorem d_G_writeInstance_39 : decode b_G_writeInstance 39 = .ok (.aload_n 0, 1) := by decide +kernel
theorem d_G_writeInstance_40 : decode b_G_writeInstance 40 = .ok (.getfield 24, 3) := by decide +kernel
theorem d_G_writeInstance_43 : decode b_G_writeInstance 43 = .ok (.ldc2_w 274, 3) := by decide +kernel
theorem d_G_writeInstance_46 : decode b_G_writeInstance 46 = .ok (.iconst 1, 1) := by decide +kernel
theorem d_G_writeInstance_47 : decode b_G_writeInstance 47 = .ok (.invokevirtual 33, 3) := by decide +kernel
theorem d_G_writeInstance_50 : decode b_G_writeInstance 50 = .ok (.aload_n 0, 1) := by decide +kernel
theorem d_G_writeInstance_51 : decode b_G_writeInstance 51 = .ok (.aload 4, 2) := by decide +kernel
theorem d_G_writeInstance_53 : decode b_G_writeInstance 53 = .ok (.invokevirtual 263, 3) := by decide +kernel
theorem d_G_writeInstance_56 : decode b_G_writeInstance 56 = .ok (.aload_n 0, 1) := by decide +kernel
theorem d_G_writeInstance_57 : decode b_G_writeInstance 57 = .ok (.getfield 24, 3) := by decide +kernel
theorem d_G_writeInstance_60 : decode b_G_writeInstance 60 = .ok (.iload_n 1, 1) := by decide +kernel
theorem d_G_writeInstance_61 : decode b_G_writeInstance 61 = .ok (.invokevirtual 254, 3) := by decide +kernel
theorem d_G_writeInstance_64 : decode b_G_writeInstance 64 = .ok (.iconst 0, 1) := by decide +kernel
theorem d_G_writeInstance_65 : decode b_G_writeInstance 65 = .ok (.istore 5, 2) := by decide +kernel
theorem d_G_writeInstance_67 : decode b_G_writeInstance 67 = .ok (.iconst 0, 1) := by decide +kernel
theorem d_G_writeInstance_68 : decode b_G_writeInstance 68 = .ok (.istore 6, 2) := by decide +kernel
theorem d_G_writeInstance_70 : decode b_G_writeInstance 70 = .ok (.iload 6, 2) := by decide +kernel
theorem d_G_writeInstance_72 : decode b_G_writeInstance 72 = .ok (.aload 4, 2) := by decide +kernel
theorem d_G_writeInstance_74 : decode b_G_writeInstance 74 = .ok (.getfield 73, 3) := by decide +kernel
theorem d_G_writeInstance_77 : decode b_G_writeInstance 77 = .ok (.arraylength, 1) := by decide +kernel
theorem d_G_writeInstance_78 : decode b_G_writeInstance 78 = .ok (.if_icmp .ge 52, 3) := by decide +kernel
theorem d_G_writeInstance_81 : decode b_G_writeInstance 81 = .ok (.aload_n 0, 1) := by decide +kernel
theorem d_G_writeInstance_82 : decode b_G_writeInstance 82 = .ok (.getfield 11, 3) := by decide +kernel
theorem d_G_writeInstance_85 : decode b_G_writeInstance 85 = .ok (.aload 4, 2) := by decide +kernel
theorem d_G_writeInstance_87 : decode b_G_writeInstance 87 = .ok (.getfield 73, 3) := by decide +kernel
theorem d_G_writeInstance_90 : decode b_G_writeInstance 90 = .ok (.iload 6, 2) := by decide +kernel
theorem d_G_writeInstance_92 : decode b_G_writeInstance 92 = .ok (.iaload, 1) := by decide +kernel
theorem d_G_writeInstance_93 : decode b_G_writeInstance 93 = .ok (.aaload, 1) := by decide +kernel
theorem d_G_writeInstance_94 : decode b_G_writeInstance 94 = .ok (.astore 7, 2) := by decide +kernel
theorem d_G_writeInstance_96 : decode b_G_writeInstance 96 = .ok (.aload 7, 2) := by decide +kernel
theorem d_G_writeInstance_98 : decode b_G_writeInstance 98 = .ok (.getfield 52, 3) := by decide +kernel
theorem d_G_writeInstance_101 : decode b_G_writeInstance 101 = .ok (.ifCond .eq 13, 3) := by decide +kernel
theorem d_G_writeInstance_104 : decode b_G_writeInstance 104 = .ok (.aload_n 0, 1) := by decide +kernel
theorem d_G_writeInstance_105 : decode b_G_writeInstance 105 = .ok (.aload_n 3, 1) := by decide +kernel
theorem d_G_writeInstance_106 : decode b_G_writeInstance 106 = .ok (.aload 7, 2) := by decide +kernel
theorem d_G_writeInstance_108 : decode b_G_writeInstance 108 = .ok (.iload 5, 2) := by decide +kernel
theorem d_G_writeInstance_110 : decode b_G_writeInstance 110 = .ok (.iload_n 2, 1) := by decide +kernel
theorem d_G_writeInstance_111 : decode b_G_writeInstance 111 = .ok (.invokevirtual 276, 3) := by decide +kernel
theorem d_G_writeInstance_114 : decode b_G_writeInstance 114 = .ok (.iload 5, 2) := by decide +kernel
theorem d_G_writeInstance_116 : decode b_G_writeInstance 116 = .ok (.aload 7, 2) := by decide +kernel
theorem d_G_writeInstance_118 : decode b_G_writeInstance 118 = .ok (.getfield 60, 3) := by decide +kernel
theorem d_G_writeInstance_121 : decode b_G_writeInstance 121 = .ok (.iadd, 1) := by decide +kernel
theorem d_G_writeInstance_122 : decode b_G_writeInstance 122 = .ok (.istore 5, 2) := by decide +kernel
theorem d_G_writeInstance_124 : decode b_G_writeInstance 124 = .ok (.iinc 6 1, 3) := by decide +kernel
theorem d_G_writeInstance_127 : decode b_G_writeInstance 127 = .ok (.goto (-57), 3) := by decide +kernel
theorem d_G_writeInstance_130 : decode b_G_writeInstance 130 = .ok (.return_, 1) := by decide +kernel
theorem d_O_abort_0 : decode b_O_abort 0 = .ok (.aload_n 0, 1) := by decide +kernel
theorem d_O_abort_1 : decode b_O_abort 1 = .ok (.ldc2_w 101, 3) := by decide +kernel
theorem d_O_abort_4 : decode b_O_abort 4 = .ok (.iconst 1, 1) := by decide +kernel
theorem d_O_abort_5 : decode b_O_abort 5 = .ok (.invokevirtual 64, 3) := by decide +kernel
theorem d_O_abort_8 : decode b_O_abort 8 = .ok (.aload_n 0, 1) := by decide +kernel
theorem d_O_abort_9 : decode b_O_abort 9 = .ok (.ldc2_w 103, 3) := by decide +kernel
theorem d_O_abort_12 : decode b_O_abort 12 = .ok (.iconst 1, 1) := by decide +kernel
theorem d_O_abort_13 : decode b_O_abort 13 = .ok (.invokevirtual 64, 3) := by decide +kernel
theorem d_O_abort_16 : decode b_O_abort 16 = .ok (.aload_n 0, 1) := by decide +kernel
theorem d_O_abort_17 : decode b_O_abort 17 = .ok (.ldc2_w 81, 3) := by decide +kernel
theorem d_O_abort_20 : decode b_O_abort 20 = .ok (.iconst 1, 1) := by decide +kernel
theorem d_O_abort_21 : decode b_O_abort 21 = .ok (.invokevirtual 64, 3) := by decide +kernel
theorem d_O_abort_24 : decode b_O_abort 24 = .ok (.aload_n 0, 1) := by decide +kernel
theorem d_O_abort_25 : decode b_O_abort 25 = .ok (.aload_n 1, 1) := by decide +kernel
theorem d_O_abort_26 : decode b_O_abort 26 = .ok (.invokevirtual 87, 3) := by decide +kernel
theorem d_O_abort_29 : decode b_O_abort 29 = .ok (.aload_n 0, 1) := by decide +kernel
theorem d_O_abort_30 : decode b_O_abort 30 = .ok (.ldc2_w 103, 3) := by decide +kernel
theorem d_O_abort_33 : decode b_O_abort 33 = .ok (.iconst 1, 1) := by decide +kernel
theorem d_O_abort_34 : decode b_O_abort 34 = .ok (.invokevirtual 64, 3) := by decide +kernel
theorem d_O_abort_37 : decode b_O_abort 37 = .ok (.aload_n 0, 1) := by decide +kernel
theorem d_O_abort_38 : decode b_O_abort 38 = .ok (.getfield 22, 3) := by decide +kernel
theorem d_O_abort_41 : decode b_O_abort 41 = .ok (.ifCond .ne 9, 3) := by decide +kernel
theorem d_O_abort_44 : decode b_O_abort 44 = .ok (.aload_n 0, 1) := by decide +kernel
theorem d_O_abort_45 : decode b_O_abort 45 = .ok (.bipush (-3), 2) := by decide +kernel
theorem d_O_abort_47 : decode b_O_abort 47 = .ok (.putfield 22, 3) := by decide +kernel
theorem d_O_abort_50 : decode b_O_abort 50 = .ok (.return_, 1) := by decide +kernel
theorem d_G_writeParts_0 : decode b_G_writeParts 0 = .ok (.iconst 0, 1) := by decide +kernel
theorem d_G_writeParts_1 : decode b_G_writeParts 1 = .ok (.istore 5, 2) := by decide +kernel
theorem d_G_writeParts_3 : decode b_G_writeParts 3 = .ok (.iload 5, 2) := by decide +kernel
theorem d_G_writeParts_5 : decode b_G_writeParts 5 = .ok (.aload_n 2, 1) := by decide +kernel
theorem d_G_writeParts_6 : decode b_G_writeParts 6 = .ok (.getfield 280, 3) := by decide +kernel
theorem d_G_writeParts_9 : decode b_G_writeParts 9 = .ok (.if_icmp .ge 88, 3) := by decide +kernel
theorem d_G_writeParts_12 : decode b_G_writeParts 12 = .ok (.aload_n 2, 1) := by decide +kernel
theorem d_G_writeParts_13 : decode b_G_writeParts 13 = .ok (.getfield 283, 3) := by decide +kernel
theorem d_G_writeParts_16 : decode b_G_writeParts 16 = .ok (.iload 5, 2) := by decide +kernel
theorem d_G_writeParts_18 : decode b_G_writeParts 18 = .ok (.iaload, 1) := by decide +kernel
theorem d_G_writeParts_19 : decode b_G_writeParts 19 = .ok (.istore 6, 2) := by decide +kernel
theorem d_G_writeParts_21 : decode b_G_writeParts 21 = .ok (.aload_n 2, 1) := by decide +kernel
theorem d_G_writeParts_22 : decode b_G_writeParts 22 = .ok (.getfield 190, 3) := by decide +kernel
theorem d_G_writeParts_25 : decode b_G_writeParts 25 = .ok (.iload 6, 2) := by decide +kernel
theorem d_G_writeParts_27 : decode b_G_writeParts 27 = .ok (.iaload, 1) := by decide +kernel
theorem d_G_writeParts_28 : decode b_G_writeParts 28 = .ok (.istore 7, 2) := by decide +kernel
theorem d_G_writeParts_30 : decode b_G_writeParts 30 = .ok (.aload_n 1, 1) := by decide +kernel
theorem d_G_writeParts_31 : decode b_G_writeParts 31 = .ok (.getfield 120, 3) := by decide +kernel
theorem d_G_writeParts_34 : decode b_G_writeParts 34 = .ok (.iload_n 3, 1) := by decide +kernel
theorem d_G_writeParts_35 : decode b_G_writeParts 35 = .ok (.iload 6, 2) := by decide +kernel
theorem d_G_writeParts_37 : decode b_G_writeParts 37 = .ok (.iadd, 1) := by decide +kernel
theorem d_G_writeParts_38 : decode b_G_writeParts 38 = .ok (.laload, 1) := by decide +kernel
theorem d_G_writeParts_39 : decode b_G_writeParts 39 = .ok (.lstore 8, 2) := by decide +kernel
theorem d_G_writeParts_41 : decode b_G_writeParts 41 = .ok (.iload 7, 2) := by decide +kernel
theorem d_G_writeParts_43 : decode b_G_writeParts 43 = .ok (.bipush 6, 2) := by decide +kernel
theorem d_G_writeParts_45 : decode b_G_writeParts 45 = .ok (.if_icmp .lt 18, 3) := by decide +kernel
theorem d_G_writeParts_48 : decode b_G_writeParts 48 = .ok (.aload_n 0, 1) := by decide +kernel
theorem d_G_writeParts_49 : decode b_G_writeParts 49 = .ok (.lload 8, 2) := by decide +kernel
theorem d_G_writeParts_51 : decode b_G_writeParts 51 = .ok (.l2i, 1) := by decide +kernel
theorem d_G_writeParts_52 : decode b_G_writeParts 52 = .ok (.iconst 0, 1) := by decide +kernel
theorem d_G_writeParts_53 : decode b_G_writeParts 53 = .ok (.iload 4, 2) := by decide +kernel
theorem d_G_writeParts_55 : decode b_G_writeParts 55 = .ok (.iconst 1, 1) := by decide +kernel
theorem d_G_writeParts_56 : decode b_G_writeParts 56 = .ok (.iadd, 1) := by decide +kernel
theorem d_G_writeParts_57 : decode b_G_writeParts 57 = .ok (.invokevirtual 148, 3) := by decide +kernel
theorem d_G_writeParts_60 : decode b_G_writeParts 60 = .ok (.goto 31, 3) := by decide +kernel
theorem d_G_writeParts_63 : decode b_G_writeParts 63 = .ok (.aload_n 0, 1) := by decide +kernel
theorem d_G_writeParts_64 : decode b_G_writeParts 64 = .ok (.getfield 24, 3) := by decide +kernel
theorem d_G_writeParts_67 : decode b_G_writeParts 67 = .ok (.iload 7, 2) := by decide +kernel
theorem d_G_writeParts_69 : decode b_G_writeParts 69 = .ok (.iconst 5, 1) := by decide +kernel
theorem d_G_writeParts_70 : decode b_G_writeParts 70 = .ok (.if_icmp .ne 10, 3) := by decide +kernel
theorem d_G_writeParts_73 : decode b_G_writeParts 73 = .ok (.lload 8, 2) := by decide +kernel
theorem d_G_writeParts_75 : decode b_G_writeParts 75 = .ok (.lconst 1, 1) := by decide +kernel
theorem d_G_writeParts_76 : decode b_G_writeParts 76 = .ok (.land, 1) := by decide +kernel
theorem d_G_writeParts_77 : decode b_G_writeParts 77 = .ok (.goto 5, 3) := by decide +kernel
theorem d_G_writeParts_80 : decode b_G_writeParts 80 = .ok (.lload 8, 2) := by decide +kernel
theorem d_G_writeParts_82 : decode b_G_writeParts 82 = .ok (.getstatic 286, 3) := by decide +kernel
theorem d_G_writeParts_85 : decode b_G_writeParts 85 = .ok (.iload 7, 2) := by decide +kernel
theorem d_G_writeParts_87 : decode b_G_writeParts 87 = .ok (.iaload, 1) := by decide +kernel
theorem d_G_writeParts_88 : decode b_G_writeParts 88 = .ok (.invokevirtual 33, 3) := by decide +kernel
theorem d_G_writeParts_91 : decode b_G_writeParts 91 = .ok (.iinc 5 1, 3) := by decide +kernel
theorem d_G_writeParts_94 : decode b_G_writeParts 94 = .ok (.goto (-91), 3) := by decide +kernel
theorem d_G_writeParts_97 : decode b_G_writeParts 97 = .ok (.aload_n 2, 1) := by decide +kernel
theorem d_G_writeParts_98 : decode b_G_writeParts 98 = .ok (.getfield 52, 3) := by decide +kernel
theorem d_G_writeParts_101 : decode b_G_writeParts 101 = .ok (.iconst 2, 1) := by decide +kernel
theorem d_G_writeParts_102 : decode b_G_writeParts 102 = .ok (.if_icmp .ne 54, 3) := by decide +kernel
theorem d_G_writeParts_105 : decode b_G_writeParts 105 = .ok (.aload_n 0, 1) := by decide +kernel
theorem d_G_writeParts_106 : decode b_G_writeParts 106 = .ok (.getfield 24, 3) := by decide +kernel
theorem d_G_writeParts_109 : decode b_G_writeParts 109 = .ok (.ldc2_w 289, 3) := by decide +kernel
theorem d_G_writeParts_112 : decode b_G_writeParts 112 = .ok (.iconst 1, 1) := by decide +kernel
theorem d_G_writeParts_113 : decode b_G_writeParts 113 = .ok (.invokevirtual 33, 3) := by decide +kernel
theorem d_G_writeParts_116 : decode b_G_writeParts 116 = .ok (.aload_n 0, 1) := by decide +kernel
theorem d_G_writeParts_117 : decode b_G_writeParts 117 = .ok (.getfield 24, 3) := by decide +kernel
theorem d_G_writeParts_120 : decode b_G_writeParts 120 = .ok (.ldc2_w 291, 3) := by decide +kernel
theorem d_G_writeParts_123 : decode b_G_writeParts 123 = .ok (.iconst 1, 1) := by decide +kernel
theorem d_G_writeParts_124 : decode b_G_writeParts 124 = .ok (.invokevirtual 33, 3) := by decide +kernel
theorem d_G_writeParts_127 : decode b_G_writeParts 127 = .ok (.aload_n 0, 1) := by decide +kernel
theorem d_G_writeParts_128 : decode b_G_writeParts 128 = .ok (.getfield 24, 3) := by decide +kernel
theorem d_G_writeParts_131 : decode b_G_writeParts 131 = .ok (.aload_n 1, 1) := by decide +kernel
theorem d_G_writeParts_132 : decode b_G_writeParts 132 = .ok (.getfield 130, 3) := by decide +kernel
theorem d_G_writeParts_135 : decode b_G_writeParts 135 = .ok (.aload_n 2, 1) := by decide +kernel
theorem d_G_writeParts_136 : decode b_G_writeParts 136 = .ok (.getfield 293, 3) := by decide +kernel
theorem d_G_writeParts_139 : decode b_G_writeParts 139 = .ok (.iadd, 1) := by decide +kernel
theorem d_G_writeParts_140 : decode b_G_writeParts 140 = .ok (.i2l, 1) := by decide +kernel
theorem d_G_writeParts_141 : decode b_G_writeParts 141 = .ok (.iconst 4, 1) := by decide +kernel
theorem d_G_writeParts_142 : decode b_G_writeParts 142 = .ok (.invokevirtual 33, 3) := by decide +kernel
theorem d_G_writeParts_145 : decode b_G_writeParts 145 = .ok (.aload_n 0, 1) := by decide +kernel
theorem d_G_writeParts_146 : decode b_G_writeParts 146 = .ok (.getfield 24, 3) := by decide +kernel
theorem d_G_writeParts_149 : decode b_G_writeParts 149 = .ok (.ldc2_w 296, 3) := by decide +kernel
theorem d_G_writeParts_152 : decode b_G_writeParts 152 = .ok (.iconst 1, 1) := by decide +kernel
theorem d_G_writeParts_153 : decode b_G_writeParts 153 = .ok (.invokevirtual 33, 3) := by decide +kernel
theorem d_G_writeParts_156 : decode b_G_writeParts 156 = .ok (.return_, 1) := by decide +kernel
theorem d_O_settle_0 : decode b_O_settle 0 = .ok (.aload_n 0, 1) := by decide +kernel
theorem d_O_settle_1 : decode b_O_settle 1 = .ok (.getfield 22, 3) := by decide +kernel
theorem d_O_settle_4 : decode b_O_settle 4 = .ok (.ifCond .ne 10, 3) := by decide +kernel
theorem d_O_settle_7 : decode b_O_settle 7 = .ok (.aload_n 0, 1) := by decide +kernel
theorem d_O_settle_8 : decode b_O_settle 8 = .ok (.getfield 35, 3) := by decide +kernel
theorem d_O_settle_11 : decode b_O_settle 11 = .ok (.goto 7, 3) := by decide +kernel
theorem d_O_settle_14 : decode b_O_settle 14 = .ok (.aload_n 0, 1) := by decide +kernel
theorem d_O_settle_15 : decode b_O_settle 15 = .ok (.getfield 22, 3) := by decide +kernel
theorem d_O_settle_18 : decode b_O_settle 18 = .ok (.istore_n 1, 1) := by decide +kernel
theorem d_O_settle_19 : decode b_O_settle 19 = .ok (.aload_n 0, 1) := by decide +kernel
theorem d_O_settle_20 : decode b_O_settle 20 = .ok (.getfield 22, 3) := by decide +kernel
theorem d_O_settle_23 : decode b_O_settle 23 = .ok (.bipush (-2), 2) := by decide +kernel
theorem d_O_settle_25 : decode b_O_settle 25 = .ok (.if_icmp .ne 10, 3) := by decide +kernel
theorem d_O_settle_28 : decode b_O_settle 28 = .ok (.aload_n 0, 1) := by decide +kernel
theorem d_O_settle_29 : decode b_O_settle 29 = .ok (.invokevirtual 53, 3) := by decide +kernel
theorem d_O_settle_32 : decode b_O_settle 32 = .ok (.goto 16, 3) := by decide +kernel
theorem d_O_settle_35 : decode b_O_settle 35 = .ok (.aload_n 0, 1) := by decide +kernel
theorem d_O_settle_36 : decode b_O_settle 36 = .ok (.getfield 22, 3) := by decide +kernel
theorem d_O_settle_39 : decode b_O_settle 39 = .ok (.bipush (-3), 2) := by decide +kernel
theorem d_O_settle_41 : decode b_O_settle 41 = .ok (.if_icmp .ne 7, 3) := by decide +kernel
theorem d_O_settle_44 : decode b_O_settle 44 = .ok (.aload_n 0, 1) := by decide +kernel
theorem d_O_settle_45 : decode b_O_settle 45 = .ok (.invokevirtual 56, 3) := by decide +kernel
theorem d_O_settle_48 : decode b_O_settle 48 = .ok (.aload_n 0, 1) := by decide +kernel
theorem d_O_settle_49 : decode b_O_settle 49 = .ok (.iconst 0, 1) := by decide +kernel
theorem d_O_settle_50 : decode b_O_settle 50 = .ok (.putfield 22, 3) := by decide +kernel
theorem d_O_settle_53 : decode b_O_settle 53 = .ok (.iload_n 1, 1) := by decide +kernel
theorem d_O_settle_54 : decode b_O_settle 54 = .ok (.ireturn, 1) := by decide +kernel
theorem d_O_goBack_0 : decode b_O_goBack 0 = .ok (.aload_n 0, 1) := by decide +kernel
theorem d_O_goBack_1 : decode b_O_goBack 1 = .ok (.getfield 26, 3) := by decide +kernel
theorem d_O_goBack_4 : decode b_O_goBack 4 = .ok (.iconst 0, 1) := by decide +kernel
theorem d_O_goBack_5 : decode b_O_goBack 5 = .ok (.aload_n 0, 1) := by decide +kernel
theorem d_O_goBack_6 : decode b_O_goBack 6 = .ok (.getfield 18, 3) := by decide +kernel
theorem d_O_goBack_9 : decode b_O_goBack 9 = .ok (.iconst 0, 1) := by decide +kernel
theorem d_O_goBack_10 : decode b_O_goBack 10 = .ok (.bipush 35, 2) := by decide +kernel
theorem d_O_goBack_12 : decode b_O_goBack 12 = .ok (.invokestatic 29, 3) := by decide +kernel
theorem d_O_goBack_15 : decode b_O_goBack 15 = .ok (.aload_n 0, 1) := by decide +kernel
theorem d_O_goBack_16 : decode b_O_goBack 16 = .ok (.aload_n 0, 1) := by decide +kernel
theorem d_O_goBack_17 : decode b_O_goBack 17 = .ok (.getfield 38, 3) := by decide +kernel
theorem d_O_goBack_20 : decode b_O_goBack 20 = .ok (.putfield 35, 3) := by decide +kernel
theorem d_O_goBack_23 : decode b_O_goBack 23 = .ok (.aload_n 0, 1) := by decide +kernel
theorem d_O_goBack_24 : decode b_O_goBack 24 = .ok (.aload_n 0, 1) := by decide +kernel
theorem d_O_goBack_25 : decode b_O_goBack 25 = .ok (.getfield 44, 3) := by decide +kernel
theorem d_O_goBack_28 : decode b_O_goBack 28 = .ok (.putfield 41, 3) := by decide +kernel
theorem d_O_goBack_31 : decode b_O_goBack 31 = .ok (.aload_n 0, 1) := by decide +kernel
theorem d_O_goBack_32 : decode b_O_goBack 32 = .ok (.aload_n 0, 1) := by decide +kernel
theorem d_O_goBack_33 : decode b_O_goBack 33 = .ok (.getfield 50, 3) := by decide +kernel
theorem d_O_goBack_36 : decode b_O_goBack 36 = .ok (.putfield 47, 3) := by decide +kernel
theorem d_O_goBack_39 : decode b_O_goBack 39 = .ok (.return_, 1) := by decide +kernel
theorem d_G_reset_0 : decode b_G_reset 0 = .ok (.aload_n 0, 1) := by decide +kernel
theorem d_G_reset_1 : decode b_G_reset 1 = .ok (.getfield 24, 3) := by decide +kernel
theorem d_G_reset_4 : decode b_G_reset 4 = .ok (.invokevirtual 142, 3) := by decide +kernel
theorem d_G_reset_7 : decode b_G_reset 7 = .ok (.aload_n 0, 1) := by decide +kernel
theorem d_G_reset_8 : decode b_G_reset 8 = .ok (.getfield 24, 3) := by decide +kernel
theorem d_G_reset_11 : decode b_G_reset 11 = .ok (.invokevirtual 145, 3) := by decide +kernel
theorem d_G_reset_14 : decode b_G_reset 14 = .ok (.aload_n 0, 1) := by decide +kernel
theorem d_G_reset_15 : decode b_G_reset 15 = .ok (.getfield 24, 3) := by decide +kernel
theorem d_G_reset_18 : decode b_G_reset 18 = .ok (.ldc2_w 156, 3) := by decide +kernel
theorem d_G_reset_21 : decode b_G_reset 21 = .ok (.iconst 1, 1) := by decide +kernel
theorem d_G_reset_22 : decode b_G_reset 22 = .ok (.invokevirtual 33, 3) := by decide +kernel
theorem d_G_reset_25 : decode b_G_reset 25 = .ok (.aload_n 0, 1) := by decide +kernel
theorem d_G_reset_26 : decode b_G_reset 26 = .ok (.getfield 24, 3) := by decide +kernel
theorem d_G_reset_29 : decode b_G_reset 29 = .ok (.invokevirtual 28, 3) := by decide +kernel
theorem d_G_reset_32 : decode b_G_reset 32 = .ok (.aload_n 0, 1) := by decide +kernel
theorem d_G_reset_33 : decode b_G_reset 33 = .ok (.getfield 24, 3) := by decide +kernel
theorem d_G_reset_36 : decode b_G_reset 36 = .ok (.invokevirtual 152, 3) := by decide +kernel
theorem d_G_reset_39 : decode b_G_reset 39 = .ok (.ireturn, 1) := by decide +kernel
theorem d_G_byteAt_0 : decode b_G_byteAt 0 = .ok (.iload_n 1, 1) := by decide +kernel
theorem d_G_byteAt_1 : decode b_G_byteAt 1 = .ok (.ifCond .lt 14, 3) := by decide +kernel
theorem d_G_byteAt_4 : decode b_G_byteAt 4 = .ok (.iload_n 1, 1) := by decide +kernel
theorem d_G_byteAt_5 : decode b_G_byteAt 5 = .ok (.aload_n 0, 1) := by decide +kernel
theorem d_G_byteAt_6 : decode b_G_byteAt 6 = .ok (.getfield 24, 3) := by decide +kernel
theorem d_G_byteAt_9 : decode b_G_byteAt 9 = .ok (.getfield 158, 3) := by decide +kernel
theorem d_G_byteAt_12 : decode b_G_byteAt 12 = .ok (.if_icmp .lt 5, 3) := by decide +kernel
theorem d_G_byteAt_15 : decode b_G_byteAt 15 = .ok (.iconst (-1), 1) := by decide +kernel
theorem d_G_byteAt_16 : decode b_G_byteAt 16 = .ok (.ireturn, 1) := by decide +kernel
theorem d_G_byteAt_17 : decode b_G_byteAt 17 = .ok (.aload_n 0, 1) := by decide +kernel
theorem d_G_byteAt_18 : decode b_G_byteAt 18 = .ok (.getfield 24, 3) := by decide +kernel
theorem d_G_byteAt_21 : decode b_G_byteAt 21 = .ok (.getfield 161, 3) := by decide +kernel
theorem d_G_byteAt_24 : decode b_G_byteAt 24 = .ok (.iload_n 1, 1) := by decide +kernel
theorem d_G_byteAt_25 : decode b_G_byteAt 25 = .ok (.baload, 1) := by decide +kernel
theorem d_G_byteAt_26 : decode b_G_byteAt 26 = .ok (.sipush 255, 3) := by decide +kernel
theorem d_G_byteAt_29 : decode b_G_byteAt 29 = .ok (.iand, 1) := by decide +kernel
theorem d_G_byteAt_30 : decode b_G_byteAt 30 = .ok (.ireturn, 1) := by decide +kernel
theorem d_G_handle_0 : decode b_G_handle 0 = .ok (.aload_n 0, 1) := by decide +kernel
theorem d_G_handle_1 : decode b_G_handle 1 = .ok (.iload_n 1, 1) := by decide +kernel
theorem d_G_handle_2 : decode b_G_handle 2 = .ok (.invokevirtual 110, 3) := by decide +kernel
theorem d_G_handle_5 : decode b_G_handle 5 = .ok (.ifCond .eq 16, 3) := by decide +kernel
theorem d_G_handle_8 : decode b_G_handle 8 = .ok (.aload_n 0, 1) := by decide +kernel
theorem d_G_handle_9 : decode b_G_handle 9 = .ok (.getfield 24, 3) := by decide +kernel
theorem d_G_handle_12 : decode b_G_handle 12 = .ok (.getfield 165, 3) := by decide +kernel
theorem d_G_handle_15 : decode b_G_handle 15 = .ok (.iload_n 1, 1) := by decide +kernel
theorem d_G_handle_16 : decode b_G_handle 16 = .ok (.iaload, 1) := by decide +kernel
theorem d_G_handle_17 : decode b_G_handle 17 = .ok (.iconst (-1), 1) := by decide +kernel
theorem d_G_handle_18 : decode b_G_handle 18 = .ok (.if_icmp .ne 5, 3) := by decide +kernel
theorem d_G_handle_21 : decode b_G_handle 21 = .ok (.iconst (-1), 1) := by decide +kernel
theorem d_G_handle_22 : decode b_G_handle 22 = .ok (.ireturn, 1) := by decide +kernel
theorem d_G_handle_23 : decode b_G_handle 23 = .ok (.aload_n 0, 1) := by decide +kernel
theorem d_G_handle_24 : decode b_G_handle 24 = .ok (.getfield 24, 3) := by decide +kernel
theorem d_G_handle_27 : decode b_G_handle 27 = .ok (.getfield 165, 3) := by decide +kernel
theorem d_G_handle_30 : decode b_G_handle 30 = .ok (.iload_n 1, 1) := by decide +kernel
theorem d_G_handle_31 : decode b_G_handle 31 = .ok (.iaload, 1) := by decide +kernel
theorem d_G_handle_32 : decode b_G_handle 32 = .ok (.ireturn, 1) := by decide +kernel
theorem d_G_count_0 : decode b_G_count 0 = .ok (.iload_n 1, 1) := by decide +kernel
theorem d_G_count_1 : decode b_G_count 1 = .ok (.tableswitch 69 0 4 #[35, 43, 51, 59, 64], 35) := by decide +kernel
theorem d_G_count_36 : decode b_G_count 36 = .ok (.aload_n 0, 1) := by decide +kernel
theorem d_G_count_37 : decode b_G_count 37 = .ok (.getfield 24, 3) := by decide +kernel
theorem d_G_count_40 : decode b_G_count 40 = .ok (.getfield 158, 3) := by decide +kernel
theorem d_G_count_43 : decode b_G_count 43 = .ok (.ireturn, 1) := by decide +kernel
theorem d_G_count_44 : decode b_G_count 44 = .ok (.aload_n 0, 1) := by decide +kernel
theorem d_G_count_45 : decode b_G_count 45 = .ok (.getfield 24, 3) := by decide +kernel
theorem d_G_count_48 : decode b_G_count 48 = .ok (.getfield 139, 3) := by decide +kernel
theorem d_G_count_51 : decode b_G_count 51 = .ok (.ireturn, 1) := by decide +kernel
theorem d_G_count_52 : decode b_G_count 52 = .ok (.aload_n 0, 1) := by decide +kernel
theorem d_G_count_53 : decode b_G_count 53 = .ok (.getfield 24, 3) := by decide +kernel
theorem d_G_count_56 : decode b_G_count 56 = .ok (.getfield 168, 3) := by decide +kernel
theorem d_G_count_59 : decode b_G_count 59 = .ok (.ireturn, 1) := by decide +kernel
theorem d_G_count_60 : decode b_G_count 60 = .ok (.aload_n 0, 1) := by decide +kernel
theorem d_G_count_61 : decode b_G_count 61 = .ok (.getfield 70, 3) := by decide +kernel
theorem d_G_count_64 : decode b_G_count 64 = .ok (.ireturn, 1) := by decide +kernel
theorem d_G_count_65 : decode b_G_count 65 = .ok (.aload_n 0, 1) := by decide +kernel
theorem d_G_count_66 : decode b_G_count 66 = .ok (.invokevirtual 171, 3) := by decide +kernel
theorem d_G_count_69 : decode b_G_count 69 = .ok (.ireturn, 1) := by decide +kernel
theorem d_G_count_70 : decode b_G_count 70 = .ok (.iconst (-1), 1) := by decide +kernel
theorem d_G_count_71 : decode b_G_count 71 = .ok (.ireturn, 1) := by decide +kernel
theorem d_G_definedClasses_0 : decode b_G_definedClasses 0 = .ok (.iconst 0, 1) := by decide +kernel
theorem d_G_definedClasses_1 : decode b_G_definedClasses 1 = .ok (.istore_n 1, 1) := by decide +kernel
theorem d_G_definedClasses_2 : decode b_G_definedClasses 2 = .ok (.iconst 0, 1) := by decide +kernel
theorem d_G_definedClasses_3 : decode b_G_definedClasses 3 = .ok (.istore_n 2, 1) := by decide +kernel
theorem d_G_definedClasses_4 : decode b_G_definedClasses 4 = .ok (.iload_n 2, 1) := by decide +kernel
theorem d_G_definedClasses_5 : decode b_G_definedClasses 5 = .ok (.bipush 6, 2) := by decide +kernel
theorem d_G_definedClasses_7 : decode b_G_definedClasses 7 = .ok (.if_icmp .ge 24, 3) := by decide +kernel
theorem d_G_definedClasses_10 : decode b_G_definedClasses 10 = .ok (.aload_n 0, 1) := by decide +kernel
theorem d_G_definedClasses_11 : decode b_G_definedClasses 11 = .ok (.getfield 11, 3) := by decide +kernel
theorem d_G_definedClasses_14 : decode b_G_definedClasses 14 = .ok (.iload_n 2, 1) := by decide +kernel
theorem d_G_definedClasses_15 : decode b_G_definedClasses 15 = .ok (.aaload, 1) := by decide +kernel
theorem d_G_definedClasses_16 : decode b_G_definedClasses 16 = .ok (.ifnull 9, 3) := by decide +kernel
theorem d_G_definedClasses_19 : decode b_G_definedClasses 19 = .ok (.iload_n 1, 1) := by decide +kernel
theorem d_G_definedClasses_20 : decode b_G_definedClasses 20 = .ok (.iconst 1, 1) := by decide +kernel
theorem d_G_definedClasses_21 : decode b_G_definedClasses 21 = .ok (.iload_n 2, 1) := by decide +kernel
theorem d_G_definedClasses_22 : decode b_G_definedClasses 22 = .ok (.ishl, 1) := by decide +kernel
theorem d_G_definedClasses_23 : decode b_G_definedClasses 23 = .ok (.iadd, 1) := by decide +kernel
theorem d_G_definedClasses_24 : decode b_G_definedClasses 24 = .ok (.istore_n 1, 1) := by decide +kernel
theorem d_G_definedClasses_25 : decode b_G_definedClasses 25 = .ok (.iinc 2 1, 3) := by decide +kernel
theorem d_G_definedClasses_28 : decode b_G_definedClasses 28 = .ok (.goto (-24), 3) := by decide +kernel
theorem d_G_definedClasses_31 : decode b_G_definedClasses 31 = .ok (.iload_n 1, 1) := by decide +kernel
theorem d_G_definedClasses_32 : decode b_G_definedClasses 32 = .ok (.ireturn, 1) := by decide +kernel
theorem d_G_object_0 : decode b_G_object 0 = .ok (.aload_n 0, 1) := by decide +kernel
theorem d_G_object_1 : decode b_G_object 1 = .ok (.iload_n 1, 1) := by decide +kernel
theorem d_G_object_2 : decode b_G_object 2 = .ok (.invokevirtual 110, 3) := by decide +kernel
theorem d_G_object_5 : decode b_G_object 5 = .ok (.ifCond .ne 5, 3) := by decide +kernel
theorem d_G_object_8 : decode b_G_object 8 = .ok (.iconst (-1), 1) := by decide +kernel
theorem d_G_object_9 : decode b_G_object 9 = .ok (.ireturn, 1) := by decide +kernel
theorem d_G_object_10 : decode b_G_object 10 = .ok (.aload_n 0, 1) := by decide +kernel
theorem d_G_object_11 : decode b_G_object 11 = .ok (.getfield 17, 3) := by decide +kernel
theorem d_G_object_14 : decode b_G_object 14 = .ok (.iload_n 1, 1) := by decide +kernel
theorem d_G_object_15 : decode b_G_object 15 = .ok (.aaload, 1) := by decide +kernel
theorem d_G_object_16 : decode b_G_object 16 = .ok (.astore_n 3, 1) := by decide +kernel
theorem d_G_object_17 : decode b_G_object 17 = .ok (.iload_n 2, 1) := by decide +kernel
theorem d_G_object_18 : decode b_G_object 18 = .ok (.tableswitch 72 0 2 #[26, 31, 48], 26) := by decide +kernel
theorem d_G_object_44 : decode b_G_object 44 = .ok (.aload_n 3, 1) := by decide +kernel
theorem d_G_object_45 : decode b_G_object 45 = .ok (.getfield 174, 3) := by decide +kernel
theorem d_G_object_48 : decode b_G_object 48 = .ok (.ireturn, 1) := by decide +kernel
theorem d_G_object_49 : decode b_G_object 49 = .ok (.aload_n 3, 1) := by decide +kernel
theorem d_G_object_50 : decode b_G_object 50 = .ok (.getfield 177, 3) := by decide +kernel
theorem d_G_object_53 : decode b_G_object 53 = .ok (.iconst (-1), 1) := by decide +kernel
theorem d_G_object_54 : decode b_G_object 54 = .ok (.if_icmp .ne 7, 3) := by decide +kernel
theorem d_G_object_57 : decode b_G_object 57 = .ok (.iconst (-1), 1) := by decide +kernel
theorem d_G_object_58 : decode b_G_object 58 = .ok (.goto 7, 3) := by decide +kernel
theorem d_G_object_61 : decode b_G_object 61 = .ok (.aload_n 3, 1) := by decide +kernel
theorem d_G_object_62 : decode b_G_object 62 = .ok (.getfield 177, 3) := by decide +kernel
theorem d_G_object_65 : decode b_G_object 65 = .ok (.ireturn, 1) := by decide +kernel
theorem d_G_object_66 : decode b_G_object 66 = .ok (.aload_n 3, 1) := by decide +kernel
theorem d_G_object_67 : decode b_G_object 67 = .ok (.getfield 174, 3) := by decide +kernel
theorem d_G_object_70 : decode b_G_object 70 = .ok (.iconst 1, 1) := by decide +kernel
theorem d_G_object_71 : decode b_G_object 71 = .ok (.if_icmp .ne 13, 3) := by decide +kernel
theorem d_G_object_74 : decode b_G_object 74 = .ok (.aload_n 3, 1) := by decide +kernel
theorem d_G_object_75 : decode b_G_object 75 = .ok (.getfield 180, 3) := by decide +kernel
theorem d_G_object_78 : decode b_G_object 78 = .ok (.invokevirtual 184, 3) := by decide +kernel
theorem d_G_object_81 : decode b_G_object 81 = .ok (.goto 8, 3) := by decide +kernel
theorem d_G_object_84 : decode b_G_object 84 = .ok (.aload_n 3, 1) := by decide +kernel
theorem d_G_object_85 : decode b_G_object 85 = .ok (.getfield 120, 3) := by decide +kernel
theorem d_G_object_88 : decode b_G_object 88 = .ok (.arraylength, 1) := by decide +kernel
theorem d_G_object_89 : decode b_G_object 89 = .ok (.ireturn, 1) := by decide +kernel
theorem d_G_object_90 : decode b_G_object 90 = .ok (.iconst (-1), 1) := by decide +kernel
theorem d_G_object_91 : decode b_G_object 91 = .ok (.ireturn, 1) := by decide +kernel
theorem d_M_init_0 : decode b_M_init 0 = .ok (.aload_n 0, 1) := by decide +kernel
theorem d_M_init_1 : decode b_M_init 1 = .ok (.invokespecial 1, 3) := by decide +kernel
theorem d_M_init_4 : decode b_M_init 4 = .ok (.aload_n 0, 1) := by decide +kernel
theorem d_M_init_5 : decode b_M_init 5 = .ok (.bipush 6, 2) := by decide +kernel
theorem d_M_init_7 : decode b_M_init 7 = .ok (.newarray .boolean, 2) := by decide +kernel
theorem d_M_init_9 : decode b_M_init 9 = .ok (.putfield 7, 3) := by decide +kernel
theorem d_M_init_12 : decode b_M_init 12 = .ok (.aload_n 0, 1) := by decide +kernel
theorem d_M_init_13 : decode b_M_init 13 = .ok (.bipush 6, 2) := by decide +kernel
theorem d_M_init_15 : decode b_M_init 15 = .ok (.newarray .int, 2) := by decide +kernel
theorem d_M_init_17 : decode b_M_init 17 = .ok (.putfield 13, 3) := by decide +kernel
theorem d_M_init_20 : decode b_M_init 20 = .ok (.aload_n 0, 1) := by decide +kernel
theorem d_M_init_21 : decode b_M_init 21 = .ok (.bipush 6, 2) := by decide +kernel
theorem d_M_init_23 : decode b_M_init 23 = .ok (.newarray .int, 2) := by decide +kernel
theorem d_M_init_25 : decode b_M_init 25 = .ok (.putfield 17, 3) := by decide +kernel
theorem d_M_init_28 : decode b_M_init 28 = .ok (.aload_n 0, 1) := by decide +kernel
theorem d_M_init_29 : decode b_M_init 29 = .ok (.bipush 6, 2) := by decide +kernel
theorem d_M_init_31 : decode b_M_init 31 = .ok (.newarray .long, 2) := by decide +kernel
theorem d_M_init_33 : decode b_M_init 33 = .ok (.putfield 20, 3) := by decide +kernel
theorem d_M_init_36 : decode b_M_init 36 = .ok (.aload_n 0, 1) := by decide +kernel
theorem d_M_init_37 : decode b_M_init 37 = .ok (.bipush 6, 2) := by decide +kernel
theorem d_M_init_39 : decode b_M_init 39 = .ok (.newarray .int, 2) := by decide +kernel
theorem d_M_init_41 : decode b_M_init 41 = .ok (.putfield 24, 3) := by decide +kernel
theorem d_M_init_44 : decode b_M_init 44 = .ok (.aload_n 0, 1) := by decide +kernel
theorem d_M_init_45 : decode b_M_init 45 = .ok (.bipush 24, 2) := by decide +kernel
theorem d_M_init_47 : decode b_M_init 47 = .ok (.newarray .int, 2) := by decide +kernel
theorem d_M_init_49 : decode b_M_init 49 = .ok (.putfield 27, 3) := by decide +kernel
theorem d_M_init_52 : decode b_M_init 52 = .ok (.aload_n 0, 1) := by decide +kernel
theorem d_M_init_53 : decode b_M_init 53 = .ok (.bipush 24, 2) := by decide +kernel
theorem d_M_init_55 : decode b_M_init 55 = .ok (.newarray .int, 2) := by decide +kernel
theorem d_M_init_57 : decode b_M_init 57 = .ok (.putfield 30, 3) := by decide +kernel
theorem d_M_init_60 : decode b_M_init 60 = .ok (.aload_n 0, 1) := by decide +kernel
theorem d_M_init_61 : decode b_M_init 61 = .ok (.bipush 24, 2) := by decide +kernel
theorem d_M_init_63 : decode b_M_init 63 = .ok (.newarray .boolean, 2) := by decide +kernel
theorem d_M_init_65 : decode b_M_init 65 = .ok (.putfield 33, 3) := by decide +kernel
theorem d_M_init_68 : decode b_M_init 68 = .ok (.aload_n 0, 1) := by decide +kernel
theorem d_M_init_69 : decode b_M_init 69 = .ok (.bipush 20, 2) := by decide +kernel
theorem d_M_init_71 : decode b_M_init 71 = .ok (.newarray .int, 2) := by decide +kernel
theorem d_M_init_73 : decode b_M_init 73 = .ok (.putfield 36, 3) := by decide +kernel
theorem d_M_init_76 : decode b_M_init 76 = .ok (.aload_n 0, 1) := by decide +kernel
theorem d_M_init_77 : decode b_M_init 77 = .ok (.bipush 20, 2) := by decide +kernel
theorem d_M_init_79 : decode b_M_init 79 = .ok (.newarray .int, 2) := by decide +kernel
theorem d_M_init_81 : decode b_M_init 81 = .ok (.putfield 39, 3) := by decide +kernel
theorem d_M_init_84 : decode b_M_init 84 = .ok (.aload_n 0, 1) := by decide +kernel
theorem d_M_init_85 : decode b_M_init 85 = .ok (.bipush 20, 2) := by decide +kernel
theorem d_M_init_87 : decode b_M_init 87 = .ok (.newarray .int, 2) := by decide +kernel
theorem d_M_init_89 : decode b_M_init 89 = .ok (.putfield 42, 3) := by decide +kernel
theorem d_M_init_92 : decode b_M_init 92 = .ok (.aload_n 0, 1) := by decide +kernel
theorem d_M_init_93 : decode b_M_init 93 = .ok (.bipush 20, 2) := by decide +kernel
theorem d_M_init_95 : decode b_M_init 95 = .ok (.newarray .int, 2) := by decide +kernel
theorem d_M_init_97 : decode b_M_init 97 = .ok (.putfield 45, 3) := by decide +kernel
theorem d_M_init_100 : decode b_M_init 100 = .ok (.aload_n 0, 1) := by decide +kernel
theorem d_M_init_101 : decode b_M_init 101 = .ok (.sipush 480, 3) := by decide +kernel
theorem d_M_init_104 : decode b_M_init 104 = .ok (.newarray .long, 2) := by decide +kernel
theorem d_M_init_106 : decode b_M_init 106 = .ok (.putfield 48, 3) := by decide +kernel
theorem d_M_init_109 : decode b_M_init 109 = .ok (.aload_n 0, 1) := by decide +kernel
theorem d_M_init_110 : decode b_M_init 110 = .ok (.bipush 20, 2) := by decide +kernel
theorem d_M_init_112 : decode b_M_init 112 = .ok (.newarray .int, 2) := by decide +kernel
theorem d_M_init_114 : decode b_M_init 114 = .ok (.putfield 51, 3) := by decide +kernel
theorem d_M_init_117 : decode b_M_init 117 = .ok (.aload_n 0, 1) := by decide +kernel
theorem d_M_init_118 : decode b_M_init 118 = .ok (.bipush 20, 2) := by decide +kernel
theorem d_M_init_120 : decode b_M_init 120 = .ok (.newarray .int, 2) := by decide +kernel
theorem d_M_init_122 : decode b_M_init 122 = .ok (.putfield 54, 3) := by decide +kernel
theorem d_M_init_125 : decode b_M_init 125 = .ok (.aload_n 0, 1) := by decide +kernel
theorem d_M_init_126 : decode b_M_init 126 = .ok (.sipush 1700, 3) := by decide +kernel
theorem d_M_init_129 : decode b_M_init 129 = .ok (.newarray .int, 2) := by decide +kernel
theorem d_M_init_131 : decode b_M_init 131 = .ok (.putfield 57, 3) := by decide +kernel
theorem d_M_init_134 : decode b_M_init 134 = .ok (.aload_n 0, 1) := by decide +kernel
theorem d_M_init_135 : decode b_M_init 135 = .ok (.sipush 256, 3) := by decide +kernel
theorem d_M_init_138 : decode b_M_init 138 = .ok (.newarray .int, 2) := by decide +kernel
theorem d_M_init_140 : decode b_M_init 140 = .ok (.putfield 60, 3) := by decide +kernel
theorem d_M_init_143 : decode b_M_init 143 = .ok (.aload_n 0, 1) := by decide +kernel
theorem d_M_init_144 : decode b_M_init 144 = .ok (.bipush 51, 2) := by decide +kernel
theorem d_M_init_146 : decode b_M_init 146 = .ok (.newarray .int, 2) := by decide +kernel
theorem d_M_init_148 : decode b_M_init 148 = .ok (.putfield 63, 3) := by decide +kernel
theorem d_M_init_151 : decode b_M_init 151 = .ok (.aload_n 0, 1) := by decide +kernel
theorem d_M_init_152 : decode b_M_init 152 = .ok (.sipush 900, 3) := by decide +kernel
theorem d_M_init_155 : decode b_M_init 155 = .ok (.newarray .int, 2) := by decide +kernel
theorem d_M_init_157 : decode b_M_init 157 = .ok (.putfield 66, 3) := by decide +kernel
theorem d_M_init_160 : decode b_M_init 160 = .ok (.aload_n 0, 1) := by decide +kernel
theorem d_M_init_161 : decode b_M_init 161 = .ok (.sipush 900, 3) := by decide +kernel
theorem d_M_init_164 : decode b_M_init 164 = .ok (.newarray .int, 2) := by decide +kernel
theorem d_M_init_166 : decode b_M_init 166 = .ok (.putfield 69, 3) := by decide +kernel
theorem d_M_init_169 : decode b_M_init 169 = .ok (.aload_n 0, 1) := by decide +kernel
theorem d_M_init_170 : decode b_M_init 170 = .ok (.sipush 900, 3) := by decide +kernel
theorem d_M_init_173 : decode b_M_init 173 = .ok (.newarray .int, 2) := by decide +kernel
theorem d_M_init_175 : decode b_M_init 175 = .ok (.putfield 72, 3) := by decide +kernel
theorem d_M_init_178 : decode b_M_init 178 = .ok (.aload_n 0, 1) := by decide +kernel
theorem d_M_init_179 : decode b_M_init 179 = .ok (.iconst 4, 1) := by decide +kernel
theorem d_M_init_180 : decode b_M_init 180 = .ok (.newarray .int, 2) := by decide +kernel
theorem d_M_init_182 : decode b_M_init 182 = .ok (.putfield 75, 3) := by decide +kernel
theorem d_M_init_185 : decode b_M_init 185 = .ok (.aload_n 0, 1) := by decide +kernel
theorem d_M_init_186 : decode b_M_init 186 = .ok (.bipush 51, 2) := by decide +kernel
theorem d_M_init_188 : decode b_M_init 188 = .ok (.newarray .int, 2) := by decide +kernel
theorem d_M_init_190 : decode b_M_init 190 = .ok (.putfield 78, 3) := by decide +kernel
theorem d_M_init_193 : decode b_M_init 193 = .ok (.aload_n 0, 1) := by decide +kernel
theorem d_M_init_194 : decode b_M_init 194 = .ok (.ldc2_w 81, 3) := by decide +kernel
theorem d_M_init_197 : decode b_M_init 197 = .ok (.iconst 2, 1) := by decide +kernel
theorem d_M_init_198 : decode b_M_init 198 = .ok (.invokevirtual 83, 3) := by decide +kernel
theorem d_M_init_201 : decode b_M_init 201 = .ok (.aload_n 0, 1) := by decide +kernel
theorem d_M_init_202 : decode b_M_init 202 = .ok (.ldc2_w 87, 3) := by decide +kernel
theorem d_M_init_205 : decode b_M_init 205 = .ok (.iconst 2, 1) := by decide +kernel
theorem d_M_init_206 : decode b_M_init 206 = .ok (.invokevirtual 83, 3) := by decide +kernel
theorem d_M_init_209 : decode b_M_init 209 = .ok (.aload_n 0, 1) := by decide +kernel
theorem d_M_init_210 : decode b_M_init 210 = .ok (.invokevirtual 89, 3) := by decide +kernel
theorem d_M_init_213 : decode b_M_init 213 = .ok (.return_, 1) := by decide +kernel
theorem d_M_append_0 : decode b_M_append 0 = .ok (.iload_n 3, 1) := by decide +kernel
theorem d_M_append_1 : decode b_M_append 1 = .ok (.iconst 1, 1) := by decide +kernel
theorem d_M_append_2 : decode b_M_append 2 = .ok (.isub, 1) := by decide +kernel
theorem d_M_append_3 : decode b_M_append 3 = .ok (.istore 4, 2) := by decide +kernel
theorem d_M_append_5 : decode b_M_append 5 = .ok (.iload 4, 2) := by decide +kernel
theorem d_M_append_7 : decode b_M_append 7 = .ok (.ifCond .lt 50, 3) := by decide +kernel
theorem d_M_append_10 : decode b_M_append 10 = .ok (.aload_n 0, 1) := by decide +kernel
theorem d_M_append_11 : decode b_M_append 11 = .ok (.getfield 96, 3) := by decide +kernel
theorem d_M_append_14 : decode b_M_append 14 = .ok (.sipush 1650, 3) := by decide +kernel
theorem d_M_append_17 : decode b_M_append 17 = .ok (.if_icmp .ge 34, 3) := by decide +kernel
theorem d_M_append_20 : decode b_M_append 20 = .ok (.aload_n 0, 1) := by decide +kernel
theorem d_M_append_21 : decode b_M_append 21 = .ok (.getfield 57, 3) := by decide +kernel
theorem d_M_append_24 : decode b_M_append 24 = .ok (.aload_n 0, 1) := by decide +kernel
theorem d_M_append_25 : decode b_M_append 25 = .ok (.getfield 96, 3) := by decide +kernel
theorem d_M_append_28 : decode b_M_append 28 = .ok (.lload_n 1, 1) := by decide +kernel
theorem d_M_append_29 : decode b_M_append 29 = .ok (.bipush 8, 2) := by decide +kernel
theorem d_M_append_31 : decode b_M_append 31 = .ok (.iload 4, 2) := by decide +kernel
theorem d_M_append_33 : decode b_M_append 33 = .ok (.imul, 1) := by decide +kernel
theorem d_M_append_34 : decode b_M_append 34 = .ok (.lshr, 1) := by decide +kernel
theorem d_M_append_35 : decode b_M_append 35 = .ok (.l2i, 1) := by decide +kernel
theorem d_M_append_36 : decode b_M_append 36 = .ok (.sipush 255, 3) := by decide +kernel
theorem d_M_append_39 : decode b_M_append 39 = .ok (.iand, 1) := by decide +kernel
theorem d_M_append_40 : decode b_M_append 40 = .ok (.iastore, 1) := by decide +kernel
theorem d_M_append_41 : decode b_M_append 41 = .ok (.aload_n 0, 1) := by decide +kernel
theorem d_M_append_42 : decode b_M_append 42 = .ok (.dup, 1) := by decide +kernel
theorem d_M_append_43 : decode b_M_append 43 = .ok (.getfield 96, 3) := by decide +kernel
theorem d_M_append_46 : decode b_M_append 46 = .ok (.iconst 1, 1) := by decide +kernel
theorem d_M_append_47 : decode b_M_append 47 = .ok (.iadd, 1) := by decide +kernel
theorem d_M_append_48 : decode b_M_append 48 = .ok (.putfield 96, 3) := by decide +kernel
theorem d_M_append_51 : decode b_M_append 51 = .ok (.iinc 4 (-1), 3) := by decide +kernel
theorem d_M_append_54 : decode b_M_append 54 = .ok (.goto (-49), 3) := by decide +kernel
theorem d_M_append_57 : decode b_M_append 57 = .ok (.return_, 1) := by decide +kernel
theorem d_M_noHandles_0 : decode b_M_noHandles 0 = .ok (.iconst 0, 1) := by decide +kernel
theorem d_M_noHandles_1 : decode b_M_noHandles 1 = .ok (.istore_n 1, 1) := by decide +kernel
theorem d_M_noHandles_2 : decode b_M_noHandles 2 = .ok (.iload_n 1, 1) := by decide +kernel
theorem d_M_noHandles_3 : decode b_M_noHandles 3 = .ok (.bipush 51, 2) := by decide +kernel
theorem d_M_noHandles_5 : decode b_M_noHandles 5 = .ok (.if_icmp .ge 16, 3) := by decide +kernel
theorem d_M_noHandles_8 : decode b_M_noHandles 8 = .ok (.aload_n 0, 1) := by decide +kernel
theorem d_M_noHandles_9 : decode b_M_noHandles 9 = .ok (.getfield 63, 3) := by decide +kernel
theorem d_M_noHandles_12 : decode b_M_noHandles 12 = .ok (.iload_n 1, 1) := by decide +kernel
theorem d_M_noHandles_13 : decode b_M_noHandles 13 = .ok (.iconst (-1), 1) := by decide +kernel
theorem d_M_noHandles_14 : decode b_M_noHandles 14 = .ok (.iastore, 1) := by decide +kernel
theorem d_M_noHandles_15 : decode b_M_noHandles 15 = .ok (.iinc 1 1, 3) := by decide +kernel
theorem d_M_noHandles_18 : decode b_M_noHandles 18 = .ok (.goto (-16), 3) := by decide +kernel
theorem d_M_noHandles_21 : decode b_M_noHandles 21 = .ok (.aload_n 0, 1) := by decide +kernel
theorem d_M_noHandles_22 : decode b_M_noHandles 22 = .ok (.iconst 0, 1) := by decide +kernel
theorem d_M_noHandles_23 : decode b_M_noHandles 23 = .ok (.putfield 100, 3) := by decide +kernel
theorem d_M_noHandles_26 : decode b_M_noHandles 26 = .ok (.return_, 1) := by decide +kernel
theorem d_M_define_0 : decode b_M_define 0 = .ok (.aload_n 0, 1) := by decide +kernel
theorem d_M_define_1 : decode b_M_define 1 = .ok (.iload_n 1, 1) := by decide +kernel
theorem d_M_define_2 : decode b_M_define 2 = .ok (.bipush 6, 2) := by decide +kernel
theorem d_M_define_4 : decode b_M_define 4 = .ok (.invokevirtual 92, 3) := by decide +kernel
theorem d_M_define_7 : decode b_M_define 7 = .ok (.ifCond .ne 38, 3) := by decide +kernel
theorem d_M_define_10 : decode b_M_define 10 = .ok (.aload_n 0, 1) := by decide +kernel
theorem d_M_define_11 : decode b_M_define 11 = .ok (.iload_n 2, 1) := by decide +kernel
theorem d_M_define_12 : decode b_M_define 12 = .ok (.iconst 5, 1) := by decide +kernel
theorem d_M_define_13 : decode b_M_define 13 = .ok (.invokevirtual 92, 3) := by decide +kernel
theorem d_M_define_16 : decode b_M_define 16 = .ok (.ifCond .ne 29, 3) := by decide +kernel
theorem d_M_define_19 : decode b_M_define 19 = .ok (.iload_n 3, 1) := by decide +kernel
theorem d_M_define_20 : decode b_M_define 20 = .ok (.iconst (-1), 1) := by decide +kernel
theorem d_M_define_21 : decode b_M_define 21 = .ok (.if_icmp .lt 24, 3) := by decide +kernel
theorem d_M_define_24 : decode b_M_define 24 = .ok (.iload_n 3, 1) := by decide +kernel
theorem d_M_define_25 : decode b_M_define 25 = .ok (.ifCond .lt 11, 3) := by decide +kernel
theorem d_M_define_28 : decode b_M_define 28 = .ok (.aload_n 0, 1) := by decide +kernel
theorem d_M_define_29 : decode b_M_define 29 = .ok (.iload_n 3, 1) := by decide +kernel
theorem d_M_define_30 : decode b_M_define 30 = .ok (.invokevirtual 111, 3) := by decide +kernel
theorem d_M_define_33 : decode b_M_define 33 = .ok (.ifCond .ne 12, 3) := by decide +kernel
theorem d_M_define_36 : decode b_M_define 36 = .ok (.aload_n 0, 1) := by decide +kernel
theorem d_M_define_37 : decode b_M_define 37 = .ok (.getfield 7, 3) := by decide +kernel
theorem d_M_define_40 : decode b_M_define 40 = .ok (.iload_n 1, 1) := by decide +kernel
theorem d_M_define_41 : decode b_M_define 41 = .ok (.baload, 1) := by decide +kernel
theorem d_M_define_42 : decode b_M_define 42 = .ok (.ifCond .eq 5, 3) := by decide +kernel
theorem d_M_define_45 : decode b_M_define 45 = .ok (.iconst (-1), 1) := by decide +kernel
theorem d_M_define_46 : decode b_M_define 46 = .ok (.ireturn, 1) := by decide +kernel
theorem d_M_define_47 : decode b_M_define 47 = .ok (.iload_n 3, 1) := by decide +kernel
theorem d_M_define_48 : decode b_M_define 48 = .ok (.ifCond .lt 33, 3) := by decide +kernel
theorem d_M_define_51 : decode b_M_define 51 = .ok (.iload_n 2, 1) := by decide +kernel
theorem d_M_define_52 : decode b_M_define 52 = .ok (.iconst 2, 1) := by decide +kernel
theorem d_M_define_53 : decode b_M_define 53 = .ok (.if_icmp .gt 26, 3) := by decide +kernel
theorem d_M_define_56 : decode b_M_define 56 = .ok (.aload_n 0, 1) := by decide +kernel
theorem d_M_define_57 : decode b_M_define 57 = .ok (.getfield 13, 3) := by decide +kernel
theorem d_M_define_60 : decode b_M_define 60 = .ok (.iload_n 3, 1) := by decide +kernel
theorem d_M_define_61 : decode b_M_define 61 = .ok (.iaload, 1) := by decide +kernel
theorem d_M_define_62 : decode b_M_define 62 = .ok (.iconst 2, 1) := by decide +kernel
theorem d_M_define_63 : decode b_M_define 63 = .ok (.if_icmp .gt 16, 3) := by decide +kernel
theorem d_M_define_66 : decode b_M_define 66 = .ok (.iload_n 2, 1) := by decide +kernel
theorem d_M_define_67 : decode b_M_define 67 = .ok (.ifCond .ne 14, 3) := by decide +kernel
theorem d_M_define_70 : decode b_M_define 70 = .ok (.aload_n 0, 1) := by decide +kernel
theorem d_M_define_71 : decode b_M_define 71 = .ok (.getfield 13, 3) := by decide +kernel
theorem d_M_define_74 : decode b_M_define 74 = .ok (.iload_n 3, 1) := by decide +kernel
theorem d_M_define_75 : decode b_M_define 75 = .ok (.iaload, 1) := by decide +kernel
theorem d_M_define_76 : decode b_M_define 76 = .ok (.ifCond .eq 5, 3) := by decide +kernel
theorem d_M_define_79 : decode b_M_define 79 = .ok (.iconst (-1), 1) := by decide +kernel
theorem d_M_define_80 : decode b_M_define 80 = .ok (.ireturn, 1) := by decide +kernel
theorem d_M_define_81 : decode b_M_define 81 = .ok (.aload_n 0, 1) := by decide +kernel
theorem d_M_define_82 : decode b_M_define 82 = .ok (.getfield 7, 3) := by decide +kernel
theorem d_M_define_85 : decode b_M_define 85 = .ok (.iload_n 1, 1) := by decide +kernel
theorem d_M_define_86 : decode b_M_define 86 = .ok (.iconst 1, 1) := by decide +kernel
theorem d_M_define_87 : decode b_M_define 87 = .ok (.bastore, 1) := by decide +kernel
theorem d_M_define_88 : decode b_M_define 88 = .ok (.aload_n 0, 1) := by decide +kernel
theorem d_M_define_89 : decode b_M_define 89 = .ok (.getfield 13, 3) := by decide +kernel
theorem d_M_define_92 : decode b_M_define 92 = .ok (.iload_n 1, 1) := by decide +kernel
theorem d_M_define_93 : decode b_M_define 93 = .ok (.iload_n 2, 1) := by decide +kernel
theorem d_M_define_94 : decode b_M_define 94 = .ok (.iastore, 1) := by decide +kernel
theorem d_M_define_95 : decode b_M_define 95 = .ok (.aload_n 0, 1) := by decide +kernel
theorem d_M_define_96 : decode b_M_define 96 = .ok (.getfield 17, 3) := by decide +kernel
theorem d_M_define_99 : decode b_M_define 99 = .ok (.iload_n 1, 1) := by decide +kernel
theorem d_M_define_100 : decode b_M_define 100 = .ok (.iload_n 3, 1) := by decide +kernel
theorem d_M_define_101 : decode b_M_define 101 = .ok (.iastore, 1) := by decide +kernel
theorem d_M_define_102 : decode b_M_define 102 = .ok (.aload_n 0, 1) := by decide +kernel
theorem d_M_define_103 : decode b_M_define 103 = .ok (.getfield 20, 3) := by decide +kernel
theorem d_M_define_106 : decode b_M_define 106 = .ok (.iload_n 1, 1) := by decide +kernel
theorem d_M_define_107 : decode b_M_define 107 = .ok (.lload 4, 2) := by decide +kernel
theorem d_M_define_109 : decode b_M_define 109 = .ok (.lastore, 1) := by decide +kernel
theorem d_M_define_110 : decode b_M_define 110 = .ok (.iconst 0, 1) := by decide +kernel
theorem d_M_define_111 : decode b_M_define 111 = .ok (.ireturn, 1) := by decide +kernel
theorem d_M_out_0 : decode b_M_out 0 = .ok (.iload_n 1, 1) := by decide +kernel
theorem d_M_out_1 : decode b_M_out 1 = .ok (.ifCond .lt 8, 3) := by decide +kernel
theorem d_M_out_4 : decode b_M_out 4 = .ok (.iload_n 1, 1) := by decide +kernel
theorem d_M_out_5 : decode b_M_out 5 = .ok (.iload_n 2, 1) := by decide +kernel
theorem d_M_out_6 : decode b_M_out 6 = .ok (.if_icmp .lt 7, 3) := by decide +kernel
theorem d_M_out_9 : decode b_M_out 9 = .ok (.iconst 1, 1) := by decide +kernel
theorem d_M_out_10 : decode b_M_out 10 = .ok (.goto 4, 3) := by decide +kernel
theorem d_M_out_13 : decode b_M_out 13 = .ok (.iconst 0, 1) := by decide +kernel
theorem d_M_out_14 : decode b_M_out 14 = .ok (.ireturn, 1) := by decide +kernel
theorem d_M_noClass_0 : decode b_M_noClass 0 = .ok (.aload_n 0, 1) := by decide +kernel
theorem d_M_noClass_1 : decode b_M_noClass 1 = .ok (.iload_n 1, 1) := by decide +kernel
theorem d_M_noClass_2 : decode b_M_noClass 2 = .ok (.bipush 6, 2) := by decide +kernel
theorem d_M_noClass_4 : decode b_M_noClass 4 = .ok (.invokevirtual 92, 3) := by decide +kernel
theorem d_M_noClass_7 : decode b_M_noClass 7 = .ok (.ifCond .ne 12, 3) := by decide +kernel
theorem d_M_noClass_10 : decode b_M_noClass 10 = .ok (.aload_n 0, 1) := by decide +kernel
theorem d_M_noClass_11 : decode b_M_noClass 11 = .ok (.getfield 7, 3) := by decide +kernel
theorem d_M_noClass_14 : decode b_M_noClass 14 = .ok (.iload_n 1, 1) := by decide +kernel
theorem d_M_noClass_15 : decode b_M_noClass 15 = .ok (.baload, 1) := by decide +kernel
theorem d_M_noClass_16 : decode b_M_noClass 16 = .ok (.ifCond .ne 7, 3) := by decide +kernel
theorem d_M_noClass_19 : decode b_M_noClass 19 = .ok (.iconst 1, 1) := by decide +kernel
theorem d_M_noClass_20 : decode b_M_noClass 20 = .ok (.goto 4, 3) := by decide +kernel
theorem d_M_noClass_23 : decode b_M_noClass 23 = .ok (.iconst 0, 1) := by decide +kernel
theorem d_M_noClass_24 : decode b_M_noClass 24 = .ok (.ireturn, 1) := by decide +kernel
theorem d_M_field_0 : decode b_M_field 0 = .ok (.aload_n 0, 1) := by decide +kernel
theorem d_M_field_1 : decode b_M_field 1 = .ok (.iload_n 1, 1) := by decide +kernel
theorem d_M_field_2 : decode b_M_field 2 = .ok (.invokevirtual 111, 3) := by decide +kernel
theorem d_M_field_5 : decode b_M_field 5 = .ok (.ifCond .ne 33, 3) := by decide +kernel
theorem d_M_field_8 : decode b_M_field 8 = .ok (.aload_n 0, 1) := by decide +kernel
theorem d_M_field_9 : decode b_M_field 9 = .ok (.iload_n 2, 1) := by decide +kernel
theorem d_M_field_10 : decode b_M_field 10 = .ok (.bipush 26, 2) := by decide +kernel
theorem d_M_field_12 : decode b_M_field 12 = .ok (.invokevirtual 92, 3) := by decide +kernel
theorem d_M_field_15 : decode b_M_field 15 = .ok (.ifCond .ne 23, 3) := by decide +kernel
theorem d_M_field_18 : decode b_M_field 18 = .ok (.aload_n 0, 1) := by decide +kernel
theorem d_M_field_19 : decode b_M_field 19 = .ok (.iload_n 3, 1) := by decide +kernel
theorem d_M_field_20 : decode b_M_field 20 = .ok (.bipush 8, 2) := by decide +kernel
theorem d_M_field_22 : decode b_M_field 22 = .ok (.invokevirtual 92, 3) := by decide +kernel
theorem d_M_field_25 : decode b_M_field 25 = .ok (.ifCond .ne 13, 3) := by decide +kernel
theorem d_M_field_28 : decode b_M_field 28 = .ok (.aload_n 0, 1) := by decide +kernel
theorem d_M_field_29 : decode b_M_field 29 = .ok (.getfield 13, 3) := by decide +kernel
theorem d_M_field_32 : decode b_M_field 32 = .ok (.iload_n 1, 1) := by decide +kernel
theorem d_M_field_33 : decode b_M_field 33 = .ok (.iaload, 1) := by decide +kernel
theorem d_M_field_34 : decode b_M_field 34 = .ok (.iconst 3, 1) := by decide +kernel
theorem d_M_field_35 : decode b_M_field 35 = .ok (.if_icmp .ne 5, 3) := by decide +kernel
theorem d_M_field_38 : decode b_M_field 38 = .ok (.iconst (-1), 1) := by decide +kernel
theorem d_M_field_39 : decode b_M_field 39 = .ok (.ireturn, 1) := by decide +kernel
theorem d_M_field_40 : decode b_M_field 40 = .ok (.iconst 0, 1) := by decide +kernel
theorem d_M_field_41 : decode b_M_field 41 = .ok (.istore 5, 2) := by decide +kernel
theorem d_M_field_43 : decode b_M_field 43 = .ok (.iload 5, 2) := by decide +kernel
theorem d_M_field_45 : decode b_M_field 45 = .ok (.aload_n 0, 1) := by decide +kernel
theorem d_M_field_46 : decode b_M_field 46 = .ok (.getfield 115, 3) := by decide +kernel
theorem d_M_field_49 : decode b_M_field 49 = .ok (.if_icmp .ge 36, 3) := by decide +kernel
theorem d_M_field_52 : decode b_M_field 52 = .ok (.aload_n 0, 1) := by decide +kernel
theorem d_M_field_53 : decode b_M_field 53 = .ok (.getfield 36, 3) := by decide +kernel
theorem d_M_field_56 : decode b_M_field 56 = .ok (.iload 5, 2) := by decide +kernel
theorem d_M_field_58 : decode b_M_field 58 = .ok (.iaload, 1) := by decide +kernel
theorem d_M_field_59 : decode b_M_field 59 = .ok (.ifCond .ne 20, 3) := by decide +kernel
theorem d_M_field_62 : decode b_M_field 62 = .ok (.aload_n 0, 1) := by decide +kernel
theorem d_M_field_63 : decode b_M_field 63 = .ok (.aload_n 0, 1) := by decide +kernel
theorem d_M_field_64 : decode b_M_field 64 = .ok (.getfield 39, 3) := by decide +kernel
theorem d_M_field_67 : decode b_M_field 67 = .ok (.iload 5, 2) := by decide +kernel
theorem d_M_field_69 : decode b_M_field 69 = .ok (.iaload, 1) := by decide +kernel
theorem d_M_field_70 : decode b_M_field 70 = .ok (.iload_n 1, 1) := by decide +kernel
theorem d_M_field_71 : decode b_M_field 71 = .ok (.invokevirtual 118, 3) := by decide +kernel
theorem d_M_field_74 : decode b_M_field 74 = .ok (.ifCond .eq 5, 3) := by decide +kernel
theorem d_M_field_77 : decode b_M_field 77 = .ok (.iconst (-1), 1) := by decide +kernel
theorem d_M_field_78 : decode b_M_field 78 = .ok (.ireturn, 1) := by decide +kernel
theorem d_M_field_79 : decode b_M_field 79 = .ok (.iinc 5 1, 3) := by decide +kernel
theorem d_M_field_82 : decode b_M_field 82 = .ok (.goto (-39), 3) := by decide +kernel
theorem d_M_field_85 : decode b_M_field 85 = .ok (.iconst 0, 1) := by decide +kernel
theorem d_M_field_86 : decode b_M_field 86 = .ok (.istore 5, 2) := by decide +kernel
theorem d_M_field_88 : decode b_M_field 88 = .ok (.iload 5, 2) := by decide +kernel
theorem d_M_field_90 : decode b_M_field 90 = .ok (.aload_n 0, 1) := by decide +kernel
theorem d_M_field_91 : decode b_M_field 91 = .ok (.getfield 24, 3) := by decide +kernel
theorem d_M_field_94 : decode b_M_field 94 = .ok (.iload_n 1, 1) := by decide +kernel
theorem d_M_field_95 : decode b_M_field 95 = .ok (.iaload, 1) := by decide +kernel
theorem d_M_field_96 : decode b_M_field 96 = .ok (.if_icmp .ge 26, 3) := by decide +kernel
theorem d_M_field_99 : decode b_M_field 99 = .ok (.aload_n 0, 1) := by decide +kernel
theorem d_M_field_100 : decode b_M_field 100 = .ok (.getfield 27, 3) := by decide +kernel
theorem d_M_field_103 : decode b_M_field 103 = .ok (.iconst 4, 1) := by decide +kernel
theorem d_M_field_104 : decode b_M_field 104 = .ok (.iload_n 1, 1) := by decide +kernel
theorem d_M_field_105 : decode b_M_field 105 = .ok (.imul, 1) := by decide +kernel
theorem d_M_field_106 : decode b_M_field 106 = .ok (.iload 5, 2) := by decide +kernel
theorem d_M_field_108 : decode b_M_field 108 = .ok (.iadd, 1) := by decide +kernel
theorem d_M_field_109 : decode b_M_field 109 = .ok (.iaload, 1) := by decide +kernel
theorem d_M_field_110 : decode b_M_field 110 = .ok (.iload_n 2, 1) := by decide +kernel
theorem d_M_field_111 : decode b_M_field 111 = .ok (.if_icmp .ne 5, 3) := by decide +kernel
theorem d_M_field_114 : decode b_M_field 114 = .ok (.iconst (-1), 1) := by decide +kernel
theorem d_M_field_115 : decode b_M_field 115 = .ok (.ireturn, 1) := by decide +kernel
theorem d_M_field_116 : decode b_M_field 116 = .ok (.iinc 5 1, 3) := by decide +kernel
theorem d_M_field_119 : decode b_M_field 119 = .ok (.goto (-31), 3) := by decide +kernel
theorem d_M_field_122 : decode b_M_field 122 = .ok (.aload_n 0, 1) := by decide +kernel
theorem d_M_field_123 : decode b_M_field 123 = .ok (.getfield 24, 3) := by decide +kernel
theorem d_M_field_126 : decode b_M_field 126 = .ok (.iload_n 1, 1) := by decide +kernel
theorem d_M_field_127 : decode b_M_field 127 = .ok (.iaload, 1) := by decide +kernel
theorem d_M_field_128 : decode b_M_field 128 = .ok (.iconst 4, 1) := by decide +kernel
theorem d_M_field_129 : decode b_M_field 129 = .ok (.if_icmp .ne 5, 3) := by decide +kernel
theorem d_M_field_132 : decode b_M_field 132 = .ok (.iconst (-1), 1) := by decide +kernel
theorem d_M_field_133 : decode b_M_field 133 = .ok (.ireturn, 1) := by decide +kernel
theorem d_M_field_134 : decode b_M_field 134 = .ok (.iconst 4, 1) := by decide +kernel
theorem d_M_field_135 : decode b_M_field 135 = .ok (.iload_n 1, 1) := by decide +kernel
theorem d_M_field_136 : decode b_M_field 136 = .ok (.imul, 1) := by decide +kernel
theorem d_M_field_137 : decode b_M_field 137 = .ok (.aload_n 0, 1) := by decide +kernel
theorem d_M_field_138 : decode b_M_field 138 = .ok (.getfield 24, 3) := by decide +kernel
theorem d_M_field_141 : decode b_M_field 141 = .ok (.iload_n 1, 1) := by decide +kernel
theorem d_M_field_142 : decode b_M_field 142 = .ok (.iaload, 1) := by decide +kernel
theorem d_M_field_143 : decode b_M_field 143 = .ok (.iadd, 1) := by decide +kernel
theorem d_M_field_144 : decode b_M_field 144 = .ok (.istore 5, 2) := by decide +kernel
theorem d_M_field_146 : decode b_M_field 146 = .ok (.aload_n 0, 1) := by decide +kernel
theorem d_M_field_147 : decode b_M_field 147 = .ok (.getfield 27, 3) := by decide +kernel
theorem d_M_field_150 : decode b_M_field 150 = .ok (.iload 5, 2) := by decide +kernel
theorem d_M_field_152 : decode b_M_field 152 = .ok (.iload_n 2, 1) := by decide +kernel
theorem d_M_field_153 : decode b_M_field 153 = .ok (.iastore, 1) := by decide +kernel
theorem d_M_field_154 : decode b_M_field 154 = .ok (.aload_n 0, 1) := by decide +kernel
theorem d_M_field_155 : decode b_M_field 155 = .ok (.getfield 30, 3) := by decide +kernel
theorem d_M_field_158 : decode b_M_field 158 = .ok (.iload 5, 2) := by decide +kernel
theorem d_M_field_160 : decode b_M_field 160 = .ok (.iload_n 3, 1) := by decide +kernel
theorem d_M_field_161 : decode b_M_field 161 = .ok (.iastore, 1) := by decide +kernel
theorem d_M_field_162 : decode b_M_field 162 = .ok (.aload_n 0, 1) := by decide +kernel
theorem d_M_field_163 : decode b_M_field 163 = .ok (.getfield 33, 3) := by decide +kernel
theorem d_M_field_166 : decode b_M_field 166 = .ok (.iload 5, 2) := by decide +kernel
theorem d_M_field_168 : decode b_M_field 168 = .ok (.iload 4, 2) := by decide +kernel
theorem d_M_field_170 : decode b_M_field 170 = .ok (.bastore, 1) := by decide +kernel
theorem d_M_field_171 : decode b_M_field 171 = .ok (.aload_n 0, 1) := by decide +kernel
theorem d_M_field_172 : decode b_M_field 172 = .ok (.getfield 24, 3) := by decide +kernel
theorem d_M_field_175 : decode b_M_field 175 = .ok (.iload_n 1, 1) := by decide +kernel
theorem d_M_field_176 : decode b_M_field 176 = .ok (.dup2, 1) := by decide +kernel
theorem d_M_field_177 : decode b_M_field 177 = .ok (.iaload, 1) := by decide +kernel
theorem d_M_field_178 : decode b_M_field 178 = .ok (.iconst 1, 1) := by decide +kernel
theorem d_M_field_179 : decode b_M_field 179 = .ok (.iadd, 1) := by decide +kernel
theorem d_M_field_180 : decode b_M_field 180 = .ok (.iastore, 1) := by decide +kernel
theorem d_M_field_181 : decode b_M_field 181 = .ok (.aload_n 0, 1) := by decide +kernel
theorem d_M_field_182 : decode b_M_field 182 = .ok (.getfield 24, 3) := by decide +kernel
theorem d_M_field_185 : decode b_M_field 185 = .ok (.iload_n 1, 1) := by decide +kernel
theorem d_M_field_186 : decode b_M_field 186 = .ok (.iaload, 1) := by decide +kernel
theorem d_M_field_187 : decode b_M_field 187 = .ok (.ireturn, 1) := by decide +kernel
theorem d_M_below_0 : decode b_M_below 0 = .ok (.iload_n 1, 1) := by decide +kernel
theorem d_M_below_1 : decode b_M_below 1 = .ok (.istore_n 3, 1) := by decide +kernel
theorem d_M_below_2 : decode b_M_below 2 = .ok (.iconst 0, 1) := by decide +kernel
theorem d_M_below_3 : decode b_M_below 3 = .ok (.istore 4, 2) := by decide +kernel
theorem d_M_below_5 : decode b_M_below 5 = .ok (.iload 4, 2) := by decide +kernel
theorem d_M_below_7 : decode b_M_below 7 = .ok (.bipush 6, 2) := by decide +kernel
theorem d_M_below_9 : decode b_M_below 9 = .ok (.if_icmp .ge 25, 3) := by decide +kernel
theorem d_M_below_12 : decode b_M_below 12 = .ok (.iload_n 3, 1) := by decide +kernel
theorem d_M_below_13 : decode b_M_below 13 = .ok (.ifCond .lt 21, 3) := by decide +kernel
theorem d_M_below_16 : decode b_M_below 16 = .ok (.iload_n 3, 1) := by decide +kernel
theorem d_M_below_17 : decode b_M_below 17 = .ok (.iload_n 2, 1) := by decide +kernel
theorem d_M_below_18 : decode b_M_below 18 = .ok (.if_icmp .eq 16, 3) := by decide +kernel
theorem d_M_below_21 : decode b_M_below 21 = .ok (.aload_n 0, 1) := by decide +kernel
theorem d_M_below_22 : decode b_M_below 22 = .ok (.getfield 17, 3) := by decide +kernel
theorem d_M_below_25 : decode b_M_below 25 = .ok (.iload_n 3, 1) := by decide +kernel
theorem d_M_below_26 : decode b_M_below 26 = .ok (.iaload, 1) := by decide +kernel
theorem d_M_below_27 : decode b_M_below 27 = .ok (.istore_n 3, 1) := by decide +kernel
theorem d_M_below_28 : decode b_M_below 28 = .ok (.iinc 4 1, 3) := by decide +kernel
theorem d_M_below_31 : decode b_M_below 31 = .ok (.goto (-26), 3) := by decide +kernel
theorem d_M_below_34 : decode b_M_below 34 = .ok (.iload_n 3, 1) := by decide +kernel
theorem d_M_below_35 : decode b_M_below 35 = .ok (.iload_n 2, 1) := by decide +kernel
theorem d_M_below_36 : decode b_M_below 36 = .ok (.if_icmp .ne 7, 3) := by decide +kernel
theorem d_M_below_39 : decode b_M_below 39 = .ok (.iconst 1, 1) := by decide +kernel
theorem d_M_below_40 : decode b_M_below 40 = .ok (.goto 4, 3) := by decide +kernel
theorem d_M_below_43 : decode b_M_below 43 = .ok (.iconst 0, 1) := by decide +kernel
theorem d_M_below_44 : decode b_M_below 44 = .ok (.ireturn, 1) := by decide +kernel
theorem d_M_instance_0 : decode b_M_instance 0 = .ok (.aload_n 0, 1) := by decide +kernel
theorem d_M_instance_1 : decode b_M_instance 1 = .ok (.iload_n 1, 1) := by decide +kernel
theorem d_M_instance_2 : decode b_M_instance 2 = .ok (.invokevirtual 111, 3) := by decide +kernel
theorem d_M_instance_5 : decode b_M_instance 5 = .ok (.ifCond .ne 13, 3) := by decide +kernel
theorem d_M_instance_8 : decode b_M_instance 8 = .ok (.aload_n 0, 1) := by decide +kernel
theorem d_M_instance_9 : decode b_M_instance 9 = .ok (.getfield 13, 3) := by decide +kernel
theorem d_M_instance_12 : decode b_M_instance 12 = .ok (.iload_n 1, 1) := by decide +kernel
theorem d_M_instance_13 : decode b_M_instance 13 = .ok (.iaload, 1) := by decide +kernel
theorem d_M_instance_14 : decode b_M_instance 14 = .ok (.iconst 3, 1) := by decide +kernel
theorem d_M_instance_15 : decode b_M_instance 15 = .ok (.if_icmp .ne 5, 3) := by decide +kernel
theorem d_M_instance_18 : decode b_M_instance 18 = .ok (.iconst (-1), 1) := by decide +kernel
theorem d_M_instance_19 : decode b_M_instance 19 = .ok (.ireturn, 1) := by decide +kernel
theorem d_M_instance_20 : decode b_M_instance 20 = .ok (.aload_n 0, 1) := by decide +kernel
theorem d_M_instance_21 : decode b_M_instance 21 = .ok (.iconst 0, 1) := by decide +kernel
theorem d_M_instance_22 : decode b_M_instance 22 = .ok (.aload_n 0, 1) := by decide +kernel
theorem d_M_instance_23 : decode b_M_instance 23 = .ok (.iload_n 1, 1) := by decide +kernel
theorem d_M_instance_24 : decode b_M_instance 24 = .ok (.invokevirtual 121, 3) := by decide +kernel
theorem d_M_instance_27 : decode b_M_instance 27 = .ok (.aload_n 0, 1) := by decide +kernel
theorem d_M_instance_28 : decode b_M_instance 28 = .ok (.getfield 24, 3) := by decide +kernel
theorem d_M_instance_31 : decode b_M_instance 31 = .ok (.iload_n 1, 1) := by decide +kernel
theorem d_M_instance_32 : decode b_M_instance 32 = .ok (.iaload, 1) := by decide +kernel
theorem d_M_instance_33 : decode b_M_instance 33 = .ok (.iadd, 1) := by decide +kernel
theorem d_M_instance_34 : decode b_M_instance 34 = .ok (.invokevirtual 129, 3) := by decide +kernel
theorem d_M_instance_37 : decode b_M_instance 37 = .ok (.istore_n 2, 1) := by decide +kernel
theorem d_M_instance_38 : decode b_M_instance 38 = .ok (.iload_n 2, 1) := by decide +kernel
theorem d_M_instance_39 : decode b_M_instance 39 = .ok (.ifCond .ge 6, 3) := by decide +kernel
theorem d_M_instance_42 : decode b_M_instance 42 = .ok (.bipush (-2), 2) := by decide +kernel
theorem d_M_instance_44 : decode b_M_instance 44 = .ok (.ireturn, 1) := by decide +kernel
theorem d_M_instance_45 : decode b_M_instance 45 = .ok (.aload_n 0, 1) := by decide +kernel
theorem d_M_instance_46 : decode b_M_instance 46 = .ok (.getfield 39, 3) := by decide +kernel
theorem d_M_instance_49 : decode b_M_instance 49 = .ok (.iload_n 2, 1) := by decide +kernel
theorem d_M_instance_50 : decode b_M_instance 50 = .ok (.iload_n 1, 1) := by decide +kernel
theorem d_M_instance_51 : decode b_M_instance 51 = .ok (.iastore, 1) := by decide +kernel
theorem d_M_instance_52 : decode b_M_instance 52 = .ok (.iconst 0, 1) := by decide +kernel
theorem d_M_instance_53 : decode b_M_instance 53 = .ok (.istore_n 3, 1) := by decide +kernel
theorem d_M_instance_54 : decode b_M_instance 54 = .ok (.iload_n 3, 1) := by decide +kernel
theorem d_M_instance_55 : decode b_M_instance 55 = .ok (.aload_n 0, 1) := by decide +kernel
theorem d_M_instance_56 : decode b_M_instance 56 = .ok (.getfield 45, 3) := by decide +kernel
theorem d_M_instance_59 : decode b_M_instance 59 = .ok (.iload_n 2, 1) := by decide +kernel
theorem d_M_instance_60 : decode b_M_instance 60 = .ok (.iaload, 1) := by decide +kernel
theorem d_M_instance_61 : decode b_M_instance 61 = .ok (.if_icmp .ge 33, 3) := by decide +kernel
theorem d_M_instance_64 : decode b_M_instance 64 = .ok (.aload_n 0, 1) := by decide +kernel
theorem d_M_instance_65 : decode b_M_instance 65 = .ok (.iload_n 2, 1) := by decide +kernel
theorem d_M_instance_66 : decode b_M_instance 66 = .ok (.iload_n 3, 1) := by decide +kernel
theorem d_M_instance_67 : decode b_M_instance 67 = .ok (.invokevirtual 132, 3) := by decide +kernel
theorem d_M_instance_70 : decode b_M_instance 70 = .ok (.iconst 5, 1) := by decide +kernel
theorem d_M_instance_71 : decode b_M_instance 71 = .ok (.if_icmp .le 17, 3) := by decide +kernel
theorem d_M_instance_74 : decode b_M_instance 74 = .ok (.aload_n 0, 1) := by decide +kernel
theorem d_M_instance_75 : decode b_M_instance 75 = .ok (.getfield 48, 3) := by decide +kernel
theorem d_M_instance_78 : decode b_M_instance 78 = .ok (.bipush 24, 2) := by decide +kernel
theorem d_M_instance_80 : decode b_M_instance 80 = .ok (.iload_n 2, 1) := by decide +kernel
theorem d_M_instance_81 : decode b_M_instance 81 = .ok (.imul, 1) := by decide +kernel
theorem d_M_instance_82 : decode b_M_instance 82 = .ok (.iload_n 3, 1) := by decide +kernel
theorem d_M_instance_83 : decode b_M_instance 83 = .ok (.iadd, 1) := by decide +kernel
theorem d_M_instance_84 : decode b_M_instance 84 = .ok (.ldc2_w 135, 3) := by decide +kernel
theorem d_M_instance_87 : decode b_M_instance 87 = .ok (.lastore, 1) := by decide +kernel
theorem d_M_instance_88 : decode b_M_instance 88 = .ok (.iinc 3 1, 3) := by decide +kernel
theorem d_M_instance_91 : decode b_M_instance 91 = .ok (.goto (-37), 3) := by decide +kernel
theorem d_M_instance_94 : decode b_M_instance 94 = .ok (.iload_n 2, 1) := by decide +kernel
theorem d_M_instance_95 : decode b_M_instance 95 = .ok (.ireturn, 1) := by decide +kernel
theorem d_M_firstSlot_0 : decode b_M_firstSlot 0 = .ok (.iconst 0, 1) := by decide +kernel
theorem d_M_firstSlot_1 : decode b_M_firstSlot 1 = .ok (.istore_n 2, 1) := by decide +kernel
theorem d_M_firstSlot_2 : decode b_M_firstSlot 2 = .ok (.aload_n 0, 1) := by decide +kernel
theorem d_M_firstSlot_3 : decode b_M_firstSlot 3 = .ok (.getfield 17, 3) := by decide +kernel
theorem d_M_firstSlot_6 : decode b_M_firstSlot 6 = .ok (.iload_n 1, 1) := by decide +kernel
theorem d_M_firstSlot_7 : decode b_M_firstSlot 7 = .ok (.iaload, 1) := by decide +kernel
theorem d_M_firstSlot_8 : decode b_M_firstSlot 8 = .ok (.istore_n 3, 1) := by decide +kernel
theorem d_M_firstSlot_9 : decode b_M_firstSlot 9 = .ok (.iconst 0, 1) := by decide +kernel
theorem d_M_firstSlot_10 : decode b_M_firstSlot 10 = .ok (.istore 4, 2) := by decide +kernel
theorem d_M_firstSlot_12 : decode b_M_firstSlot 12 = .ok (.iload 4, 2) := by decide +kernel
theorem d_M_firstSlot_14 : decode b_M_firstSlot 14 = .ok (.bipush 6, 2) := by decide +kernel
theorem d_M_firstSlot_16 : decode b_M_firstSlot 16 = .ok (.if_icmp .ge 29, 3) := by decide +kernel
theorem d_M_firstSlot_19 : decode b_M_firstSlot 19 = .ok (.iload_n 3, 1) := by decide +kernel
theorem d_M_firstSlot_20 : decode b_M_firstSlot 20 = .ok (.ifCond .lt 25, 3) := by decide +kernel
theorem d_M_firstSlot_23 : decode b_M_firstSlot 23 = .ok (.iload_n 2, 1) := by decide +kernel
theorem d_M_firstSlot_24 : decode b_M_firstSlot 24 = .ok (.aload_n 0, 1) := by decide +kernel
theorem d_M_firstSlot_25 : decode b_M_firstSlot 25 = .ok (.getfield 24, 3) := by decide +kernel
theorem d_M_firstSlot_28 : decode b_M_firstSlot 28 = .ok (.iload_n 3, 1) := by decide +kernel
theorem d_M_firstSlot_29 : decode b_M_firstSlot 29 = .ok (.iaload, 1) := by decide +kernel
theorem d_M_firstSlot_30 : decode b_M_firstSlot 30 = .ok (.iadd, 1) := by decide +kernel
theorem d_M_firstSlot_31 : decode b_M_firstSlot 31 = .ok (.istore_n 2, 1) := by decide +kernel
theorem d_M_firstSlot_32 : decode b_M_firstSlot 32 = .ok (.aload_n 0, 1) := by decide +kernel
theorem d_M_firstSlot_33 : decode b_M_firstSlot 33 = .ok (.getfield 17, 3) := by decide +kernel
theorem d_M_firstSlot_36 : decode b_M_firstSlot 36 = .ok (.iload_n 3, 1) := by decide +kernel
theorem d_M_firstSlot_37 : decode b_M_firstSlot 37 = .ok (.iaload, 1) := by decide +kernel
theorem d_M_firstSlot_38 : decode b_M_firstSlot 38 = .ok (.istore_n 3, 1) := by decide +kernel
theorem d_M_firstSlot_39 : decode b_M_firstSlot 39 = .ok (.iinc 4 1, 3) := by decide +kernel
theorem d_M_firstSlot_42 : decode b_M_firstSlot 42 = .ok (.goto (-30), 3) := by decide +kernel
theorem d_M_firstSlot_45 : decode b_M_firstSlot 45 = .ok (.iload_n 2, 1) := by decide +kernel
theorem d_M_firstSlot_46 : decode b_M_firstSlot 46 = .ok (.ireturn, 1) := by decide +kernel
theorem d_M_begin_0 : decode b_M_begin 0 = .ok (.aload_n 0, 1) := by decide +kernel
theorem d_M_begin_1 : decode b_M_begin 1 = .ok (.getfield 115, 3) := by decide +kernel
theorem d_M_begin_4 : decode b_M_begin 4 = .ok (.bipush 12, 2) := by decide +kernel
theorem d_M_begin_6 : decode b_M_begin 6 = .ok (.if_icmp .ne 6, 3) := by decide +kernel
theorem d_M_begin_9 : decode b_M_begin 9 = .ok (.bipush (-2), 2) := by decide +kernel
theorem d_M_begin_11 : decode b_M_begin 11 = .ok (.ireturn, 1) := by decide +kernel
theorem d_M_begin_12 : decode b_M_begin 12 = .ok (.aload_n 0, 1) := by decide +kernel
theorem d_M_begin_13 : decode b_M_begin 13 = .ok (.getfield 36, 3) := by decide +kernel
theorem d_M_begin_16 : decode b_M_begin 16 = .ok (.aload_n 0, 1) := by decide +kernel
theorem d_M_begin_17 : decode b_M_begin 17 = .ok (.getfield 115, 3) := by decide +kernel
theorem d_M_begin_20 : decode b_M_begin 20 = .ok (.iload_n 1, 1) := by decide +kernel
theorem d_M_begin_21 : decode b_M_begin 21 = .ok (.iastore, 1) := by decide +kernel
theorem d_M_begin_22 : decode b_M_begin 22 = .ok (.aload_n 0, 1) := by decide +kernel
theorem d_M_begin_23 : decode b_M_begin 23 = .ok (.getfield 45, 3) := by decide +kernel
theorem d_M_begin_26 : decode b_M_begin 26 = .ok (.aload_n 0, 1) := by decide +kernel
theorem d_M_begin_27 : decode b_M_begin 27 = .ok (.getfield 115, 3) := by decide +kernel
theorem d_M_begin_30 : decode b_M_begin 30 = .ok (.iload_n 2, 1) := by decide +kernel
theorem d_M_begin_31 : decode b_M_begin 31 = .ok (.iastore, 1) := by decide +kernel
theorem d_M_begin_32 : decode b_M_begin 32 = .ok (.aload_n 0, 1) := by decide +kernel
theorem d_M_begin_33 : decode b_M_begin 33 = .ok (.getfield 51, 3) := by decide +kernel
theorem d_M_begin_36 : decode b_M_begin 36 = .ok (.aload_n 0, 1) := by decide +kernel
theorem d_M_begin_37 : decode b_M_begin 37 = .ok (.getfield 115, 3) := by decide +kernel
theorem d_M_begin_40 : decode b_M_begin 40 = .ok (.iconst (-1), 1) := by decide +kernel
theorem d_M_begin_41 : decode b_M_begin 41 = .ok (.iastore, 1) := by decide +kernel
theorem d_M_begin_42 : decode b_M_begin 42 = .ok (.aload_n 0, 1) := by decide +kernel
theorem d_M_begin_43 : decode b_M_begin 43 = .ok (.getfield 54, 3) := by decide +kernel
theorem d_M_begin_46 : decode b_M_begin 46 = .ok (.aload_n 0, 1) := by decide +kernel
theorem d_M_begin_47 : decode b_M_begin 47 = .ok (.getfield 115, 3) := by decide +kernel
theorem d_M_begin_50 : decode b_M_begin 50 = .ok (.iconst 0, 1) := by decide +kernel
theorem d_M_begin_51 : decode b_M_begin 51 = .ok (.iastore, 1) := by decide +kernel
theorem d_M_begin_52 : decode b_M_begin 52 = .ok (.iconst 0, 1) := by decide +kernel
theorem d_M_begin_53 : decode b_M_begin 53 = .ok (.istore_n 3, 1) := by decide +kernel
theorem d_M_begin_54 : decode b_M_begin 54 = .ok (.iload_n 3, 1) := by decide +kernel
theorem d_M_begin_55 : decode b_M_begin 55 = .ok (.bipush 24, 2) := by decide +kernel
theorem d_M_begin_57 : decode b_M_begin 57 = .ok (.if_icmp .ge 24, 3) := by decide +kernel
theorem d_M_begin_60 : decode b_M_begin 60 = .ok (.aload_n 0, 1) := by decide +kernel
theorem d_M_begin_61 : decode b_M_begin 61 = .ok (.getfield 48, 3) := by decide +kernel
theorem d_M_begin_64 : decode b_M_begin 64 = .ok (.bipush 24, 2) := by decide +kernel
theorem d_M_begin_66 : decode b_M_begin 66 = .ok (.aload_n 0, 1) := by decide +kernel
theorem d_M_begin_67 : decode b_M_begin 67 = .ok (.getfield 115, 3) := by decide +kernel
theorem d_M_begin_70 : decode b_M_begin 70 = .ok (.imul, 1) := by decide +kernel
theorem d_M_begin_71 : decode b_M_begin 71 = .ok (.iload_n 3, 1) := by decide +kernel
theorem d_M_begin_72 : decode b_M_begin 72 = .ok (.iadd, 1) := by decide +kernel
theorem d_M_begin_73 : decode b_M_begin 73 = .ok (.lconst 0, 1) := by decide +kernel
theorem d_M_begin_74 : decode b_M_begin 74 = .ok (.lastore, 1) := by decide +kernel
theorem d_M_begin_75 : decode b_M_begin 75 = .ok (.iinc 3 1, 3) := by decide +kernel
theorem d_M_begin_78 : decode b_M_begin 78 = .ok (.goto (-24), 3) := by decide +kernel
theorem d_M_begin_81 : decode b_M_begin 81 = .ok (.aload_n 0, 1) := by decide +kernel
theorem d_M_begin_82 : decode b_M_begin 82 = .ok (.dup, 1) := by decide +kernel
theorem d_M_begin_83 : decode b_M_begin 83 = .ok (.getfield 115, 3) := by decide +kernel
theorem d_M_begin_86 : decode b_M_begin 86 = .ok (.iconst 1, 1) := by decide +kernel
theorem d_M_begin_87 : decode b_M_begin 87 = .ok (.iadd, 1) := by decide +kernel
theorem d_M_begin_88 : decode b_M_begin 88 = .ok (.putfield 115, 3) := by decide +kernel
theorem d_M_begin_91 : decode b_M_begin 91 = .ok (.aload_n 0, 1) := by decide +kernel
theorem d_M_begin_92 : decode b_M_begin 92 = .ok (.getfield 115, 3) := by decide +kernel
theorem d_M_begin_95 : decode b_M_begin 95 = .ok (.iconst 1, 1) := by decide +kernel
theorem d_M_begin_96 : decode b_M_begin 96 = .ok (.isub, 1) := by decide +kernel
theorem d_M_begin_97 : decode b_M_begin 97 = .ok (.ireturn, 1) := by decide +kernel
theorem d_M_slotType_0 : decode b_M_slotType 0 = .ok (.aload_n 0, 1) := by decide +kernel
theorem d_M_slotType_1 : decode b_M_slotType 1 = .ok (.aload_n 0, 1) := by decide +kernel
theorem d_M_slotType_2 : decode b_M_slotType 2 = .ok (.getfield 39, 3) := by decide +kernel
theorem d_M_slotType_5 : decode b_M_slotType 5 = .ok (.iload_n 1, 1) := by decide +kernel
theorem d_M_slotType_6 : decode b_M_slotType 6 = .ok (.iaload, 1) := by decide +kernel
theorem d_M_slotType_7 : decode b_M_slotType 7 = .ok (.iload_n 2, 1) := by decide +kernel
theorem d_M_slotType_8 : decode b_M_slotType 8 = .ok (.invokevirtual 125, 3) := by decide +kernel
theorem d_M_slotType_11 : decode b_M_slotType 11 = .ok (.istore_n 3, 1) := by decide +kernel
theorem d_M_slotType_12 : decode b_M_slotType 12 = .ok (.aload_n 0, 1) := by decide +kernel
theorem d_M_slotType_13 : decode b_M_slotType 13 = .ok (.getfield 30, 3) := by decide +kernel
theorem d_M_slotType_16 : decode b_M_slotType 16 = .ok (.iconst 4, 1) := by decide +kernel
theorem d_M_slotType_17 : decode b_M_slotType 17 = .ok (.iload_n 3, 1) := by decide +kernel
theorem d_M_slotType_18 : decode b_M_slotType 18 = .ok (.imul, 1) := by decide +kernel
theorem d_M_slotType_19 : decode b_M_slotType 19 = .ok (.iload_n 2, 1) := by decide +kernel
theorem d_M_slotType_20 : decode b_M_slotType 20 = .ok (.iadd, 1) := by decide +kernel
theorem d_M_slotType_21 : decode b_M_slotType 21 = .ok (.aload_n 0, 1) := by decide +kernel
theorem d_M_slotType_22 : decode b_M_slotType 22 = .ok (.iload_n 3, 1) := by decide +kernel
theorem d_M_slotType_23 : decode b_M_slotType 23 = .ok (.invokevirtual 121, 3) := by decide +kernel
theorem d_M_slotType_26 : decode b_M_slotType 26 = .ok (.isub, 1) := by decide +kernel
theorem d_M_slotType_27 : decode b_M_slotType 27 = .ok (.iaload, 1) := by decide +kernel
theorem d_M_slotType_28 : decode b_M_slotType 28 = .ok (.ireturn, 1) := by decide +kernel
theorem d_M_holder_0 : decode b_M_holder 0 = .ok (.iload_n 1, 1) := by decide +kernel
theorem d_M_holder_1 : decode b_M_holder 1 = .ok (.istore_n 3, 1) := by decide +kernel
theorem d_M_holder_2 : decode b_M_holder 2 = .ok (.iconst 0, 1) := by decide +kernel
theorem d_M_holder_3 : decode b_M_holder 3 = .ok (.istore 4, 2) := by decide +kernel
theorem d_M_holder_5 : decode b_M_holder 5 = .ok (.iload 4, 2) := by decide +kernel
