/-! each instruction, decoded -/
theorem dX9_init_0 : decode cX9_init 0 = .ok (.aload_n 0, 1) := by decide +kernel
theorem dX9_init_1 : decode cX9_init 1 = .ok (.invokespecial 1, 3) := by decide +kernel
theorem dX9_init_4 : decode cX9_init 4 = .ok (.aload_n 0, 1) := by decide +kernel
theorem dX9_init_5 : decode cX9_init 5 = .ok (.sipush 300, 3) := by decide +kernel
theorem dX9_init_8 : decode cX9_init 8 = .ok (.newarray .byte, 2) := by decide +kernel
theorem dX9_init_10 : decode cX9_init 10 = .ok (.putfield 7, 3) := by decide +kernel
theorem dX9_init_13 : decode cX9_init 13 = .ok (.aload_n 0, 1) := by decide +kernel
theorem dX9_init_14 : decode cX9_init 14 = .ok (.bipush 6, 2) := by decide +kernel
theorem dX9_init_16 : decode cX9_init 16 = .ok (.newarray .int, 2) := by decide +kernel
theorem dX9_init_18 : decode cX9_init 18 = .ok (.putfield 13, 3) := by decide +kernel
theorem dX9_init_21 : decode cX9_init 21 = .ok (.aload_n 0, 1) := by decide +kernel
theorem dX9_init_22 : decode cX9_init 22 = .ok (.iconst 2, 1) := by decide +kernel
theorem dX9_init_23 : decode cX9_init 23 = .ok (.newarray .int, 2) := by decide +kernel
theorem dX9_init_25 : decode cX9_init 25 = .ok (.putfield 17, 3) := by decide +kernel
theorem dX9_init_28 : decode cX9_init 28 = .ok (.aload_n 0, 1) := by decide +kernel
theorem dX9_init_29 : decode cX9_init 29 = .ok (.bipush 12, 2) := by decide +kernel
theorem dX9_init_31 : decode cX9_init 31 = .ok (.newarray .int, 2) := by decide +kernel
theorem dX9_init_33 : decode cX9_init 33 = .ok (.putfield 20, 3) := by decide +kernel
theorem dX9_init_36 : decode cX9_init 36 = .ok (.aload_n 0, 1) := by decide +kernel
theorem dX9_init_37 : decode cX9_init 37 = .ok (.iconst 2, 1) := by decide +kernel
theorem dX9_init_38 : decode cX9_init 38 = .ok (.newarray .int, 2) := by decide +kernel
theorem dX9_init_40 : decode cX9_init 40 = .ok (.putfield 23, 3) := by decide +kernel
theorem dX9_init_43 : decode cX9_init 43 = .ok (.aload_n 0, 1) := by decide +kernel
theorem dX9_init_44 : decode cX9_init 44 = .ok (.bipush 42, 2) := by decide +kernel
theorem dX9_init_46 : decode cX9_init 46 = .ok (.newarray .int, 2) := by decide +kernel
theorem dX9_init_48 : decode cX9_init 48 = .ok (.putfield 26, 3) := by decide +kernel
theorem dX9_init_51 : decode cX9_init 51 = .ok (.aload_n 0, 1) := by decide +kernel
theorem dX9_init_52 : decode cX9_init 52 = .ok (.iconst 2, 1) := by decide +kernel
theorem dX9_init_53 : decode cX9_init 53 = .ok (.newarray .int, 2) := by decide +kernel
theorem dX9_init_55 : decode cX9_init 55 = .ok (.putfield 29, 3) := by decide +kernel
theorem dX9_init_58 : decode cX9_init 58 = .ok (.aload_n 0, 1) := by decide +kernel
theorem dX9_init_59 : decode cX9_init 59 = .ok (.bipush 40, 2) := by decide +kernel
theorem dX9_init_61 : decode cX9_init 61 = .ok (.newarray .int, 2) := by decide +kernel
theorem dX9_init_63 : decode cX9_init 63 = .ok (.putfield 32, 3) := by decide +kernel
theorem dX9_init_66 : decode cX9_init 66 = .ok (.aload_n 0, 1) := by decide +kernel
theorem dX9_init_67 : decode cX9_init 67 = .ok (.sipush 154, 3) := by decide +kernel
theorem dX9_init_70 : decode cX9_init 70 = .ok (.newarray .int, 2) := by decide +kernel
theorem dX9_init_72 : decode cX9_init 72 = .ok (.putfield 35, 3) := by decide +kernel
theorem dX9_init_75 : decode cX9_init 75 = .ok (.aload_n 0, 1) := by decide +kernel
theorem dX9_init_76 : decode cX9_init 76 = .ok (.bipush 30, 2) := by decide +kernel
theorem dX9_init_78 : decode cX9_init 78 = .ok (.newarray .int, 2) := by decide +kernel
theorem dX9_init_80 : decode cX9_init 80 = .ok (.putfield 38, 3) := by decide +kernel
theorem dX9_init_83 : decode cX9_init 83 = .ok (.aload_n 0, 1) := by decide +kernel
theorem dX9_init_84 : decode cX9_init 84 = .ok (.bipush 12, 2) := by decide +kernel
theorem dX9_init_86 : decode cX9_init 86 = .ok (.newarray .int, 2) := by decide +kernel
theorem dX9_init_88 : decode cX9_init 88 = .ok (.putfield 41, 3) := by decide +kernel
theorem dX9_init_91 : decode cX9_init 91 = .ok (.aload_n 0, 1) := by decide +kernel
theorem dX9_init_92 : decode cX9_init 92 = .ok (.bipush 7, 2) := by decide +kernel
theorem dX9_init_94 : decode cX9_init 94 = .ok (.newarray .int, 2) := by decide +kernel
theorem dX9_init_96 : decode cX9_init 96 = .ok (.putfield 44, 3) := by decide +kernel
theorem dX9_init_99 : decode cX9_init 99 = .ok (.aload_n 0, 1) := by decide +kernel
theorem dX9_init_100 : decode cX9_init 100 = .ok (.bipush 7, 2) := by decide +kernel
theorem dX9_init_102 : decode cX9_init 102 = .ok (.newarray .int, 2) := by decide +kernel
theorem dX9_init_104 : decode cX9_init 104 = .ok (.putfield 47, 3) := by decide +kernel
theorem dX9_init_107 : decode cX9_init 107 = .ok (.aload_n 0, 1) := by decide +kernel
theorem dX9_init_108 : decode cX9_init 108 = .ok (.bipush 7, 2) := by decide +kernel
theorem dX9_init_110 : decode cX9_init 110 = .ok (.newarray .int, 2) := by decide +kernel
theorem dX9_init_112 : decode cX9_init 112 = .ok (.putfield 50, 3) := by decide +kernel
theorem dX9_init_115 : decode cX9_init 115 = .ok (.aload_n 0, 1) := by decide +kernel
theorem dX9_init_116 : decode cX9_init 116 = .ok (.bipush 7, 2) := by decide +kernel
theorem dX9_init_118 : decode cX9_init 118 = .ok (.newarray .int, 2) := by decide +kernel
theorem dX9_init_120 : decode cX9_init 120 = .ok (.putfield 53, 3) := by decide +kernel
theorem dX9_init_123 : decode cX9_init 123 = .ok (.aload_n 0, 1) := by decide +kernel
theorem dX9_init_124 : decode cX9_init 124 = .ok (.bipush 7, 2) := by decide +kernel
theorem dX9_init_126 : decode cX9_init 126 = .ok (.newarray .int, 2) := by decide +kernel
theorem dX9_init_128 : decode cX9_init 128 = .ok (.putfield 56, 3) := by decide +kernel
theorem dX9_init_131 : decode cX9_init 131 = .ok (.aload_n 0, 1) := by decide +kernel
theorem dX9_init_132 : decode cX9_init 132 = .ok (.iconst 3, 1) := by decide +kernel
theorem dX9_init_133 : decode cX9_init 133 = .ok (.newarray .int, 2) := by decide +kernel
theorem dX9_init_135 : decode cX9_init 135 = .ok (.putfield 59, 3) := by decide +kernel
theorem dX9_init_138 : decode cX9_init 138 = .ok (.aload_n 0, 1) := by decide +kernel
theorem dX9_init_139 : decode cX9_init 139 = .ok (.invokevirtual 62, 3) := by decide +kernel
theorem dX9_init_142 : decode cX9_init 142 = .ok (.aload_n 0, 1) := by decide +kernel
theorem dX9_init_143 : decode cX9_init 143 = .ok (.getfield 17, 3) := by decide +kernel
theorem dX9_init_146 : decode cX9_init 146 = .ok (.iconst 1, 1) := by decide +kernel
theorem dX9_init_147 : decode cX9_init 147 = .ok (.iconst 2, 1) := by decide +kernel
theorem dX9_init_148 : decode cX9_init 148 = .ok (.iastore, 1) := by decide +kernel
theorem dX9_init_149 : decode cX9_init 149 = .ok (.aload_n 0, 1) := by decide +kernel
theorem dX9_init_150 : decode cX9_init 150 = .ok (.getfield 20, 3) := by decide +kernel
theorem dX9_init_153 : decode cX9_init 153 = .ok (.bipush 6, 2) := by decide +kernel
theorem dX9_init_155 : decode cX9_init 155 = .ok (.bipush 100, 2) := by decide +kernel
theorem dX9_init_157 : decode cX9_init 157 = .ok (.iastore, 1) := by decide +kernel
theorem dX9_init_158 : decode cX9_init 158 = .ok (.aload_n 0, 1) := by decide +kernel
theorem dX9_init_159 : decode cX9_init 159 = .ok (.getfield 20, 3) := by decide +kernel
theorem dX9_init_162 : decode cX9_init 162 = .ok (.bipush 7, 2) := by decide +kernel
theorem dX9_init_164 : decode cX9_init 164 = .ok (.bipush 110, 2) := by decide +kernel
theorem dX9_init_166 : decode cX9_init 166 = .ok (.iastore, 1) := by decide +kernel
theorem dX9_init_167 : decode cX9_init 167 = .ok (.aload_n 0, 1) := by decide +kernel
theorem dX9_init_168 : decode cX9_init 168 = .ok (.getfield 23, 3) := by decide +kernel
theorem dX9_init_171 : decode cX9_init 171 = .ok (.iconst 1, 1) := by decide +kernel
theorem dX9_init_172 : decode cX9_init 172 = .ok (.iconst 2, 1) := by decide +kernel
theorem dX9_init_173 : decode cX9_init 173 = .ok (.iastore, 1) := by decide +kernel
theorem dX9_init_174 : decode cX9_init 174 = .ok (.aload_n 0, 1) := by decide +kernel
theorem dX9_init_175 : decode cX9_init 175 = .ok (.getfield 26, 3) := by decide +kernel
theorem dX9_init_178 : decode cX9_init 178 = .ok (.bipush 22, 2) := by decide +kernel
theorem dX9_init_180 : decode cX9_init 180 = .ok (.bipush 60, 2) := by decide +kernel
theorem dX9_init_182 : decode cX9_init 182 = .ok (.iastore, 1) := by decide +kernel
theorem dX9_init_183 : decode cX9_init 183 = .ok (.aload_n 0, 1) := by decide +kernel
theorem dX9_init_184 : decode cX9_init 184 = .ok (.getfield 26, 3) := by decide +kernel
theorem dX9_init_187 : decode cX9_init 187 = .ok (.bipush 23, 2) := by decide +kernel
theorem dX9_init_189 : decode cX9_init 189 = .ok (.iconst 5, 1) := by decide +kernel
theorem dX9_init_190 : decode cX9_init 190 = .ok (.iastore, 1) := by decide +kernel
theorem dX9_init_191 : decode cX9_init 191 = .ok (.aload_n 0, 1) := by decide +kernel
theorem dX9_init_192 : decode cX9_init 192 = .ok (.getfield 26, 3) := by decide +kernel
theorem dX9_init_195 : decode cX9_init 195 = .ok (.bipush 24, 2) := by decide +kernel
theorem dX9_init_197 : decode cX9_init 197 = .ok (.iconst 1, 1) := by decide +kernel
theorem dX9_init_198 : decode cX9_init 198 = .ok (.iastore, 1) := by decide +kernel
theorem dX9_init_199 : decode cX9_init 199 = .ok (.aload_n 0, 1) := by decide +kernel
theorem dX9_init_200 : decode cX9_init 200 = .ok (.getfield 26, 3) := by decide +kernel
theorem dX9_init_203 : decode cX9_init 203 = .ok (.bipush 25, 2) := by decide +kernel
theorem dX9_init_205 : decode cX9_init 205 = .ok (.bipush 60, 2) := by decide +kernel
theorem dX9_init_207 : decode cX9_init 207 = .ok (.iastore, 1) := by decide +kernel
theorem dX9_init_208 : decode cX9_init 208 = .ok (.aload_n 0, 1) := by decide +kernel
theorem dX9_init_209 : decode cX9_init 209 = .ok (.getfield 26, 3) := by decide +kernel
theorem dX9_init_212 : decode cX9_init 212 = .ok (.bipush 26, 2) := by decide +kernel
theorem dX9_init_214 : decode cX9_init 214 = .ok (.iconst 5, 1) := by decide +kernel
theorem dX9_init_215 : decode cX9_init 215 = .ok (.iastore, 1) := by decide +kernel
theorem dX9_init_216 : decode cX9_init 216 = .ok (.aload_n 0, 1) := by decide +kernel
theorem dX9_init_217 : decode cX9_init 217 = .ok (.getfield 29, 3) := by decide +kernel
theorem dX9_init_220 : decode cX9_init 220 = .ok (.iconst 1, 1) := by decide +kernel
theorem dX9_init_221 : decode cX9_init 221 = .ok (.iconst 1, 1) := by decide +kernel
theorem dX9_init_222 : decode cX9_init 222 = .ok (.iastore, 1) := by decide +kernel
theorem dX9_init_223 : decode cX9_init 223 = .ok (.aload_n 0, 1) := by decide +kernel
theorem dX9_init_224 : decode cX9_init 224 = .ok (.getfield 32, 3) := by decide +kernel
theorem dX9_init_227 : decode cX9_init 227 = .ok (.bipush 20, 2) := by decide +kernel
theorem dX9_init_229 : decode cX9_init 229 = .ok (.iconst 0, 1) := by decide +kernel
theorem dX9_init_230 : decode cX9_init 230 = .ok (.iastore, 1) := by decide +kernel
theorem dX9_init_231 : decode cX9_init 231 = .ok (.aload_n 0, 1) := by decide +kernel
theorem dX9_init_232 : decode cX9_init 232 = .ok (.getfield 32, 3) := by decide +kernel
theorem dX9_init_235 : decode cX9_init 235 = .ok (.bipush 21, 2) := by decide +kernel
theorem dX9_init_237 : decode cX9_init 237 = .ok (.iconst 1, 1) := by decide +kernel
theorem dX9_init_238 : decode cX9_init 238 = .ok (.iastore, 1) := by decide +kernel
theorem dX9_init_239 : decode cX9_init 239 = .ok (.aload_n 0, 1) := by decide +kernel
theorem dX9_init_240 : decode cX9_init 240 = .ok (.invokevirtual 65, 3) := by decide +kernel
theorem dX9_init_243 : decode cX9_init 243 = .ok (.return_, 1) := by decide +kernel
theorem dX9_in_0 : decode cX9_in 0 = .ok (.lload_n 0, 1) := by decide +kernel
theorem dX9_in_1 : decode cX9_in 1 = .ok (.lload_n 2, 1) := by decide +kernel
theorem dX9_in_2 : decode cX9_in 2 = .ok (.lcmp, 1) := by decide +kernel
theorem dX9_in_3 : decode cX9_in 3 = .ok (.ifCond .lt 14, 3) := by decide +kernel
theorem dX9_in_6 : decode cX9_in 6 = .ok (.lload_n 0, 1) := by decide +kernel
theorem dX9_in_7 : decode cX9_in 7 = .ok (.lload 4, 2) := by decide +kernel
theorem dX9_in_9 : decode cX9_in 9 = .ok (.lcmp, 1) := by decide +kernel
theorem dX9_in_10 : decode cX9_in 10 = .ok (.ifCond .gt 7, 3) := by decide +kernel
theorem dX9_in_13 : decode cX9_in 13 = .ok (.iconst 1, 1) := by decide +kernel
theorem dX9_in_14 : decode cX9_in 14 = .ok (.goto 4, 3) := by decide +kernel
theorem dX9_in_17 : decode cX9_in 17 = .ok (.iconst 0, 1) := by decide +kernel
theorem dX9_in_18 : decode cX9_in 18 = .ok (.ireturn, 1) := by decide +kernel
theorem dX9_write_0 : decode cX9_write 0 = .ok (.iload_n 1, 1) := by decide +kernel
theorem dX9_write_1 : decode cX9_write 1 = .ok (.i2l, 1) := by decide +kernel
theorem dX9_write_2 : decode cX9_write 2 = .ok (.lconst 1, 1) := by decide +kernel
theorem dX9_write_3 : decode cX9_write 3 = .ok (.ldc2_w 68, 3) := by decide +kernel
theorem dX9_write_6 : decode cX9_write 6 = .ok (.invokestatic 70, 3) := by decide +kernel
theorem dX9_write_9 : decode cX9_write 9 = .ok (.ifCond .ne 5, 3) := by decide +kernel
theorem dX9_write_12 : decode cX9_write 12 = .ok (.iconst (-1), 1) := by decide +kernel
theorem dX9_write_13 : decode cX9_write 13 = .ok (.ireturn, 1) := by decide +kernel
theorem dX9_write_14 : decode cX9_write 14 = .ok (.aload_n 0, 1) := by decide +kernel
theorem dX9_write_15 : decode cX9_write 15 = .ok (.getfield 74, 3) := by decide +kernel
theorem dX9_write_18 : decode cX9_write 18 = .ok (.iload_n 1, 1) := by decide +kernel
theorem dX9_write_19 : decode cX9_write 19 = .ok (.iadd, 1) := by decide +kernel
theorem dX9_write_20 : decode cX9_write 20 = .ok (.sipush 300, 3) := by decide +kernel
theorem dX9_write_23 : decode cX9_write 23 = .ok (.if_icmp .le 6, 3) := by decide +kernel
theorem dX9_write_26 : decode cX9_write 26 = .ok (.bipush (-3), 2) := by decide +kernel
theorem dX9_write_28 : decode cX9_write 28 = .ok (.ireturn, 1) := by decide +kernel
theorem dX9_write_29 : decode cX9_write 29 = .ok (.iload_n 1, 1) := by decide +kernel
theorem dX9_write_30 : decode cX9_write 30 = .ok (.iconst 1, 1) := by decide +kernel
theorem dX9_write_31 : decode cX9_write 31 = .ok (.isub, 1) := by decide +kernel
theorem dX9_write_32 : decode cX9_write 32 = .ok (.istore 4, 2) := by decide +kernel
theorem dX9_write_34 : decode cX9_write 34 = .ok (.iload 4, 2) := by decide +kernel
theorem dX9_write_36 : decode cX9_write 36 = .ok (.ifCond .lt 37, 3) := by decide +kernel
theorem dX9_write_39 : decode cX9_write 39 = .ok (.aload_n 0, 1) := by decide +kernel
theorem dX9_write_40 : decode cX9_write 40 = .ok (.getfield 7, 3) := by decide +kernel
theorem dX9_write_43 : decode cX9_write 43 = .ok (.aload_n 0, 1) := by decide +kernel
theorem dX9_write_44 : decode cX9_write 44 = .ok (.getfield 74, 3) := by decide +kernel
theorem dX9_write_47 : decode cX9_write 47 = .ok (.lload_n 2, 1) := by decide +kernel
theorem dX9_write_48 : decode cX9_write 48 = .ok (.bipush 8, 2) := by decide +kernel
theorem dX9_write_50 : decode cX9_write 50 = .ok (.iload 4, 2) := by decide +kernel
theorem dX9_write_52 : decode cX9_write 52 = .ok (.imul, 1) := by decide +kernel
theorem dX9_write_53 : decode cX9_write 53 = .ok (.lshr, 1) := by decide +kernel
theorem dX9_write_54 : decode cX9_write 54 = .ok (.l2i, 1) := by decide +kernel
theorem dX9_write_55 : decode cX9_write 55 = .ok (.i2b, 1) := by decide +kernel
theorem dX9_write_56 : decode cX9_write 56 = .ok (.bastore, 1) := by decide +kernel
theorem dX9_write_57 : decode cX9_write 57 = .ok (.aload_n 0, 1) := by decide +kernel
theorem dX9_write_58 : decode cX9_write 58 = .ok (.dup, 1) := by decide +kernel
theorem dX9_write_59 : decode cX9_write 59 = .ok (.getfield 74, 3) := by decide +kernel
theorem dX9_write_62 : decode cX9_write 62 = .ok (.iconst 1, 1) := by decide +kernel
theorem dX9_write_63 : decode cX9_write 63 = .ok (.iadd, 1) := by decide +kernel
theorem dX9_write_64 : decode cX9_write 64 = .ok (.putfield 74, 3) := by decide +kernel
theorem dX9_write_67 : decode cX9_write 67 = .ok (.iinc 4 (-1), 3) := by decide +kernel
theorem dX9_write_70 : decode cX9_write 70 = .ok (.goto (-36), 3) := by decide +kernel
theorem dX9_write_73 : decode cX9_write 73 = .ok (.aload_n 0, 1) := by decide +kernel
theorem dX9_write_74 : decode cX9_write 74 = .ok (.getfield 74, 3) := by decide +kernel
theorem dX9_write_77 : decode cX9_write 77 = .ok (.ireturn, 1) := by decide +kernel
theorem dX9_wipe_0 : decode cX9_wipe 0 = .ok (.aload_n 0, 1) := by decide +kernel
theorem dX9_wipe_1 : decode cX9_wipe 1 = .ok (.getfield 74, 3) := by decide +kernel
theorem dX9_wipe_4 : decode cX9_wipe 4 = .ok (.istore_n 1, 1) := by decide +kernel
theorem dX9_wipe_5 : decode cX9_wipe 5 = .ok (.aload_n 0, 1) := by decide +kernel
theorem dX9_wipe_6 : decode cX9_wipe 6 = .ok (.iconst 0, 1) := by decide +kernel
theorem dX9_wipe_7 : decode cX9_wipe 7 = .ok (.putfield 74, 3) := by decide +kernel
theorem dX9_wipe_10 : decode cX9_wipe 10 = .ok (.iload_n 1, 1) := by decide +kernel
theorem dX9_wipe_11 : decode cX9_wipe 11 = .ok (.ireturn, 1) := by decide +kernel
theorem dX9_number_0 : decode cX9_number 0 = .ok (.iconst 0, 1) := by decide +kernel
theorem dX9_number_1 : decode cX9_number 1 = .ok (.istore_n 1, 1) := by decide +kernel
theorem dX9_number_2 : decode cX9_number 2 = .ok (.iconst 0, 1) := by decide +kernel
theorem dX9_number_3 : decode cX9_number 3 = .ok (.istore_n 2, 1) := by decide +kernel
theorem dX9_number_4 : decode cX9_number 4 = .ok (.aload_n 0, 1) := by decide +kernel
theorem dX9_number_5 : decode cX9_number 5 = .ok (.getfield 78, 3) := by decide +kernel
theorem dX9_number_8 : decode cX9_number 8 = .ok (.aload_n 0, 1) := by decide +kernel
theorem dX9_number_9 : decode cX9_number 9 = .ok (.getfield 74, 3) := by decide +kernel
theorem dX9_number_12 : decode cX9_number 12 = .ok (.if_icmp .ge 68, 3) := by decide +kernel
theorem dX9_number_15 : decode cX9_number 15 = .ok (.aload_n 0, 1) := by decide +kernel
theorem dX9_number_16 : decode cX9_number 16 = .ok (.getfield 7, 3) := by decide +kernel
theorem dX9_number_19 : decode cX9_number 19 = .ok (.aload_n 0, 1) := by decide +kernel
theorem dX9_number_20 : decode cX9_number 20 = .ok (.getfield 78, 3) := by decide +kernel
theorem dX9_number_23 : decode cX9_number 23 = .ok (.baload, 1) := by decide +kernel
theorem dX9_number_24 : decode cX9_number 24 = .ok (.i2l, 1) := by decide +kernel
theorem dX9_number_25 : decode cX9_number 25 = .ok (.ldc2_w 81, 3) := by decide +kernel
theorem dX9_number_28 : decode cX9_number 28 = .ok (.ldc2_w 83, 3) := by decide +kernel
theorem dX9_number_31 : decode cX9_number 31 = .ok (.invokestatic 70, 3) := by decide +kernel
theorem dX9_number_34 : decode cX9_number 34 = .ok (.ifCond .eq 46, 3) := by decide +kernel
theorem dX9_number_37 : decode cX9_number 37 = .ok (.iload_n 2, 1) := by decide +kernel
theorem dX9_number_38 : decode cX9_number 38 = .ok (.iconst 3, 1) := by decide +kernel
theorem dX9_number_39 : decode cX9_number 39 = .ok (.if_icmp .ge 23, 3) := by decide +kernel
theorem dX9_number_42 : decode cX9_number 42 = .ok (.bipush 10, 2) := by decide +kernel
theorem dX9_number_44 : decode cX9_number 44 = .ok (.iload_n 1, 1) := by decide +kernel
theorem dX9_number_45 : decode cX9_number 45 = .ok (.imul, 1) := by decide +kernel
theorem dX9_number_46 : decode cX9_number 46 = .ok (.aload_n 0, 1) := by decide +kernel
theorem dX9_number_47 : decode cX9_number 47 = .ok (.getfield 7, 3) := by decide +kernel
theorem dX9_number_50 : decode cX9_number 50 = .ok (.aload_n 0, 1) := by decide +kernel
theorem dX9_number_51 : decode cX9_number 51 = .ok (.getfield 78, 3) := by decide +kernel
theorem dX9_number_54 : decode cX9_number 54 = .ok (.baload, 1) := by decide +kernel
theorem dX9_number_55 : decode cX9_number 55 = .ok (.iadd, 1) := by decide +kernel
theorem dX9_number_56 : decode cX9_number 56 = .ok (.bipush 48, 2) := by decide +kernel
theorem dX9_number_58 : decode cX9_number 58 = .ok (.isub, 1) := by decide +kernel
theorem dX9_number_59 : decode cX9_number 59 = .ok (.goto 4, 3) := by decide +kernel
theorem dX9_number_62 : decode cX9_number 62 = .ok (.iload_n 1, 1) := by decide +kernel
theorem dX9_number_63 : decode cX9_number 63 = .ok (.istore_n 1, 1) := by decide +kernel
theorem dX9_number_64 : decode cX9_number 64 = .ok (.iinc 2 1, 3) := by decide +kernel
theorem dX9_number_67 : decode cX9_number 67 = .ok (.aload_n 0, 1) := by decide +kernel
theorem dX9_number_68 : decode cX9_number 68 = .ok (.dup, 1) := by decide +kernel
theorem dX9_number_69 : decode cX9_number 69 = .ok (.getfield 78, 3) := by decide +kernel
theorem dX9_number_72 : decode cX9_number 72 = .ok (.iconst 1, 1) := by decide +kernel
theorem dX9_number_73 : decode cX9_number 73 = .ok (.iadd, 1) := by decide +kernel
theorem dX9_number_74 : decode cX9_number 74 = .ok (.putfield 78, 3) := by decide +kernel
theorem dX9_number_77 : decode cX9_number 77 = .ok (.goto (-73), 3) := by decide +kernel
theorem dX9_number_80 : decode cX9_number 80 = .ok (.iload_n 2, 1) := by decide +kernel
theorem dX9_number_81 : decode cX9_number 81 = .ok (.i2l, 1) := by decide +kernel
theorem dX9_number_82 : decode cX9_number 82 = .ok (.lconst 1, 1) := by decide +kernel
theorem dX9_number_83 : decode cX9_number 83 = .ok (.ldc2_w 85, 3) := by decide +kernel
theorem dX9_number_86 : decode cX9_number 86 = .ok (.invokestatic 70, 3) := by decide +kernel
theorem dX9_number_89 : decode cX9_number 89 = .ok (.ifCond .eq 7, 3) := by decide +kernel
theorem dX9_number_92 : decode cX9_number 92 = .ok (.iload_n 1, 1) := by decide +kernel
theorem dX9_number_93 : decode cX9_number 93 = .ok (.goto 4, 3) := by decide +kernel
theorem dX9_number_96 : decode cX9_number 96 = .ok (.iconst (-1), 1) := by decide +kernel
theorem dX9_number_97 : decode cX9_number 97 = .ok (.ireturn, 1) := by decide +kernel
theorem dX9_numbers_0 : decode cX9_numbers 0 = .ok (.iload_n 0, 1) := by decide +kernel
theorem dX9_numbers_1 : decode cX9_numbers 1 = .ok (.bipush 112, 2) := by decide +kernel
theorem dX9_numbers_3 : decode cX9_numbers 3 = .ok (.if_icmp .ne 7, 3) := by decide +kernel
theorem dX9_numbers_6 : decode cX9_numbers 6 = .ok (.iconst 3, 1) := by decide +kernel
theorem dX9_numbers_7 : decode cX9_numbers 7 = .ok (.goto 42, 3) := by decide +kernel
theorem dX9_numbers_10 : decode cX9_numbers 10 = .ok (.iload_n 0, 1) := by decide +kernel
theorem dX9_numbers_11 : decode cX9_numbers 11 = .ok (.bipush 115, 2) := by decide +kernel
theorem dX9_numbers_13 : decode cX9_numbers 13 = .ok (.if_icmp .ne 7, 3) := by decide +kernel
theorem dX9_numbers_16 : decode cX9_numbers 16 = .ok (.iconst 2, 1) := by decide +kernel
theorem dX9_numbers_17 : decode cX9_numbers 17 = .ok (.goto 32, 3) := by decide +kernel
theorem dX9_numbers_20 : decode cX9_numbers 20 = .ok (.iload_n 0, 1) := by decide +kernel
theorem dX9_numbers_21 : decode cX9_numbers 21 = .ok (.bipush 116, 2) := by decide +kernel
theorem dX9_numbers_23 : decode cX9_numbers 23 = .ok (.if_icmp .eq 21, 3) := by decide +kernel
theorem dX9_numbers_26 : decode cX9_numbers 26 = .ok (.iload_n 0, 1) := by decide +kernel
theorem dX9_numbers_27 : decode cX9_numbers 27 = .ok (.bipush 103, 2) := by decide +kernel
theorem dX9_numbers_29 : decode cX9_numbers 29 = .ok (.if_icmp .eq 15, 3) := by decide +kernel
theorem dX9_numbers_32 : decode cX9_numbers 32 = .ok (.iload_n 0, 1) := by decide +kernel
theorem dX9_numbers_33 : decode cX9_numbers 33 = .ok (.bipush 122, 2) := by decide +kernel
theorem dX9_numbers_35 : decode cX9_numbers 35 = .ok (.if_icmp .eq 9, 3) := by decide +kernel
theorem dX9_numbers_38 : decode cX9_numbers 38 = .ok (.iload_n 0, 1) := by decide +kernel
theorem dX9_numbers_39 : decode cX9_numbers 39 = .ok (.bipush 99, 2) := by decide +kernel
theorem dX9_numbers_41 : decode cX9_numbers 41 = .ok (.if_icmp .ne 7, 3) := by decide +kernel
theorem dX9_numbers_44 : decode cX9_numbers 44 = .ok (.iconst 1, 1) := by decide +kernel
theorem dX9_numbers_45 : decode cX9_numbers 45 = .ok (.goto 4, 3) := by decide +kernel
theorem dX9_numbers_48 : decode cX9_numbers 48 = .ok (.iconst 0, 1) := by decide +kernel
theorem dX9_numbers_49 : decode cX9_numbers 49 = .ok (.ireturn, 1) := by decide +kernel
theorem dX9_isItem_0 : decode cX9_isItem 0 = .ok (.aload_n 0, 1) := by decide +kernel
theorem dX9_isItem_1 : decode cX9_isItem 1 = .ok (.getfield 7, 3) := by decide +kernel
theorem dX9_isItem_4 : decode cX9_isItem 4 = .ok (.aload_n 0, 1) := by decide +kernel
theorem dX9_isItem_5 : decode cX9_isItem 5 = .ok (.getfield 78, 3) := by decide +kernel
theorem dX9_isItem_8 : decode cX9_isItem 8 = .ok (.baload, 1) := by decide +kernel
theorem dX9_isItem_9 : decode cX9_isItem 9 = .ok (.istore_n 1, 1) := by decide +kernel
theorem dX9_isItem_10 : decode cX9_isItem 10 = .ok (.aload_n 0, 1) := by decide +kernel
theorem dX9_isItem_11 : decode cX9_isItem 11 = .ok (.dup, 1) := by decide +kernel
theorem dX9_isItem_12 : decode cX9_isItem 12 = .ok (.getfield 78, 3) := by decide +kernel
theorem dX9_isItem_15 : decode cX9_isItem 15 = .ok (.iconst 1, 1) := by decide +kernel
theorem dX9_isItem_16 : decode cX9_isItem 16 = .ok (.iadd, 1) := by decide +kernel
theorem dX9_isItem_17 : decode cX9_isItem 17 = .ok (.putfield 78, 3) := by decide +kernel
theorem dX9_isItem_20 : decode cX9_isItem 20 = .ok (.iload_n 1, 1) := by decide +kernel
theorem dX9_isItem_21 : decode cX9_isItem 21 = .ok (.invokestatic 87, 3) := by decide +kernel
theorem dX9_isItem_24 : decode cX9_isItem 24 = .ok (.istore_n 2, 1) := by decide +kernel
theorem dX9_isItem_25 : decode cX9_isItem 25 = .ok (.iload_n 2, 1) := by decide +kernel
theorem dX9_isItem_26 : decode cX9_isItem 26 = .ok (.ifCond .le 7, 3) := by decide +kernel
theorem dX9_isItem_29 : decode cX9_isItem 29 = .ok (.iconst 1, 1) := by decide +kernel
theorem dX9_isItem_30 : decode cX9_isItem 30 = .ok (.goto 4, 3) := by decide +kernel
theorem dX9_isItem_33 : decode cX9_isItem 33 = .ok (.iconst 0, 1) := by decide +kernel
theorem dX9_isItem_34 : decode cX9_isItem 34 = .ok (.istore_n 3, 1) := by decide +kernel
theorem dX9_isItem_35 : decode cX9_isItem 35 = .ok (.iconst 0, 1) := by decide +kernel
theorem dX9_isItem_36 : decode cX9_isItem 36 = .ok (.istore 4, 2) := by decide +kernel
theorem dX9_isItem_38 : decode cX9_isItem 38 = .ok (.iload 4, 2) := by decide +kernel
theorem dX9_isItem_40 : decode cX9_isItem 40 = .ok (.iload_n 2, 1) := by decide +kernel
theorem dX9_isItem_41 : decode cX9_isItem 41 = .ok (.if_icmp .ge 103, 3) := by decide +kernel
theorem dX9_isItem_44 : decode cX9_isItem 44 = .ok (.iload_n 3, 1) := by decide +kernel
theorem dX9_isItem_45 : decode cX9_isItem 45 = .ok (.ifCond .eq 99, 3) := by decide +kernel
theorem dX9_isItem_48 : decode cX9_isItem 48 = .ok (.iload 4, 2) := by decide +kernel
theorem dX9_isItem_50 : decode cX9_isItem 50 = .ok (.ifCond .eq 28, 3) := by decide +kernel
theorem dX9_isItem_53 : decode cX9_isItem 53 = .ok (.aload_n 0, 1) := by decide +kernel
theorem dX9_isItem_54 : decode cX9_isItem 54 = .ok (.getfield 78, 3) := by decide +kernel
theorem dX9_isItem_57 : decode cX9_isItem 57 = .ok (.aload_n 0, 1) := by decide +kernel
theorem dX9_isItem_58 : decode cX9_isItem 58 = .ok (.getfield 74, 3) := by decide +kernel
theorem dX9_isItem_61 : decode cX9_isItem 61 = .ok (.if_icmp .ge 21, 3) := by decide +kernel
theorem dX9_isItem_64 : decode cX9_isItem 64 = .ok (.aload_n 0, 1) := by decide +kernel
theorem dX9_isItem_65 : decode cX9_isItem 65 = .ok (.getfield 7, 3) := by decide +kernel
theorem dX9_isItem_68 : decode cX9_isItem 68 = .ok (.aload_n 0, 1) := by decide +kernel
theorem dX9_isItem_69 : decode cX9_isItem 69 = .ok (.getfield 78, 3) := by decide +kernel
theorem dX9_isItem_72 : decode cX9_isItem 72 = .ok (.baload, 1) := by decide +kernel
theorem dX9_isItem_73 : decode cX9_isItem 73 = .ok (.bipush 44, 2) := by decide +kernel
theorem dX9_isItem_75 : decode cX9_isItem 75 = .ok (.if_icmp .ne 7, 3) := by decide +kernel
theorem dX9_isItem_78 : decode cX9_isItem 78 = .ok (.iconst 1, 1) := by decide +kernel
theorem dX9_isItem_79 : decode cX9_isItem 79 = .ok (.goto 4, 3) := by decide +kernel
theorem dX9_isItem_82 : decode cX9_isItem 82 = .ok (.iconst 0, 1) := by decide +kernel
theorem dX9_isItem_83 : decode cX9_isItem 83 = .ok (.istore_n 3, 1) := by decide +kernel
theorem dX9_isItem_84 : decode cX9_isItem 84 = .ok (.aload_n 0, 1) := by decide +kernel
theorem dX9_isItem_85 : decode cX9_isItem 85 = .ok (.dup, 1) := by decide +kernel
theorem dX9_isItem_86 : decode cX9_isItem 86 = .ok (.getfield 78, 3) := by decide +kernel
theorem dX9_isItem_89 : decode cX9_isItem 89 = .ok (.iload 4, 2) := by decide +kernel
theorem dX9_isItem_91 : decode cX9_isItem 91 = .ok (.ifCond .ne 7, 3) := by decide +kernel
theorem dX9_isItem_94 : decode cX9_isItem 94 = .ok (.iconst 0, 1) := by decide +kernel
theorem dX9_isItem_95 : decode cX9_isItem 95 = .ok (.goto 4, 3) := by decide +kernel
theorem dX9_isItem_98 : decode cX9_isItem 98 = .ok (.iconst 1, 1) := by decide +kernel
theorem dX9_isItem_99 : decode cX9_isItem 99 = .ok (.iadd, 1) := by decide +kernel
theorem dX9_isItem_100 : decode cX9_isItem 100 = .ok (.putfield 78, 3) := by decide +kernel
theorem dX9_isItem_103 : decode cX9_isItem 103 = .ok (.aload_n 0, 1) := by decide +kernel
theorem dX9_isItem_104 : decode cX9_isItem 104 = .ok (.getfield 59, 3) := by decide +kernel
theorem dX9_isItem_107 : decode cX9_isItem 107 = .ok (.iload 4, 2) := by decide +kernel
theorem dX9_isItem_109 : decode cX9_isItem 109 = .ok (.iload_n 3, 1) := by decide +kernel
theorem dX9_isItem_110 : decode cX9_isItem 110 = .ok (.ifCond .eq 10, 3) := by decide +kernel
theorem dX9_isItem_113 : decode cX9_isItem 113 = .ok (.aload_n 0, 1) := by decide +kernel
theorem dX9_isItem_114 : decode cX9_isItem 114 = .ok (.invokevirtual 91, 3) := by decide +kernel
theorem dX9_isItem_117 : decode cX9_isItem 117 = .ok (.goto 4, 3) := by decide +kernel
theorem dX9_isItem_120 : decode cX9_isItem 120 = .ok (.iconst (-1), 1) := by decide +kernel
theorem dX9_isItem_121 : decode cX9_isItem 121 = .ok (.iastore, 1) := by decide +kernel
theorem dX9_isItem_122 : decode cX9_isItem 122 = .ok (.aload_n 0, 1) := by decide +kernel
theorem dX9_isItem_123 : decode cX9_isItem 123 = .ok (.getfield 59, 3) := by decide +kernel
theorem dX9_isItem_126 : decode cX9_isItem 126 = .ok (.iload 4, 2) := by decide +kernel
theorem dX9_isItem_128 : decode cX9_isItem 128 = .ok (.iaload, 1) := by decide +kernel
theorem dX9_isItem_129 : decode cX9_isItem 129 = .ok (.ifCond .lt 7, 3) := by decide +kernel
theorem dX9_isItem_132 : decode cX9_isItem 132 = .ok (.iconst 1, 1) := by decide +kernel
theorem dX9_isItem_133 : decode cX9_isItem 133 = .ok (.goto 4, 3) := by decide +kernel
theorem dX9_isItem_136 : decode cX9_isItem 136 = .ok (.iconst 0, 1) := by decide +kernel
theorem dX9_isItem_137 : decode cX9_isItem 137 = .ok (.istore_n 3, 1) := by decide +kernel
theorem dX9_isItem_138 : decode cX9_isItem 138 = .ok (.iinc 4 1, 3) := by decide +kernel
theorem dX9_isItem_141 : decode cX9_isItem 141 = .ok (.goto (-103), 3) := by decide +kernel
theorem dX9_isItem_144 : decode cX9_isItem 144 = .ok (.iload_n 3, 1) := by decide +kernel
theorem dX9_isItem_145 : decode cX9_isItem 145 = .ok (.ifCond .eq 32, 3) := by decide +kernel
theorem dX9_isItem_148 : decode cX9_isItem 148 = .ok (.aload_n 0, 1) := by decide +kernel
theorem dX9_isItem_149 : decode cX9_isItem 149 = .ok (.getfield 78, 3) := by decide +kernel
theorem dX9_isItem_152 : decode cX9_isItem 152 = .ok (.aload_n 0, 1) := by decide +kernel
theorem dX9_isItem_153 : decode cX9_isItem 153 = .ok (.getfield 74, 3) := by decide +kernel
theorem dX9_isItem_156 : decode cX9_isItem 156 = .ok (.if_icmp .ge 21, 3) := by decide +kernel
theorem dX9_isItem_159 : decode cX9_isItem 159 = .ok (.aload_n 0, 1) := by decide +kernel
theorem dX9_isItem_160 : decode cX9_isItem 160 = .ok (.getfield 7, 3) := by decide +kernel
theorem dX9_isItem_163 : decode cX9_isItem 163 = .ok (.aload_n 0, 1) := by decide +kernel
theorem dX9_isItem_164 : decode cX9_isItem 164 = .ok (.getfield 78, 3) := by decide +kernel
theorem dX9_isItem_167 : decode cX9_isItem 167 = .ok (.baload, 1) := by decide +kernel
theorem dX9_isItem_168 : decode cX9_isItem 168 = .ok (.bipush 59, 2) := by decide +kernel
theorem dX9_isItem_170 : decode cX9_isItem 170 = .ok (.if_icmp .ne 7, 3) := by decide +kernel
theorem dX9_isItem_173 : decode cX9_isItem 173 = .ok (.iconst 1, 1) := by decide +kernel
theorem dX9_isItem_174 : decode cX9_isItem 174 = .ok (.goto 4, 3) := by decide +kernel
theorem dX9_isItem_177 : decode cX9_isItem 177 = .ok (.iconst 0, 1) := by decide +kernel
theorem dX9_isItem_178 : decode cX9_isItem 178 = .ok (.istore_n 3, 1) := by decide +kernel
theorem dX9_isItem_179 : decode cX9_isItem 179 = .ok (.aload_n 0, 1) := by decide +kernel
theorem dX9_isItem_180 : decode cX9_isItem 180 = .ok (.dup, 1) := by decide +kernel
theorem dX9_isItem_181 : decode cX9_isItem 181 = .ok (.getfield 78, 3) := by decide +kernel
theorem dX9_isItem_184 : decode cX9_isItem 184 = .ok (.iconst 1, 1) := by decide +kernel
theorem dX9_isItem_185 : decode cX9_isItem 185 = .ok (.iadd, 1) := by decide +kernel
theorem dX9_isItem_186 : decode cX9_isItem 186 = .ok (.putfield 78, 3) := by decide +kernel
theorem dX9_isItem_189 : decode cX9_isItem 189 = .ok (.iload_n 3, 1) := by decide +kernel
theorem dX9_isItem_190 : decode cX9_isItem 190 = .ok (.ifCond .eq 15, 3) := by decide +kernel
theorem dX9_isItem_193 : decode cX9_isItem 193 = .ok (.aload_n 0, 1) := by decide +kernel
theorem dX9_isItem_194 : decode cX9_isItem 194 = .ok (.iload_n 1, 1) := by decide +kernel
theorem dX9_isItem_195 : decode cX9_isItem 195 = .ok (.invokevirtual 95, 3) := by decide +kernel
theorem dX9_isItem_198 : decode cX9_isItem 198 = .ok (.ifCond .eq 7, 3) := by decide +kernel
theorem dX9_isItem_201 : decode cX9_isItem 201 = .ok (.iconst 1, 1) := by decide +kernel
theorem dX9_isItem_202 : decode cX9_isItem 202 = .ok (.goto 4, 3) := by decide +kernel
theorem dX9_isItem_205 : decode cX9_isItem 205 = .ok (.iconst 0, 1) := by decide +kernel
theorem dX9_isItem_206 : decode cX9_isItem 206 = .ok (.ireturn, 1) := by decide +kernel
theorem dX9_isGood_0 : decode cX9_isGood 0 = .ok (.aload_n 0, 1) := by decide +kernel
theorem dX9_isGood_1 : decode cX9_isGood 1 = .ok (.getfield 59, 3) := by decide +kernel
theorem dX9_isGood_4 : decode cX9_isGood 4 = .ok (.iconst 0, 1) := by decide +kernel
theorem dX9_isGood_5 : decode cX9_isGood 5 = .ok (.iaload, 1) := by decide +kernel
theorem dX9_isGood_6 : decode cX9_isGood 6 = .ok (.istore_n 2, 1) := by decide +kernel
theorem dX9_isGood_7 : decode cX9_isGood 7 = .ok (.iload_n 1, 1) := by decide +kernel
theorem dX9_isGood_8 : decode cX9_isGood 8 = .ok (.bipush 116, 2) := by decide +kernel
theorem dX9_isGood_10 : decode cX9_isGood 10 = .ok (.if_icmp .ne 57, 3) := by decide +kernel
theorem dX9_isGood_13 : decode cX9_isGood 13 = .ok (.iload_n 2, 1) := by decide +kernel
theorem dX9_isGood_14 : decode cX9_isGood 14 = .ok (.i2l, 1) := by decide +kernel
theorem dX9_isGood_15 : decode cX9_isGood 15 = .ok (.ldc2_w 99, 3) := by decide +kernel
theorem dX9_isGood_18 : decode cX9_isGood 18 = .ok (.ldc2_w 101, 3) := by decide +kernel
theorem dX9_isGood_21 : decode cX9_isGood 21 = .ok (.invokestatic 70, 3) := by decide +kernel
theorem dX9_isGood_24 : decode cX9_isGood 24 = .ok (.ifCond .eq 14, 3) := by decide +kernel
theorem dX9_isGood_27 : decode cX9_isGood 27 = .ok (.aload_n 0, 1) := by decide +kernel
theorem dX9_isGood_28 : decode cX9_isGood 28 = .ok (.getfield 17, 3) := by decide +kernel
theorem dX9_isGood_31 : decode cX9_isGood 31 = .ok (.iconst 1, 1) := by decide +kernel
theorem dX9_isGood_32 : decode cX9_isGood 32 = .ok (.iaload, 1) := by decide +kernel
theorem dX9_isGood_33 : decode cX9_isGood 33 = .ok (.bipush 6, 2) := by decide +kernel
theorem dX9_isGood_35 : decode cX9_isGood 35 = .ok (.if_icmp .ne 5, 3) := by decide +kernel
theorem dX9_isGood_38 : decode cX9_isGood 38 = .ok (.iconst 0, 1) := by decide +kernel
theorem dX9_isGood_39 : decode cX9_isGood 39 = .ok (.ireturn, 1) := by decide +kernel
theorem dX9_isGood_40 : decode cX9_isGood 40 = .ok (.aload_n 0, 1) := by decide +kernel
theorem dX9_isGood_41 : decode cX9_isGood 41 = .ok (.getfield 20, 3) := by decide +kernel
theorem dX9_isGood_44 : decode cX9_isGood 44 = .ok (.bipush 6, 2) := by decide +kernel
theorem dX9_isGood_46 : decode cX9_isGood 46 = .ok (.aload_n 0, 1) := by decide +kernel
theorem dX9_isGood_47 : decode cX9_isGood 47 = .ok (.getfield 17, 3) := by decide +kernel
theorem dX9_isGood_50 : decode cX9_isGood 50 = .ok (.iconst 1, 1) := by decide +kernel
theorem dX9_isGood_51 : decode cX9_isGood 51 = .ok (.iaload, 1) := by decide +kernel
theorem dX9_isGood_52 : decode cX9_isGood 52 = .ok (.iadd, 1) := by decide +kernel
theorem dX9_isGood_53 : decode cX9_isGood 53 = .ok (.iload_n 2, 1) := by decide +kernel
theorem dX9_isGood_54 : decode cX9_isGood 54 = .ok (.iastore, 1) := by decide +kernel
theorem dX9_isGood_55 : decode cX9_isGood 55 = .ok (.aload_n 0, 1) := by decide +kernel
theorem dX9_isGood_56 : decode cX9_isGood 56 = .ok (.getfield 17, 3) := by decide +kernel
theorem dX9_isGood_59 : decode cX9_isGood 59 = .ok (.iconst 1, 1) := by decide +kernel
theorem dX9_isGood_60 : decode cX9_isGood 60 = .ok (.dup2, 1) := by decide +kernel
theorem dX9_isGood_61 : decode cX9_isGood 61 = .ok (.iaload, 1) := by decide +kernel
theorem dX9_isGood_62 : decode cX9_isGood 62 = .ok (.iconst 1, 1) := by decide +kernel
theorem dX9_isGood_63 : decode cX9_isGood 63 = .ok (.iadd, 1) := by decide +kernel
theorem dX9_isGood_64 : decode cX9_isGood 64 = .ok (.iastore, 1) := by decide +kernel
theorem dX9_isGood_65 : decode cX9_isGood 65 = .ok (.iconst 1, 1) := by decide +kernel
theorem dX9_isGood_66 : decode cX9_isGood 66 = .ok (.ireturn, 1) := by decide +kernel
theorem dX9_isGood_67 : decode cX9_isGood 67 = .ok (.iload_n 1, 1) := by decide +kernel
theorem dX9_isGood_68 : decode cX9_isGood 68 = .ok (.bipush 112, 2) := by decide +kernel
theorem dX9_isGood_70 : decode cX9_isGood 70 = .ok (.if_icmp .ne 105, 3) := by decide +kernel
theorem dX9_isGood_73 : decode cX9_isGood 73 = .ok (.iload_n 2, 1) := by decide +kernel
theorem dX9_isGood_74 : decode cX9_isGood 74 = .ok (.aload_n 0, 1) := by decide +kernel
theorem dX9_isGood_75 : decode cX9_isGood 75 = .ok (.getfield 17, 3) := by decide +kernel
theorem dX9_isGood_78 : decode cX9_isGood 78 = .ok (.iconst 1, 1) := by decide +kernel
theorem dX9_isGood_79 : decode cX9_isGood 79 = .ok (.iaload, 1) := by decide +kernel
theorem dX9_isGood_80 : decode cX9_isGood 80 = .ok (.if_icmp .ge 44, 3) := by decide +kernel
theorem dX9_isGood_83 : decode cX9_isGood 83 = .ok (.aload_n 0, 1) := by decide +kernel
theorem dX9_isGood_84 : decode cX9_isGood 84 = .ok (.getfield 59, 3) := by decide +kernel
theorem dX9_isGood_87 : decode cX9_isGood 87 = .ok (.iconst 1, 1) := by decide +kernel
theorem dX9_isGood_88 : decode cX9_isGood 88 = .ok (.iaload, 1) := by decide +kernel
theorem dX9_isGood_89 : decode cX9_isGood 89 = .ok (.i2l, 1) := by decide +kernel
theorem dX9_isGood_90 : decode cX9_isGood 90 = .ok (.ldc2_w 103, 3) := by decide +kernel
theorem dX9_isGood_93 : decode cX9_isGood 93 = .ok (.ldc2_w 105, 3) := by decide +kernel
theorem dX9_isGood_96 : decode cX9_isGood 96 = .ok (.invokestatic 70, 3) := by decide +kernel
theorem dX9_isGood_99 : decode cX9_isGood 99 = .ok (.ifCond .eq 25, 3) := by decide +kernel
theorem dX9_isGood_102 : decode cX9_isGood 102 = .ok (.aload_n 0, 1) := by decide +kernel
theorem dX9_isGood_103 : decode cX9_isGood 103 = .ok (.getfield 59, 3) := by decide +kernel
theorem dX9_isGood_106 : decode cX9_isGood 106 = .ok (.iconst 2, 1) := by decide +kernel
theorem dX9_isGood_107 : decode cX9_isGood 107 = .ok (.iaload, 1) := by decide +kernel
theorem dX9_isGood_108 : decode cX9_isGood 108 = .ok (.bipush 99, 2) := by decide +kernel
theorem dX9_isGood_110 : decode cX9_isGood 110 = .ok (.if_icmp .gt 14, 3) := by decide +kernel
theorem dX9_isGood_113 : decode cX9_isGood 113 = .ok (.aload_n 0, 1) := by decide +kernel
theorem dX9_isGood_114 : decode cX9_isGood 114 = .ok (.getfield 23, 3) := by decide +kernel
theorem dX9_isGood_117 : decode cX9_isGood 117 = .ok (.iconst 1, 1) := by decide +kernel
theorem dX9_isGood_118 : decode cX9_isGood 118 = .ok (.iaload, 1) := by decide +kernel
theorem dX9_isGood_119 : decode cX9_isGood 119 = .ok (.bipush 7, 2) := by decide +kernel
theorem dX9_isGood_121 : decode cX9_isGood 121 = .ok (.if_icmp .ne 5, 3) := by decide +kernel
theorem dX9_isGood_124 : decode cX9_isGood 124 = .ok (.iconst 0, 1) := by decide +kernel
theorem dX9_isGood_125 : decode cX9_isGood 125 = .ok (.ireturn, 1) := by decide +kernel
theorem dX9_isGood_126 : decode cX9_isGood 126 = .ok (.iconst 0, 1) := by decide +kernel
theorem dX9_isGood_127 : decode cX9_isGood 127 = .ok (.istore_n 3, 1) := by decide +kernel
theorem dX9_isGood_128 : decode cX9_isGood 128 = .ok (.iload_n 3, 1) := by decide +kernel
theorem dX9_isGood_129 : decode cX9_isGood 129 = .ok (.iconst 3, 1) := by decide +kernel
theorem dX9_isGood_130 : decode cX9_isGood 130 = .ok (.if_icmp .ge 33, 3) := by decide +kernel
theorem dX9_isGood_133 : decode cX9_isGood 133 = .ok (.aload_n 0, 1) := by decide +kernel
theorem dX9_isGood_134 : decode cX9_isGood 134 = .ok (.getfield 26, 3) := by decide +kernel
theorem dX9_isGood_137 : decode cX9_isGood 137 = .ok (.bipush 21, 2) := by decide +kernel
theorem dX9_isGood_139 : decode cX9_isGood 139 = .ok (.iconst 3, 1) := by decide +kernel
theorem dX9_isGood_140 : decode cX9_isGood 140 = .ok (.aload_n 0, 1) := by decide +kernel
theorem dX9_isGood_141 : decode cX9_isGood 141 = .ok (.getfield 23, 3) := by decide +kernel
theorem dX9_isGood_144 : decode cX9_isGood 144 = .ok (.iconst 1, 1) := by decide +kernel
theorem dX9_isGood_145 : decode cX9_isGood 145 = .ok (.iaload, 1) := by decide +kernel
theorem dX9_isGood_146 : decode cX9_isGood 146 = .ok (.imul, 1) := by decide +kernel
theorem dX9_isGood_147 : decode cX9_isGood 147 = .ok (.iadd, 1) := by decide +kernel
theorem dX9_isGood_148 : decode cX9_isGood 148 = .ok (.iload_n 3, 1) := by decide +kernel
theorem dX9_isGood_149 : decode cX9_isGood 149 = .ok (.iadd, 1) := by decide +kernel
theorem dX9_isGood_150 : decode cX9_isGood 150 = .ok (.aload_n 0, 1) := by decide +kernel
theorem dX9_isGood_151 : decode cX9_isGood 151 = .ok (.getfield 59, 3) := by decide +kernel
theorem dX9_isGood_154 : decode cX9_isGood 154 = .ok (.iload_n 3, 1) := by decide +kernel
theorem dX9_isGood_155 : decode cX9_isGood 155 = .ok (.iaload, 1) := by decide +kernel
theorem dX9_isGood_156 : decode cX9_isGood 156 = .ok (.iastore, 1) := by decide +kernel
theorem dX9_isGood_157 : decode cX9_isGood 157 = .ok (.iinc 3 1, 3) := by decide +kernel
theorem dX9_isGood_160 : decode cX9_isGood 160 = .ok (.goto (-32), 3) := by decide +kernel
theorem dX9_isGood_163 : decode cX9_isGood 163 = .ok (.aload_n 0, 1) := by decide +kernel
theorem dX9_isGood_164 : decode cX9_isGood 164 = .ok (.getfield 23, 3) := by decide +kernel
theorem dX9_isGood_167 : decode cX9_isGood 167 = .ok (.iconst 1, 1) := by decide +kernel
theorem dX9_isGood_168 : decode cX9_isGood 168 = .ok (.dup2, 1) := by decide +kernel
theorem dX9_isGood_169 : decode cX9_isGood 169 = .ok (.iaload, 1) := by decide +kernel
theorem dX9_isGood_170 : decode cX9_isGood 170 = .ok (.iconst 1, 1) := by decide +kernel
theorem dX9_isGood_171 : decode cX9_isGood 171 = .ok (.iadd, 1) := by decide +kernel
theorem dX9_isGood_172 : decode cX9_isGood 172 = .ok (.iastore, 1) := by decide +kernel
theorem dX9_isGood_173 : decode cX9_isGood 173 = .ok (.iconst 1, 1) := by decide +kernel
theorem dX9_isGood_174 : decode cX9_isGood 174 = .ok (.ireturn, 1) := by decide +kernel
theorem dX9_isGood_175 : decode cX9_isGood 175 = .ok (.iload_n 1, 1) := by decide +kernel
theorem dX9_isGood_176 : decode cX9_isGood 176 = .ok (.bipush 115, 2) := by decide +kernel
theorem dX9_isGood_178 : decode cX9_isGood 178 = .ok (.if_icmp .ne 102, 3) := by decide +kernel
theorem dX9_isGood_181 : decode cX9_isGood 181 = .ok (.iload_n 2, 1) := by decide +kernel
theorem dX9_isGood_182 : decode cX9_isGood 182 = .ok (.aload_n 0, 1) := by decide +kernel
theorem dX9_isGood_183 : decode cX9_isGood 183 = .ok (.getfield 23, 3) := by decide +kernel
theorem dX9_isGood_186 : decode cX9_isGood 186 = .ok (.iconst 1, 1) := by decide +kernel
theorem dX9_isGood_187 : decode cX9_isGood 187 = .ok (.iaload, 1) := by decide +kernel
theorem dX9_isGood_188 : decode cX9_isGood 188 = .ok (.if_icmp .ge 39, 3) := by decide +kernel
theorem dX9_isGood_191 : decode cX9_isGood 191 = .ok (.aload_n 0, 1) := by decide +kernel
theorem dX9_isGood_192 : decode cX9_isGood 192 = .ok (.getfield 59, 3) := by decide +kernel
theorem dX9_isGood_195 : decode cX9_isGood 195 = .ok (.iconst 1, 1) := by decide +kernel
theorem dX9_isGood_196 : decode cX9_isGood 196 = .ok (.iaload, 1) := by decide +kernel
theorem dX9_isGood_197 : decode cX9_isGood 197 = .ok (.aload_n 0, 1) := by decide +kernel
theorem dX9_isGood_198 : decode cX9_isGood 198 = .ok (.getfield 23, 3) := by decide +kernel
theorem dX9_isGood_201 : decode cX9_isGood 201 = .ok (.iconst 1, 1) := by decide +kernel
theorem dX9_isGood_202 : decode cX9_isGood 202 = .ok (.iaload, 1) := by decide +kernel
theorem dX9_isGood_203 : decode cX9_isGood 203 = .ok (.if_icmp .ge 24, 3) := by decide +kernel
theorem dX9_isGood_206 : decode cX9_isGood 206 = .ok (.iload_n 2, 1) := by decide +kernel
theorem dX9_isGood_207 : decode cX9_isGood 207 = .ok (.aload_n 0, 1) := by decide +kernel
theorem dX9_isGood_208 : decode cX9_isGood 208 = .ok (.getfield 59, 3) := by decide +kernel
theorem dX9_isGood_211 : decode cX9_isGood 211 = .ok (.iconst 1, 1) := by decide +kernel
theorem dX9_isGood_212 : decode cX9_isGood 212 = .ok (.iaload, 1) := by decide +kernel
theorem dX9_isGood_213 : decode cX9_isGood 213 = .ok (.if_icmp .eq 14, 3) := by decide +kernel
theorem dX9_isGood_216 : decode cX9_isGood 216 = .ok (.aload_n 0, 1) := by decide +kernel
theorem dX9_isGood_217 : decode cX9_isGood 217 = .ok (.getfield 29, 3) := by decide +kernel
theorem dX9_isGood_220 : decode cX9_isGood 220 = .ok (.iconst 1, 1) := by decide +kernel
theorem dX9_isGood_221 : decode cX9_isGood 221 = .ok (.iaload, 1) := by decide +kernel
theorem dX9_isGood_222 : decode cX9_isGood 222 = .ok (.bipush 10, 2) := by decide +kernel
theorem dX9_isGood_224 : decode cX9_isGood 224 = .ok (.if_icmp .ne 5, 3) := by decide +kernel
theorem dX9_isGood_227 : decode cX9_isGood 227 = .ok (.iconst 0, 1) := by decide +kernel
theorem dX9_isGood_228 : decode cX9_isGood 228 = .ok (.ireturn, 1) := by decide +kernel
theorem dX9_isGood_229 : decode cX9_isGood 229 = .ok (.aload_n 0, 1) := by decide +kernel
theorem dX9_isGood_230 : decode cX9_isGood 230 = .ok (.getfield 32, 3) := by decide +kernel
theorem dX9_isGood_233 : decode cX9_isGood 233 = .ok (.bipush 20, 2) := by decide +kernel
theorem dX9_isGood_235 : decode cX9_isGood 235 = .ok (.iconst 2, 1) := by decide +kernel
theorem dX9_isGood_236 : decode cX9_isGood 236 = .ok (.aload_n 0, 1) := by decide +kernel
theorem dX9_isGood_237 : decode cX9_isGood 237 = .ok (.getfield 29, 3) := by decide +kernel
theorem dX9_isGood_240 : decode cX9_isGood 240 = .ok (.iconst 1, 1) := by decide +kernel
theorem dX9_isGood_241 : decode cX9_isGood 241 = .ok (.iaload, 1) := by decide +kernel
theorem dX9_isGood_242 : decode cX9_isGood 242 = .ok (.imul, 1) := by decide +kernel
theorem dX9_isGood_243 : decode cX9_isGood 243 = .ok (.iadd, 1) := by decide +kernel
theorem dX9_isGood_244 : decode cX9_isGood 244 = .ok (.iload_n 2, 1) := by decide +kernel
theorem dX9_isGood_245 : decode cX9_isGood 245 = .ok (.iastore, 1) := by decide +kernel
theorem dX9_isGood_246 : decode cX9_isGood 246 = .ok (.aload_n 0, 1) := by decide +kernel
theorem dX9_isGood_247 : decode cX9_isGood 247 = .ok (.getfield 32, 3) := by decide +kernel
theorem dX9_isGood_250 : decode cX9_isGood 250 = .ok (.bipush 21, 2) := by decide +kernel
theorem dX9_isGood_252 : decode cX9_isGood 252 = .ok (.iconst 2, 1) := by decide +kernel
theorem dX9_isGood_253 : decode cX9_isGood 253 = .ok (.aload_n 0, 1) := by decide +kernel
theorem dX9_isGood_254 : decode cX9_isGood 254 = .ok (.getfield 29, 3) := by decide +kernel
theorem dX9_isGood_257 : decode cX9_isGood 257 = .ok (.iconst 1, 1) := by decide +kernel
theorem dX9_isGood_258 : decode cX9_isGood 258 = .ok (.iaload, 1) := by decide +kernel
theorem dX9_isGood_259 : decode cX9_isGood 259 = .ok (.imul, 1) := by decide +kernel
theorem dX9_isGood_260 : decode cX9_isGood 260 = .ok (.iadd, 1) := by decide +kernel
theorem dX9_isGood_261 : decode cX9_isGood 261 = .ok (.aload_n 0, 1) := by decide +kernel
theorem dX9_isGood_262 : decode cX9_isGood 262 = .ok (.getfield 59, 3) := by decide +kernel
theorem dX9_isGood_265 : decode cX9_isGood 265 = .ok (.iconst 1, 1) := by decide +kernel
theorem dX9_isGood_266 : decode cX9_isGood 266 = .ok (.iaload, 1) := by decide +kernel
theorem dX9_isGood_267 : decode cX9_isGood 267 = .ok (.iastore, 1) := by decide +kernel
theorem dX9_isGood_268 : decode cX9_isGood 268 = .ok (.aload_n 0, 1) := by decide +kernel
theorem dX9_isGood_269 : decode cX9_isGood 269 = .ok (.getfield 29, 3) := by decide +kernel
theorem dX9_isGood_272 : decode cX9_isGood 272 = .ok (.iconst 1, 1) := by decide +kernel
theorem dX9_isGood_273 : decode cX9_isGood 273 = .ok (.dup2, 1) := by decide +kernel
theorem dX9_isGood_274 : decode cX9_isGood 274 = .ok (.iaload, 1) := by decide +kernel
theorem dX9_isGood_275 : decode cX9_isGood 275 = .ok (.iconst 1, 1) := by decide +kernel
theorem dX9_isGood_276 : decode cX9_isGood 276 = .ok (.iadd, 1) := by decide +kernel
theorem dX9_isGood_277 : decode cX9_isGood 277 = .ok (.iastore, 1) := by decide +kernel
theorem dX9_isGood_278 : decode cX9_isGood 278 = .ok (.iconst 1, 1) := by decide +kernel
theorem dX9_isGood_279 : decode cX9_isGood 279 = .ok (.ireturn, 1) := by decide +kernel
theorem dX9_isGood_280 : decode cX9_isGood 280 = .ok (.aload_n 0, 1) := by decide +kernel
theorem dX9_isGood_281 : decode cX9_isGood 281 = .ok (.getfield 13, 3) := by decide +kernel
theorem dX9_isGood_284 : decode cX9_isGood 284 = .ok (.iload_n 1, 1) := by decide +kernel
theorem dX9_isGood_285 : decode cX9_isGood 285 = .ok (.bipush 103, 2) := by decide +kernel
theorem dX9_isGood_287 : decode cX9_isGood 287 = .ok (.if_icmp .ne 7, 3) := by decide +kernel
theorem dX9_isGood_290 : decode cX9_isGood 290 = .ok (.iconst 3, 1) := by decide +kernel
theorem dX9_isGood_291 : decode cX9_isGood 291 = .ok (.goto 14, 3) := by decide +kernel
theorem dX9_isGood_294 : decode cX9_isGood 294 = .ok (.iload_n 1, 1) := by decide +kernel
theorem dX9_isGood_295 : decode cX9_isGood 295 = .ok (.bipush 122, 2) := by decide +kernel
theorem dX9_isGood_297 : decode cX9_isGood 297 = .ok (.if_icmp .ne 7, 3) := by decide +kernel
theorem dX9_isGood_300 : decode cX9_isGood 300 = .ok (.iconst 4, 1) := by decide +kernel
theorem dX9_isGood_301 : decode cX9_isGood 301 = .ok (.goto 4, 3) := by decide +kernel
theorem dX9_isGood_304 : decode cX9_isGood 304 = .ok (.iconst 5, 1) := by decide +kernel
theorem dX9_isGood_305 : decode cX9_isGood 305 = .ok (.iload_n 2, 1) := by decide +kernel
theorem dX9_isGood_306 : decode cX9_isGood 306 = .ok (.iastore, 1) := by decide +kernel
theorem dX9_isGood_307 : decode cX9_isGood 307 = .ok (.iload_n 1, 1) := by decide +kernel
theorem dX9_isGood_308 : decode cX9_isGood 308 = .ok (.bipush 103, 2) := by decide +kernel
theorem dX9_isGood_310 : decode cX9_isGood 310 = .ok (.if_icmp .ne 17, 3) := by decide +kernel
theorem dX9_isGood_313 : decode cX9_isGood 313 = .ok (.iload_n 2, 1) := by decide +kernel
theorem dX9_isGood_314 : decode cX9_isGood 314 = .ok (.bipush 21, 2) := by decide +kernel
theorem dX9_isGood_316 : decode cX9_isGood 316 = .ok (.if_icmp .ge 7, 3) := by decide +kernel
theorem dX9_isGood_319 : decode cX9_isGood 319 = .ok (.iconst 1, 1) := by decide +kernel
theorem dX9_isGood_320 : decode cX9_isGood 320 = .ok (.goto 22, 3) := by decide +kernel
theorem dX9_isGood_323 : decode cX9_isGood 323 = .ok (.iconst 0, 1) := by decide +kernel
theorem dX9_isGood_324 : decode cX9_isGood 324 = .ok (.goto 18, 3) := by decide +kernel
theorem dX9_isGood_327 : decode cX9_isGood 327 = .ok (.iload_n 1, 1) := by decide +kernel
theorem dX9_isGood_328 : decode cX9_isGood 328 = .ok (.bipush 122, 2) := by decide +kernel
theorem dX9_isGood_330 : decode cX9_isGood 330 = .ok (.if_icmp .eq 7, 3) := by decide +kernel
theorem dX9_isGood_333 : decode cX9_isGood 333 = .ok (.iload_n 2, 1) := by decide +kernel
theorem dX9_isGood_334 : decode cX9_isGood 334 = .ok (.ifCond .le 7, 3) := by decide +kernel
theorem dX9_isGood_337 : decode cX9_isGood 337 = .ok (.iconst 1, 1) := by decide +kernel
theorem dX9_isGood_338 : decode cX9_isGood 338 = .ok (.goto 4, 3) := by decide +kernel
theorem dX9_isGood_341 : decode cX9_isGood 341 = .ok (.iconst 0, 1) := by decide +kernel
theorem dX9_isGood_342 : decode cX9_isGood 342 = .ok (.ireturn, 1) := by decide +kernel
theorem dX9_begins_0 : decode cX9_begins 0 = .ok (.aload_n 0, 1) := by decide +kernel
theorem dX9_begins_1 : decode cX9_begins 1 = .ok (.getfield 17, 3) := by decide +kernel
theorem dX9_begins_4 : decode cX9_begins 4 = .ok (.iconst 1, 1) := by decide +kernel
theorem dX9_begins_5 : decode cX9_begins 5 = .ok (.iconst 0, 1) := by decide +kernel
theorem dX9_begins_6 : decode cX9_begins 6 = .ok (.iastore, 1) := by decide +kernel
theorem dX9_begins_7 : decode cX9_begins 7 = .ok (.aload_n 0, 1) := by decide +kernel
theorem dX9_begins_8 : decode cX9_begins 8 = .ok (.getfield 23, 3) := by decide +kernel
theorem dX9_begins_11 : decode cX9_begins 11 = .ok (.iconst 1, 1) := by decide +kernel
theorem dX9_begins_12 : decode cX9_begins 12 = .ok (.iconst 0, 1) := by decide +kernel
theorem dX9_begins_13 : decode cX9_begins 13 = .ok (.iastore, 1) := by decide +kernel
theorem dX9_begins_14 : decode cX9_begins 14 = .ok (.aload_n 0, 1) := by decide +kernel
theorem dX9_begins_15 : decode cX9_begins 15 = .ok (.getfield 29, 3) := by decide +kernel
theorem dX9_begins_18 : decode cX9_begins 18 = .ok (.iconst 1, 1) := by decide +kernel
theorem dX9_begins_19 : decode cX9_begins 19 = .ok (.iconst 0, 1) := by decide +kernel
theorem dX9_begins_20 : decode cX9_begins 20 = .ok (.iastore, 1) := by decide +kernel
theorem dX9_begins_21 : decode cX9_begins 21 = .ok (.aload_n 0, 1) := by decide +kernel
theorem dX9_begins_22 : decode cX9_begins 22 = .ok (.getfield 13, 3) := by decide +kernel
theorem dX9_begins_25 : decode cX9_begins 25 = .ok (.iconst 3, 1) := by decide +kernel
theorem dX9_begins_26 : decode cX9_begins 26 = .ok (.iconst 1, 1) := by decide +kernel
theorem dX9_begins_27 : decode cX9_begins 27 = .ok (.iastore, 1) := by decide +kernel
theorem dX9_begins_28 : decode cX9_begins 28 = .ok (.aload_n 0, 1) := by decide +kernel
theorem dX9_begins_29 : decode cX9_begins 29 = .ok (.getfield 13, 3) := by decide +kernel
theorem dX9_begins_32 : decode cX9_begins 32 = .ok (.iconst 4, 1) := by decide +kernel
theorem dX9_begins_33 : decode cX9_begins 33 = .ok (.iconst 0, 1) := by decide +kernel
theorem dX9_begins_34 : decode cX9_begins 34 = .ok (.iastore, 1) := by decide +kernel
theorem dX9_begins_35 : decode cX9_begins 35 = .ok (.aload_n 0, 1) := by decide +kernel
theorem dX9_begins_36 : decode cX9_begins 36 = .ok (.getfield 13, 3) := by decide +kernel
theorem dX9_begins_39 : decode cX9_begins 39 = .ok (.iconst 5, 1) := by decide +kernel
theorem dX9_begins_40 : decode cX9_begins 40 = .ok (.sipush 300, 3) := by decide +kernel
theorem dX9_begins_43 : decode cX9_begins 43 = .ok (.iastore, 1) := by decide +kernel
theorem dX9_begins_44 : decode cX9_begins 44 = .ok (.return_, 1) := by decide +kernel
theorem dX9_takes_0 : decode cX9_takes 0 = .ok (.aload_n 0, 1) := by decide +kernel
theorem dX9_takes_1 : decode cX9_takes 1 = .ok (.getfield 17, 3) := by decide +kernel
theorem dX9_takes_4 : decode cX9_takes 4 = .ok (.iconst 0, 1) := by decide +kernel
theorem dX9_takes_5 : decode cX9_takes 5 = .ok (.aload_n 0, 1) := by decide +kernel
theorem dX9_takes_6 : decode cX9_takes 6 = .ok (.getfield 17, 3) := by decide +kernel
theorem dX9_takes_9 : decode cX9_takes 9 = .ok (.iconst 1, 1) := by decide +kernel
theorem dX9_takes_10 : decode cX9_takes 10 = .ok (.iaload, 1) := by decide +kernel
theorem dX9_takes_11 : decode cX9_takes 11 = .ok (.iastore, 1) := by decide +kernel
theorem dX9_takes_12 : decode cX9_takes 12 = .ok (.aload_n 0, 1) := by decide +kernel
theorem dX9_takes_13 : decode cX9_takes 13 = .ok (.getfield 23, 3) := by decide +kernel
theorem dX9_takes_16 : decode cX9_takes 16 = .ok (.iconst 0, 1) := by decide +kernel
theorem dX9_takes_17 : decode cX9_takes 17 = .ok (.aload_n 0, 1) := by decide +kernel
theorem dX9_takes_18 : decode cX9_takes 18 = .ok (.getfield 23, 3) := by decide +kernel
theorem dX9_takes_21 : decode cX9_takes 21 = .ok (.iconst 1, 1) := by decide +kernel
theorem dX9_takes_22 : decode cX9_takes 22 = .ok (.iaload, 1) := by decide +kernel
theorem dX9_takes_23 : decode cX9_takes 23 = .ok (.iastore, 1) := by decide +kernel
theorem dX9_takes_24 : decode cX9_takes 24 = .ok (.aload_n 0, 1) := by decide +kernel
theorem dX9_takes_25 : decode cX9_takes 25 = .ok (.getfield 29, 3) := by decide +kernel
theorem dX9_takes_28 : decode cX9_takes 28 = .ok (.iconst 0, 1) := by decide +kernel
theorem dX9_takes_29 : decode cX9_takes 29 = .ok (.aload_n 0, 1) := by decide +kernel
theorem dX9_takes_30 : decode cX9_takes 30 = .ok (.getfield 29, 3) := by decide +kernel
theorem dX9_takes_33 : decode cX9_takes 33 = .ok (.iconst 1, 1) := by decide +kernel
theorem dX9_takes_34 : decode cX9_takes 34 = .ok (.iaload, 1) := by decide +kernel
theorem dX9_takes_35 : decode cX9_takes 35 = .ok (.iastore, 1) := by decide +kernel
theorem dX9_takes_36 : decode cX9_takes 36 = .ok (.iconst 0, 1) := by decide +kernel
theorem dX9_takes_37 : decode cX9_takes 37 = .ok (.istore_n 1, 1) := by decide +kernel
theorem dX9_takes_38 : decode cX9_takes 38 = .ok (.iload_n 1, 1) := by decide +kernel
theorem dX9_takes_39 : decode cX9_takes 39 = .ok (.bipush 21, 2) := by decide +kernel
theorem dX9_takes_41 : decode cX9_takes 41 = .ok (.if_icmp .ge 85, 3) := by decide +kernel
theorem dX9_takes_44 : decode cX9_takes 44 = .ok (.aload_n 0, 1) := by decide +kernel
theorem dX9_takes_45 : decode cX9_takes 45 = .ok (.getfield 26, 3) := by decide +kernel
theorem dX9_takes_48 : decode cX9_takes 48 = .ok (.iload_n 1, 1) := by decide +kernel
theorem dX9_takes_49 : decode cX9_takes 49 = .ok (.aload_n 0, 1) := by decide +kernel
theorem dX9_takes_50 : decode cX9_takes 50 = .ok (.getfield 26, 3) := by decide +kernel
theorem dX9_takes_53 : decode cX9_takes 53 = .ok (.bipush 21, 2) := by decide +kernel
theorem dX9_takes_55 : decode cX9_takes 55 = .ok (.iload_n 1, 1) := by decide +kernel
theorem dX9_takes_56 : decode cX9_takes 56 = .ok (.iadd, 1) := by decide +kernel
theorem dX9_takes_57 : decode cX9_takes 57 = .ok (.iaload, 1) := by decide +kernel
theorem dX9_takes_58 : decode cX9_takes 58 = .ok (.iastore, 1) := by decide +kernel
theorem dX9_takes_59 : decode cX9_takes 59 = .ok (.iload_n 1, 1) := by decide +kernel
theorem dX9_takes_60 : decode cX9_takes 60 = .ok (.bipush 20, 2) := by decide +kernel
theorem dX9_takes_62 : decode cX9_takes 62 = .ok (.if_icmp .ge 18, 3) := by decide +kernel
theorem dX9_takes_65 : decode cX9_takes 65 = .ok (.aload_n 0, 1) := by decide +kernel
theorem dX9_takes_66 : decode cX9_takes 66 = .ok (.getfield 32, 3) := by decide +kernel
theorem dX9_takes_69 : decode cX9_takes 69 = .ok (.iload_n 1, 1) := by decide +kernel
theorem dX9_takes_70 : decode cX9_takes 70 = .ok (.aload_n 0, 1) := by decide +kernel
theorem dX9_takes_71 : decode cX9_takes 71 = .ok (.getfield 32, 3) := by decide +kernel
theorem dX9_takes_74 : decode cX9_takes 74 = .ok (.bipush 20, 2) := by decide +kernel
theorem dX9_takes_76 : decode cX9_takes 76 = .ok (.iload_n 1, 1) := by decide +kernel
theorem dX9_takes_77 : decode cX9_takes 77 = .ok (.iadd, 1) := by decide +kernel
theorem dX9_takes_78 : decode cX9_takes 78 = .ok (.iaload, 1) := by decide +kernel
theorem dX9_takes_79 : decode cX9_takes 79 = .ok (.iastore, 1) := by decide +kernel
theorem dX9_takes_80 : decode cX9_takes 80 = .ok (.iload_n 1, 1) := by decide +kernel
theorem dX9_takes_81 : decode cX9_takes 81 = .ok (.bipush 6, 2) := by decide +kernel
theorem dX9_takes_83 : decode cX9_takes 83 = .ok (.if_icmp .ge 18, 3) := by decide +kernel
theorem dX9_takes_86 : decode cX9_takes 86 = .ok (.aload_n 0, 1) := by decide +kernel
theorem dX9_takes_87 : decode cX9_takes 87 = .ok (.getfield 20, 3) := by decide +kernel
theorem dX9_takes_90 : decode cX9_takes 90 = .ok (.iload_n 1, 1) := by decide +kernel
theorem dX9_takes_91 : decode cX9_takes 91 = .ok (.aload_n 0, 1) := by decide +kernel
theorem dX9_takes_92 : decode cX9_takes 92 = .ok (.getfield 20, 3) := by decide +kernel
theorem dX9_takes_95 : decode cX9_takes 95 = .ok (.bipush 6, 2) := by decide +kernel
theorem dX9_takes_97 : decode cX9_takes 97 = .ok (.iload_n 1, 1) := by decide +kernel
theorem dX9_takes_98 : decode cX9_takes 98 = .ok (.iadd, 1) := by decide +kernel
theorem dX9_takes_99 : decode cX9_takes 99 = .ok (.iaload, 1) := by decide +kernel
theorem dX9_takes_100 : decode cX9_takes 100 = .ok (.iastore, 1) := by decide +kernel
theorem dX9_takes_101 : decode cX9_takes 101 = .ok (.iload_n 1, 1) := by decide +kernel
theorem dX9_takes_102 : decode cX9_takes 102 = .ok (.iconst 3, 1) := by decide +kernel
theorem dX9_takes_103 : decode cX9_takes 103 = .ok (.if_icmp .ge 17, 3) := by decide +kernel
theorem dX9_takes_106 : decode cX9_takes 106 = .ok (.aload_n 0, 1) := by decide +kernel
theorem dX9_takes_107 : decode cX9_takes 107 = .ok (.getfield 13, 3) := by decide +kernel
theorem dX9_takes_110 : decode cX9_takes 110 = .ok (.iload_n 1, 1) := by decide +kernel
theorem dX9_takes_111 : decode cX9_takes 111 = .ok (.aload_n 0, 1) := by decide +kernel
theorem dX9_takes_112 : decode cX9_takes 112 = .ok (.getfield 13, 3) := by decide +kernel
theorem dX9_takes_115 : decode cX9_takes 115 = .ok (.iconst 3, 1) := by decide +kernel
theorem dX9_takes_116 : decode cX9_takes 116 = .ok (.iload_n 1, 1) := by decide +kernel
theorem dX9_takes_117 : decode cX9_takes 117 = .ok (.iadd, 1) := by decide +kernel
theorem dX9_takes_118 : decode cX9_takes 118 = .ok (.iaload, 1) := by decide +kernel
theorem dX9_takes_119 : decode cX9_takes 119 = .ok (.iastore, 1) := by decide +kernel
theorem dX9_takes_120 : decode cX9_takes 120 = .ok (.iinc 1 1, 3) := by decide +kernel
theorem dX9_takes_123 : decode cX9_takes 123 = .ok (.goto (-85), 3) := by decide +kernel
theorem dX9_takes_126 : decode cX9_takes 126 = .ok (.iconst 0, 1) := by decide +kernel
theorem dX9_takes_127 : decode cX9_takes 127 = .ok (.istore_n 1, 1) := by decide +kernel
theorem dX9_takes_128 : decode cX9_takes 128 = .ok (.iload_n 1, 1) := by decide +kernel
theorem dX9_takes_129 : decode cX9_takes 129 = .ok (.bipush 7, 2) := by decide +kernel
theorem dX9_takes_131 : decode cX9_takes 131 = .ok (.if_icmp .ge 26, 3) := by decide +kernel
theorem dX9_takes_134 : decode cX9_takes 134 = .ok (.aload_n 0, 1) := by decide +kernel
theorem dX9_takes_135 : decode cX9_takes 135 = .ok (.getfield 35, 3) := by decide +kernel
theorem dX9_takes_138 : decode cX9_takes 138 = .ok (.iload_n 1, 1) := by decide +kernel
theorem dX9_takes_139 : decode cX9_takes 139 = .ok (.iload_n 1, 1) := by decide +kernel
theorem dX9_takes_140 : decode cX9_takes 140 = .ok (.iastore, 1) := by decide +kernel
theorem dX9_takes_141 : decode cX9_takes 141 = .ok (.aload_n 0, 1) := by decide +kernel
theorem dX9_takes_142 : decode cX9_takes 142 = .ok (.getfield 35, 3) := by decide +kernel
theorem dX9_takes_145 : decode cX9_takes 145 = .ok (.bipush 7, 2) := by decide +kernel
theorem dX9_takes_147 : decode cX9_takes 147 = .ok (.iload_n 1, 1) := by decide +kernel
theorem dX9_takes_148 : decode cX9_takes 148 = .ok (.iadd, 1) := by decide +kernel
theorem dX9_takes_149 : decode cX9_takes 149 = .ok (.iconst 0, 1) := by decide +kernel
theorem dX9_takes_150 : decode cX9_takes 150 = .ok (.iastore, 1) := by decide +kernel
theorem dX9_takes_151 : decode cX9_takes 151 = .ok (.iinc 1 1, 3) := by decide +kernel
theorem dX9_takes_154 : decode cX9_takes 154 = .ok (.goto (-26), 3) := by decide +kernel
theorem dX9_takes_157 : decode cX9_takes 157 = .ok (.aload_n 0, 1) := by decide +kernel
theorem dX9_takes_158 : decode cX9_takes 158 = .ok (.iconst 0, 1) := by decide +kernel
theorem dX9_takes_159 : decode cX9_takes 159 = .ok (.putfield 107, 3) := by decide +kernel
theorem dX9_takes_162 : decode cX9_takes 162 = .ok (.aload_n 0, 1) := by decide +kernel
theorem dX9_takes_163 : decode cX9_takes 163 = .ok (.iconst 0, 1) := by decide +kernel
theorem dX9_takes_164 : decode cX9_takes 164 = .ok (.putfield 110, 3) := by decide +kernel
theorem dX9_takes_167 : decode cX9_takes 167 = .ok (.aload_n 0, 1) := by decide +kernel
theorem dX9_takes_168 : decode cX9_takes 168 = .ok (.iconst 0, 1) := by decide +kernel
theorem dX9_takes_169 : decode cX9_takes 169 = .ok (.putfield 113, 3) := by decide +kernel
theorem dX9_takes_172 : decode cX9_takes 172 = .ok (.aload_n 0, 1) := by decide +kernel
theorem dX9_takes_173 : decode cX9_takes 173 = .ok (.iconst 0, 1) := by decide +kernel
theorem dX9_takes_174 : decode cX9_takes 174 = .ok (.putfield 116, 3) := by decide +kernel
theorem dX9_takes_177 : decode cX9_takes 177 = .ok (.return_, 1) := by decide +kernel
theorem dX9_fault_0 : decode cX9_fault 0 = .ok (.aload_n 0, 1) := by decide +kernel
theorem dX9_fault_1 : decode cX9_fault 1 = .ok (.iconst 0, 1) := by decide +kernel
theorem dX9_fault_2 : decode cX9_fault 2 = .ok (.putfield 78, 3) := by decide +kernel
theorem dX9_fault_5 : decode cX9_fault 5 = .ok (.aload_n 0, 1) := by decide +kernel
theorem dX9_fault_6 : decode cX9_fault 6 = .ok (.invokevirtual 62, 3) := by decide +kernel
theorem dX9_fault_9 : decode cX9_fault 9 = .ok (.aload_n 0, 1) := by decide +kernel
theorem dX9_fault_10 : decode cX9_fault 10 = .ok (.getfield 78, 3) := by decide +kernel
theorem dX9_fault_13 : decode cX9_fault 13 = .ok (.aload_n 0, 1) := by decide +kernel
theorem dX9_fault_14 : decode cX9_fault 14 = .ok (.getfield 74, 3) := by decide +kernel
theorem dX9_fault_17 : decode cX9_fault 17 = .ok (.if_icmp .ge 20, 3) := by decide +kernel
theorem dX9_fault_20 : decode cX9_fault 20 = .ok (.aload_n 0, 1) := by decide +kernel
theorem dX9_fault_21 : decode cX9_fault 21 = .ok (.getfield 78, 3) := by decide +kernel
theorem dX9_fault_24 : decode cX9_fault 24 = .ok (.istore_n 1, 1) := by decide +kernel
theorem dX9_fault_25 : decode cX9_fault 25 = .ok (.aload_n 0, 1) := by decide +kernel
theorem dX9_fault_26 : decode cX9_fault 26 = .ok (.invokevirtual 119, 3) := by decide +kernel
theorem dX9_fault_29 : decode cX9_fault 29 = .ok (.ifCond .ne 5, 3) := by decide +kernel
theorem dX9_fault_32 : decode cX9_fault 32 = .ok (.iload_n 1, 1) := by decide +kernel
theorem dX9_fault_33 : decode cX9_fault 33 = .ok (.ireturn, 1) := by decide +kernel
theorem dX9_fault_34 : decode cX9_fault 34 = .ok (.goto (-25), 3) := by decide +kernel
theorem dX9_fault_37 : decode cX9_fault 37 = .ok (.bipush (-4), 2) := by decide +kernel
theorem dX9_fault_39 : decode cX9_fault 39 = .ok (.ireturn, 1) := by decide +kernel
theorem dX9_lay_0 : decode cX9_lay 0 = .ok (.aload_n 0, 1) := by decide +kernel
theorem dX9_lay_1 : decode cX9_lay 1 = .ok (.invokevirtual 123, 3) := by decide +kernel
theorem dX9_lay_4 : decode cX9_lay 4 = .ok (.bipush (-4), 2) := by decide +kernel
theorem dX9_lay_6 : decode cX9_lay 6 = .ok (.if_icmp .ne 12, 3) := by decide +kernel
theorem dX9_lay_9 : decode cX9_lay 9 = .ok (.aload_n 0, 1) := by decide +kernel
theorem dX9_lay_10 : decode cX9_lay 10 = .ok (.getfield 23, 3) := by decide +kernel
theorem dX9_lay_13 : decode cX9_lay 13 = .ok (.iconst 1, 1) := by decide +kernel
theorem dX9_lay_14 : decode cX9_lay 14 = .ok (.iaload, 1) := by decide +kernel
theorem dX9_lay_15 : decode cX9_lay 15 = .ok (.ifCond .ne 6, 3) := by decide +kernel
theorem dX9_lay_18 : decode cX9_lay 18 = .ok (.bipush (-2), 2) := by decide +kernel
theorem dX9_lay_20 : decode cX9_lay 20 = .ok (.ireturn, 1) := by decide +kernel
theorem dX9_lay_21 : decode cX9_lay 21 = .ok (.aload_n 0, 1) := by decide +kernel
theorem dX9_lay_22 : decode cX9_lay 22 = .ok (.invokevirtual 65, 3) := by decide +kernel
theorem dX9_lay_25 : decode cX9_lay 25 = .ok (.aload_n 0, 1) := by decide +kernel
theorem dX9_lay_26 : decode cX9_lay 26 = .ok (.getfield 23, 3) := by decide +kernel
theorem dX9_lay_29 : decode cX9_lay 29 = .ok (.iconst 0, 1) := by decide +kernel
theorem dX9_lay_30 : decode cX9_lay 30 = .ok (.iaload, 1) := by decide +kernel
theorem dX9_lay_31 : decode cX9_lay 31 = .ok (.ireturn, 1) := by decide +kernel
theorem dX9_isPart_0 : decode cX9_isPart 0 = .ok (.iload_n 1, 1) := by decide +kernel
theorem dX9_isPart_1 : decode cX9_isPart 1 = .ok (.i2l, 1) := by decide +kernel
theorem dX9_isPart_2 : decode cX9_isPart 2 = .ok (.lconst 0, 1) := by decide +kernel
theorem dX9_isPart_3 : decode cX9_isPart 3 = .ok (.aload_n 0, 1) := by decide +kernel
theorem dX9_isPart_4 : decode cX9_isPart 4 = .ok (.getfield 23, 3) := by decide +kernel
theorem dX9_isPart_7 : decode cX9_isPart 7 = .ok (.iconst 0, 1) := by decide +kernel
theorem dX9_isPart_8 : decode cX9_isPart 8 = .ok (.iaload, 1) := by decide +kernel
theorem dX9_isPart_9 : decode cX9_isPart 9 = .ok (.iconst 1, 1) := by decide +kernel
theorem dX9_isPart_10 : decode cX9_isPart 10 = .ok (.isub, 1) := by decide +kernel
theorem dX9_isPart_11 : decode cX9_isPart 11 = .ok (.i2l, 1) := by decide +kernel
theorem dX9_isPart_12 : decode cX9_isPart 12 = .ok (.invokestatic 70, 3) := by decide +kernel
theorem dX9_isPart_15 : decode cX9_isPart 15 = .ok (.ireturn, 1) := by decide +kernel
theorem dX9_isTailor_0 : decode cX9_isTailor 0 = .ok (.iload_n 1, 1) := by decide +kernel
theorem dX9_isTailor_1 : decode cX9_isTailor 1 = .ok (.i2l, 1) := by decide +kernel
theorem dX9_isTailor_2 : decode cX9_isTailor 2 = .ok (.lconst 0, 1) := by decide +kernel
theorem dX9_isTailor_3 : decode cX9_isTailor 3 = .ok (.aload_n 0, 1) := by decide +kernel
theorem dX9_isTailor_4 : decode cX9_isTailor 4 = .ok (.getfield 17, 3) := by decide +kernel
theorem dX9_isTailor_7 : decode cX9_isTailor 7 = .ok (.iconst 0, 1) := by decide +kernel
theorem dX9_isTailor_8 : decode cX9_isTailor 8 = .ok (.iaload, 1) := by decide +kernel
theorem dX9_isTailor_9 : decode cX9_isTailor 9 = .ok (.iconst 1, 1) := by decide +kernel
theorem dX9_isTailor_10 : decode cX9_isTailor 10 = .ok (.isub, 1) := by decide +kernel
theorem dX9_isTailor_11 : decode cX9_isTailor 11 = .ok (.i2l, 1) := by decide +kernel
theorem dX9_isTailor_12 : decode cX9_isTailor 12 = .ok (.invokestatic 70, 3) := by decide +kernel
theorem dX9_isTailor_15 : decode cX9_isTailor 15 = .ok (.ireturn, 1) := by decide +kernel
theorem dX9_slip_0 : decode cX9_slip 0 = .ok (.iload_n 2, 1) := by decide +kernel
theorem dX9_slip_1 : decode cX9_slip 1 = .ok (.iconst 5, 1) := by decide +kernel
theorem dX9_slip_2 : decode cX9_slip 2 = .ok (.if_icmp .ge 7, 3) := by decide +kernel
theorem dX9_slip_5 : decode cX9_slip 5 = .ok (.iload_n 2, 1) := by decide +kernel
theorem dX9_slip_6 : decode cX9_slip 6 = .ok (.goto 4, 3) := by decide +kernel
theorem dX9_slip_9 : decode cX9_slip 9 = .ok (.iconst 5, 1) := by decide +kernel
theorem dX9_slip_10 : decode cX9_slip 10 = .ok (.istore_n 3, 1) := by decide +kernel
theorem dX9_slip_11 : decode cX9_slip 11 = .ok (.ldc2_w 126, 3) := by decide +kernel
theorem dX9_slip_14 : decode cX9_slip 14 = .ok (.iload_n 0, 1) := by decide +kernel
theorem dX9_slip_15 : decode cX9_slip 15 = .ok (.i2l, 1) := by decide +kernel
theorem dX9_slip_16 : decode cX9_slip 16 = .ok (.lmul, 1) := by decide +kernel
theorem dX9_slip_17 : decode cX9_slip 17 = .ok (.ldc2_w 128, 3) := by decide +kernel
theorem dX9_slip_20 : decode cX9_slip 20 = .ok (.iload_n 1, 1) := by decide +kernel
theorem dX9_slip_21 : decode cX9_slip 21 = .ok (.i2l, 1) := by decide +kernel
theorem dX9_slip_22 : decode cX9_slip 22 = .ok (.lmul, 1) := by decide +kernel
theorem dX9_slip_23 : decode cX9_slip 23 = .ok (.ladd, 1) := by decide +kernel
theorem dX9_slip_24 : decode cX9_slip 24 = .ok (.ldc2_w 130, 3) := by decide +kernel
theorem dX9_slip_27 : decode cX9_slip 27 = .ok (.iload_n 2, 1) := by decide +kernel
theorem dX9_slip_28 : decode cX9_slip 28 = .ok (.i2l, 1) := by decide +kernel
theorem dX9_slip_29 : decode cX9_slip 29 = .ok (.lmul, 1) := by decide +kernel
theorem dX9_slip_30 : decode cX9_slip 30 = .ok (.ladd, 1) := by decide +kernel
theorem dX9_slip_31 : decode cX9_slip 31 = .ok (.lconst 1, 1) := by decide +kernel
theorem dX9_slip_32 : decode cX9_slip 32 = .ok (.ladd, 1) := by decide +kernel
theorem dX9_slip_33 : decode cX9_slip 33 = .ok (.lstore 4, 2) := by decide +kernel
theorem dX9_slip_35 : decode cX9_slip 35 = .ok (.lload 4, 2) := by decide +kernel
theorem dX9_slip_37 : decode cX9_slip 37 = .ok (.lload 4, 2) := by decide +kernel
theorem dX9_slip_39 : decode cX9_slip 39 = .ok (.lmul, 1) := by decide +kernel
theorem dX9_slip_40 : decode cX9_slip 40 = .ok (.ldc2_w 132, 3) := by decide +kernel
theorem dX9_slip_43 : decode cX9_slip 43 = .ok (.lrem, 1) := by decide +kernel
theorem dX9_slip_44 : decode cX9_slip 44 = .ok (.iconst 2, 1) := by decide +kernel
theorem dX9_slip_45 : decode cX9_slip 45 = .ok (.iload_n 3, 1) := by decide +kernel
theorem dX9_slip_46 : decode cX9_slip 46 = .ok (.imul, 1) := by decide +kernel
theorem dX9_slip_47 : decode cX9_slip 47 = .ok (.iconst 1, 1) := by decide +kernel
theorem dX9_slip_48 : decode cX9_slip 48 = .ok (.iadd, 1) := by decide +kernel
theorem dX9_slip_49 : decode cX9_slip 49 = .ok (.i2l, 1) := by decide +kernel
theorem dX9_slip_50 : decode cX9_slip 50 = .ok (.lrem, 1) := by decide +kernel
theorem dX9_slip_51 : decode cX9_slip 51 = .ok (.l2i, 1) := by decide +kernel
theorem dX9_slip_52 : decode cX9_slip 52 = .ok (.iload_n 3, 1) := by decide +kernel
theorem dX9_slip_53 : decode cX9_slip 53 = .ok (.isub, 1) := by decide +kernel
theorem dX9_slip_54 : decode cX9_slip 54 = .ok (.ireturn, 1) := by decide +kernel
theorem dX9_cutOf_0 : decode cX9_cutOf 0 = .ok (.aload_n 0, 1) := by decide +kernel
theorem dX9_cutOf_1 : decode cX9_cutOf 1 = .ok (.getfield 26, 3) := by decide +kernel
theorem dX9_cutOf_4 : decode cX9_cutOf 4 = .ok (.iconst 3, 1) := by decide +kernel
theorem dX9_cutOf_5 : decode cX9_cutOf 5 = .ok (.iload_n 1, 1) := by decide +kernel
theorem dX9_cutOf_6 : decode cX9_cutOf 6 = .ok (.imul, 1) := by decide +kernel
theorem dX9_cutOf_7 : decode cX9_cutOf 7 = .ok (.iconst 1, 1) := by decide +kernel
theorem dX9_cutOf_8 : decode cX9_cutOf 8 = .ok (.iadd, 1) := by decide +kernel
theorem dX9_cutOf_9 : decode cX9_cutOf 9 = .ok (.iaload, 1) := by decide +kernel
theorem dX9_cutOf_10 : decode cX9_cutOf 10 = .ok (.iload_n 2, 1) := by decide +kernel
theorem dX9_cutOf_11 : decode cX9_cutOf 11 = .ok (.iadd, 1) := by decide +kernel
theorem dX9_cutOf_12 : decode cX9_cutOf 12 = .ok (.aload_n 0, 1) := by decide +kernel
theorem dX9_cutOf_13 : decode cX9_cutOf 13 = .ok (.getfield 20, 3) := by decide +kernel
theorem dX9_cutOf_16 : decode cX9_cutOf 16 = .ok (.aload_n 0, 1) := by decide +kernel
theorem dX9_cutOf_17 : decode cX9_cutOf 17 = .ok (.getfield 26, 3) := by decide +kernel
theorem dX9_cutOf_20 : decode cX9_cutOf 20 = .ok (.iconst 3, 1) := by decide +kernel
theorem dX9_cutOf_21 : decode cX9_cutOf 21 = .ok (.iload_n 1, 1) := by decide +kernel
theorem dX9_cutOf_22 : decode cX9_cutOf 22 = .ok (.imul, 1) := by decide +kernel
theorem dX9_cutOf_23 : decode cX9_cutOf 23 = .ok (.iconst 0, 1) := by decide +kernel
theorem dX9_cutOf_24 : decode cX9_cutOf 24 = .ok (.iadd, 1) := by decide +kernel
theorem dX9_cutOf_25 : decode cX9_cutOf 25 = .ok (.iaload, 1) := by decide +kernel
theorem dX9_cutOf_26 : decode cX9_cutOf 26 = .ok (.iaload, 1) := by decide +kernel
theorem dX9_cutOf_27 : decode cX9_cutOf 27 = .ok (.imul, 1) := by decide +kernel
theorem dX9_cutOf_28 : decode cX9_cutOf 28 = .ok (.bipush 100, 2) := by decide +kernel
theorem dX9_cutOf_30 : decode cX9_cutOf 30 = .ok (.idiv, 1) := by decide +kernel
theorem dX9_cutOf_31 : decode cX9_cutOf 31 = .ok (.ireturn, 1) := by decide +kernel
theorem dX9_placeOf_0 : decode cX9_placeOf 0 = .ok (.iconst 0, 1) := by decide +kernel
theorem dX9_placeOf_1 : decode cX9_placeOf 1 = .ok (.istore_n 2, 1) := by decide +kernel
theorem dX9_placeOf_2 : decode cX9_placeOf 2 = .ok (.aload_n 0, 1) := by decide +kernel
theorem dX9_placeOf_3 : decode cX9_placeOf 3 = .ok (.getfield 35, 3) := by decide +kernel
theorem dX9_placeOf_6 : decode cX9_placeOf 6 = .ok (.iload_n 2, 1) := by decide +kernel
theorem dX9_placeOf_7 : decode cX9_placeOf 7 = .ok (.iaload, 1) := by decide +kernel
theorem dX9_placeOf_8 : decode cX9_placeOf 8 = .ok (.iload_n 1, 1) := by decide +kernel
theorem dX9_placeOf_9 : decode cX9_placeOf 9 = .ok (.if_icmp .eq 9, 3) := by decide +kernel
theorem dX9_placeOf_12 : decode cX9_placeOf 12 = .ok (.iinc 2 1, 3) := by decide +kernel
theorem dX9_placeOf_15 : decode cX9_placeOf 15 = .ok (.goto (-13), 3) := by decide +kernel
theorem dX9_placeOf_18 : decode cX9_placeOf 18 = .ok (.iload_n 2, 1) := by decide +kernel
theorem dX9_placeOf_19 : decode cX9_placeOf 19 = .ok (.ireturn, 1) := by decide +kernel
theorem dX9_slipNow_0 : decode cX9_slipNow 0 = .ok (.aload_n 0, 1) := by decide +kernel
theorem dX9_slipNow_1 : decode cX9_slipNow 1 = .ok (.getfield 13, 3) := by decide +kernel
theorem dX9_slipNow_4 : decode cX9_slipNow 4 = .ok (.iconst 1, 1) := by decide +kernel
theorem dX9_slipNow_5 : decode cX9_slipNow 5 = .ok (.iaload, 1) := by decide +kernel
theorem dX9_slipNow_6 : decode cX9_slipNow 6 = .ok (.iload_n 1, 1) := by decide +kernel
theorem dX9_slipNow_7 : decode cX9_slipNow 7 = .ok (.aload_n 0, 1) := by decide +kernel
theorem dX9_slipNow_8 : decode cX9_slipNow 8 = .ok (.iload_n 1, 1) := by decide +kernel
theorem dX9_slipNow_9 : decode cX9_slipNow 9 = .ok (.invokevirtual 134, 3) := by decide +kernel
theorem dX9_slipNow_12 : decode cX9_slipNow 12 = .ok (.invokestatic 137, 3) := by decide +kernel
theorem dX9_slipNow_15 : decode cX9_slipNow 15 = .ok (.ireturn, 1) := by decide +kernel
theorem dX9_lengths_0 : decode cX9_lengths 0 = .ok (.iconst 0, 1) := by decide +kernel
theorem dX9_lengths_1 : decode cX9_lengths 1 = .ok (.istore_n 1, 1) := by decide +kernel
theorem dX9_lengths_2 : decode cX9_lengths 2 = .ok (.iload_n 1, 1) := by decide +kernel
theorem dX9_lengths_3 : decode cX9_lengths 3 = .ok (.aload_n 0, 1) := by decide +kernel
theorem dX9_lengths_4 : decode cX9_lengths 4 = .ok (.getfield 23, 3) := by decide +kernel
theorem dX9_lengths_7 : decode cX9_lengths 7 = .ok (.iconst 0, 1) := by decide +kernel
theorem dX9_lengths_8 : decode cX9_lengths 8 = .ok (.iaload, 1) := by decide +kernel
theorem dX9_lengths_9 : decode cX9_lengths 9 = .ok (.if_icmp .ge 35, 3) := by decide +kernel
theorem dX9_lengths_12 : decode cX9_lengths 12 = .ok (.aload_n 0, 1) := by decide +kernel
theorem dX9_lengths_13 : decode cX9_lengths 13 = .ok (.getfield 50, 3) := by decide +kernel
theorem dX9_lengths_16 : decode cX9_lengths 16 = .ok (.iload_n 1, 1) := by decide +kernel
theorem dX9_lengths_17 : decode cX9_lengths 17 = .ok (.aload_n 0, 1) := by decide +kernel
theorem dX9_lengths_18 : decode cX9_lengths 18 = .ok (.iload_n 1, 1) := by decide +kernel
theorem dX9_lengths_19 : decode cX9_lengths 19 = .ok (.aload_n 0, 1) := by decide +kernel
theorem dX9_lengths_20 : decode cX9_lengths 20 = .ok (.iload_n 1, 1) := by decide +kernel
theorem dX9_lengths_21 : decode cX9_lengths 21 = .ok (.invokevirtual 141, 3) := by decide +kernel
theorem dX9_lengths_24 : decode cX9_lengths 24 = .ok (.invokevirtual 144, 3) := by decide +kernel
theorem dX9_lengths_27 : decode cX9_lengths 27 = .ok (.aload_n 0, 1) := by decide +kernel
theorem dX9_lengths_28 : decode cX9_lengths 28 = .ok (.getfield 35, 3) := by decide +kernel
theorem dX9_lengths_31 : decode cX9_lengths 31 = .ok (.bipush 7, 2) := by decide +kernel
theorem dX9_lengths_33 : decode cX9_lengths 33 = .ok (.iload_n 1, 1) := by decide +kernel
theorem dX9_lengths_34 : decode cX9_lengths 34 = .ok (.iadd, 1) := by decide +kernel
theorem dX9_lengths_35 : decode cX9_lengths 35 = .ok (.iaload, 1) := by decide +kernel
theorem dX9_lengths_36 : decode cX9_lengths 36 = .ok (.iadd, 1) := by decide +kernel
theorem dX9_lengths_37 : decode cX9_lengths 37 = .ok (.iastore, 1) := by decide +kernel
theorem dX9_lengths_38 : decode cX9_lengths 38 = .ok (.iinc 1 1, 3) := by decide +kernel
theorem dX9_lengths_41 : decode cX9_lengths 41 = .ok (.goto (-39), 3) := by decide +kernel
theorem dX9_lengths_44 : decode cX9_lengths 44 = .ok (.return_, 1) := by decide +kernel
theorem dX9_gapOf_0 : decode cX9_gapOf 0 = .ok (.aload_n 0, 1) := by decide +kernel
theorem dX9_gapOf_1 : decode cX9_gapOf 1 = .ok (.getfield 50, 3) := by decide +kernel
theorem dX9_gapOf_4 : decode cX9_gapOf 4 = .ok (.aload_n 0, 1) := by decide +kernel
theorem dX9_gapOf_5 : decode cX9_gapOf 5 = .ok (.getfield 32, 3) := by decide +kernel
theorem dX9_gapOf_8 : decode cX9_gapOf 8 = .ok (.iconst 2, 1) := by decide +kernel
theorem dX9_gapOf_9 : decode cX9_gapOf 9 = .ok (.iload_n 1, 1) := by decide +kernel
theorem dX9_gapOf_10 : decode cX9_gapOf 10 = .ok (.imul, 1) := by decide +kernel
theorem dX9_gapOf_11 : decode cX9_gapOf 11 = .ok (.iaload, 1) := by decide +kernel
theorem dX9_gapOf_12 : decode cX9_gapOf 12 = .ok (.iaload, 1) := by decide +kernel
theorem dX9_gapOf_13 : decode cX9_gapOf 13 = .ok (.aload_n 0, 1) := by decide +kernel
theorem dX9_gapOf_14 : decode cX9_gapOf 14 = .ok (.getfield 50, 3) := by decide +kernel
theorem dX9_gapOf_17 : decode cX9_gapOf 17 = .ok (.aload_n 0, 1) := by decide +kernel
theorem dX9_gapOf_18 : decode cX9_gapOf 18 = .ok (.getfield 32, 3) := by decide +kernel
theorem dX9_gapOf_21 : decode cX9_gapOf 21 = .ok (.iconst 2, 1) := by decide +kernel
theorem dX9_gapOf_22 : decode cX9_gapOf 22 = .ok (.iload_n 1, 1) := by decide +kernel
theorem dX9_gapOf_23 : decode cX9_gapOf 23 = .ok (.imul, 1) := by decide +kernel
theorem dX9_gapOf_24 : decode cX9_gapOf 24 = .ok (.iconst 1, 1) := by decide +kernel
theorem dX9_gapOf_25 : decode cX9_gapOf 25 = .ok (.iadd, 1) := by decide +kernel
theorem dX9_gapOf_26 : decode cX9_gapOf 26 = .ok (.iaload, 1) := by decide +kernel
theorem dX9_gapOf_27 : decode cX9_gapOf 27 = .ok (.iaload, 1) := by decide +kernel
theorem dX9_gapOf_28 : decode cX9_gapOf 28 = .ok (.isub, 1) := by decide +kernel
theorem dX9_gapOf_29 : decode cX9_gapOf 29 = .ok (.istore_n 2, 1) := by decide +kernel
theorem dX9_gapOf_30 : decode cX9_gapOf 30 = .ok (.iload_n 2, 1) := by decide +kernel
theorem dX9_gapOf_31 : decode cX9_gapOf 31 = .ok (.ifCond .ge 8, 3) := by decide +kernel
theorem dX9_gapOf_34 : decode cX9_gapOf 34 = .ok (.iload_n 2, 1) := by decide +kernel
theorem dX9_gapOf_35 : decode cX9_gapOf 35 = .ok (.ineg, 1) := by decide +kernel
theorem dX9_gapOf_36 : decode cX9_gapOf 36 = .ok (.goto 4, 3) := by decide +kernel
theorem dX9_gapOf_39 : decode cX9_gapOf 39 = .ok (.iload_n 2, 1) := by decide +kernel
theorem dX9_gapOf_40 : decode cX9_gapOf 40 = .ok (.ireturn, 1) := by decide +kernel
theorem dX9_gaps_0 : decode cX9_gaps 0 = .ok (.iconst 0, 1) := by decide +kernel
theorem dX9_gaps_1 : decode cX9_gaps 1 = .ok (.istore_n 1, 1) := by decide +kernel
theorem dX9_gaps_2 : decode cX9_gaps 2 = .ok (.iconst 0, 1) := by decide +kernel
theorem dX9_gaps_3 : decode cX9_gaps 3 = .ok (.istore_n 2, 1) := by decide +kernel
theorem dX9_gaps_4 : decode cX9_gaps 4 = .ok (.iload_n 2, 1) := by decide +kernel
theorem dX9_gaps_5 : decode cX9_gaps 5 = .ok (.aload_n 0, 1) := by decide +kernel
theorem dX9_gaps_6 : decode cX9_gaps 6 = .ok (.getfield 29, 3) := by decide +kernel
theorem dX9_gaps_9 : decode cX9_gaps 9 = .ok (.iconst 0, 1) := by decide +kernel
theorem dX9_gaps_10 : decode cX9_gaps 10 = .ok (.iaload, 1) := by decide +kernel
theorem dX9_gaps_11 : decode cX9_gaps 11 = .ok (.if_icmp .ge 17, 3) := by decide +kernel
theorem dX9_gaps_14 : decode cX9_gaps 14 = .ok (.iload_n 1, 1) := by decide +kernel
theorem dX9_gaps_15 : decode cX9_gaps 15 = .ok (.aload_n 0, 1) := by decide +kernel
theorem dX9_gaps_16 : decode cX9_gaps 16 = .ok (.iload_n 2, 1) := by decide +kernel
theorem dX9_gaps_17 : decode cX9_gaps 17 = .ok (.invokevirtual 148, 3) := by decide +kernel
theorem dX9_gaps_20 : decode cX9_gaps 20 = .ok (.iadd, 1) := by decide +kernel
theorem dX9_gaps_21 : decode cX9_gaps 21 = .ok (.istore_n 1, 1) := by decide +kernel
theorem dX9_gaps_22 : decode cX9_gaps 22 = .ok (.iinc 2 1, 3) := by decide +kernel
theorem dX9_gaps_25 : decode cX9_gaps 25 = .ok (.goto (-21), 3) := by decide +kernel
theorem dX9_gaps_28 : decode cX9_gaps 28 = .ok (.iload_n 1, 1) := by decide +kernel
theorem dX9_gaps_29 : decode cX9_gaps 29 = .ok (.ireturn, 1) := by decide +kernel
theorem dX9_isClosed_0 : decode cX9_isClosed 0 = .ok (.iconst 1, 1) := by decide +kernel
theorem dX9_isClosed_1 : decode cX9_isClosed 1 = .ok (.istore_n 1, 1) := by decide +kernel
theorem dX9_isClosed_2 : decode cX9_isClosed 2 = .ok (.iconst 0, 1) := by decide +kernel
theorem dX9_isClosed_3 : decode cX9_isClosed 3 = .ok (.istore_n 2, 1) := by decide +kernel
theorem dX9_isClosed_4 : decode cX9_isClosed 4 = .ok (.iload_n 2, 1) := by decide +kernel
theorem dX9_isClosed_5 : decode cX9_isClosed 5 = .ok (.aload_n 0, 1) := by decide +kernel
theorem dX9_isClosed_6 : decode cX9_isClosed 6 = .ok (.getfield 29, 3) := by decide +kernel
theorem dX9_isClosed_9 : decode cX9_isClosed 9 = .ok (.iconst 0, 1) := by decide +kernel
theorem dX9_isClosed_10 : decode cX9_isClosed 10 = .ok (.iaload, 1) := by decide +kernel
theorem dX9_isClosed_11 : decode cX9_isClosed 11 = .ok (.if_icmp .ge 33, 3) := by decide +kernel
theorem dX9_isClosed_14 : decode cX9_isClosed 14 = .ok (.iload_n 1, 1) := by decide +kernel
theorem dX9_isClosed_15 : decode cX9_isClosed 15 = .ok (.ifCond .eq 21, 3) := by decide +kernel
theorem dX9_isClosed_18 : decode cX9_isClosed 18 = .ok (.aload_n 0, 1) := by decide +kernel
theorem dX9_isClosed_19 : decode cX9_isClosed 19 = .ok (.iload_n 2, 1) := by decide +kernel
theorem dX9_isClosed_20 : decode cX9_isClosed 20 = .ok (.invokevirtual 148, 3) := by decide +kernel
theorem dX9_isClosed_23 : decode cX9_isClosed 23 = .ok (.aload_n 0, 1) := by decide +kernel
theorem dX9_isClosed_24 : decode cX9_isClosed 24 = .ok (.getfield 13, 3) := by decide +kernel
theorem dX9_isClosed_27 : decode cX9_isClosed 27 = .ok (.iconst 0, 1) := by decide +kernel
theorem dX9_isClosed_28 : decode cX9_isClosed 28 = .ok (.iaload, 1) := by decide +kernel
theorem dX9_isClosed_29 : decode cX9_isClosed 29 = .ok (.if_icmp .gt 7, 3) := by decide +kernel
theorem dX9_isClosed_32 : decode cX9_isClosed 32 = .ok (.iconst 1, 1) := by decide +kernel
theorem dX9_isClosed_33 : decode cX9_isClosed 33 = .ok (.goto 4, 3) := by decide +kernel
theorem dX9_isClosed_36 : decode cX9_isClosed 36 = .ok (.iconst 0, 1) := by decide +kernel
theorem dX9_isClosed_37 : decode cX9_isClosed 37 = .ok (.istore_n 1, 1) := by decide +kernel
theorem dX9_isClosed_38 : decode cX9_isClosed 38 = .ok (.iinc 2 1, 3) := by decide +kernel
theorem dX9_isClosed_41 : decode cX9_isClosed 41 = .ok (.goto (-37), 3) := by decide +kernel
theorem dX9_isClosed_44 : decode cX9_isClosed 44 = .ok (.iload_n 1, 1) := by decide +kernel
theorem dX9_isClosed_45 : decode cX9_isClosed 45 = .ok (.ireturn, 1) := by decide +kernel
theorem dX9_part_0 : decode cX9_part 0 = .ok (.aload_n 0, 1) := by decide +kernel
theorem dX9_part_1 : decode cX9_part 1 = .ok (.iload_n 1, 1) := by decide +kernel
theorem dX9_part_2 : decode cX9_part 2 = .ok (.invokevirtual 151, 3) := by decide +kernel
theorem dX9_part_5 : decode cX9_part 5 = .ok (.ifCond .eq 15, 3) := by decide +kernel
theorem dX9_part_8 : decode cX9_part 8 = .ok (.iload_n 2, 1) := by decide +kernel
theorem dX9_part_9 : decode cX9_part 9 = .ok (.i2l, 1) := by decide +kernel
theorem dX9_part_10 : decode cX9_part 10 = .ok (.lconst 0, 1) := by decide +kernel
theorem dX9_part_11 : decode cX9_part 11 = .ok (.ldc2_w 154, 3) := by decide +kernel
theorem dX9_part_14 : decode cX9_part 14 = .ok (.invokestatic 70, 3) := by decide +kernel
theorem dX9_part_17 : decode cX9_part 17 = .ok (.ifCond .ne 5, 3) := by decide +kernel
theorem dX9_part_20 : decode cX9_part 20 = .ok (.iconst (-1), 1) := by decide +kernel
theorem dX9_part_21 : decode cX9_part 21 = .ok (.ireturn, 1) := by decide +kernel
theorem dX9_part_22 : decode cX9_part 22 = .ok (.iload_n 2, 1) := by decide +kernel
theorem dX9_part_23 : decode cX9_part 23 = .ok (.tableswitch 76 3 6 #[29, 35, 44, 55], 29) := by decide +kernel
theorem dX9_part_52 : decode cX9_part 52 = .ok (.aload_n 0, 1) := by decide +kernel
theorem dX9_part_53 : decode cX9_part 53 = .ok (.iload_n 1, 1) := by decide +kernel
theorem dX9_part_54 : decode cX9_part 54 = .ok (.invokevirtual 134, 3) := by decide +kernel
theorem dX9_part_57 : decode cX9_part 57 = .ok (.ireturn, 1) := by decide +kernel
theorem dX9_part_58 : decode cX9_part 58 = .ok (.aload_n 0, 1) := by decide +kernel
theorem dX9_part_59 : decode cX9_part 59 = .ok (.iload_n 1, 1) := by decide +kernel
theorem dX9_part_60 : decode cX9_part 60 = .ok (.invokevirtual 141, 3) := by decide +kernel
theorem dX9_part_63 : decode cX9_part 63 = .ok (.bipush 100, 2) := by decide +kernel
theorem dX9_part_65 : decode cX9_part 65 = .ok (.iadd, 1) := by decide +kernel
theorem dX9_part_66 : decode cX9_part 66 = .ok (.ireturn, 1) := by decide +kernel
theorem dX9_part_67 : decode cX9_part 67 = .ok (.aload_n 0, 1) := by decide +kernel
theorem dX9_part_68 : decode cX9_part 68 = .ok (.iload_n 1, 1) := by decide +kernel
theorem dX9_part_69 : decode cX9_part 69 = .ok (.aload_n 0, 1) := by decide +kernel
theorem dX9_part_70 : decode cX9_part 70 = .ok (.iload_n 1, 1) := by decide +kernel
theorem dX9_part_71 : decode cX9_part 71 = .ok (.invokevirtual 141, 3) := by decide +kernel
theorem dX9_part_74 : decode cX9_part 74 = .ok (.invokevirtual 144, 3) := by decide +kernel
theorem dX9_part_77 : decode cX9_part 77 = .ok (.ireturn, 1) := by decide +kernel
theorem dX9_part_78 : decode cX9_part 78 = .ok (.aload_n 0, 1) := by decide +kernel
theorem dX9_part_79 : decode cX9_part 79 = .ok (.iload_n 1, 1) := by decide +kernel
theorem dX9_part_80 : decode cX9_part 80 = .ok (.aload_n 0, 1) := by decide +kernel
theorem dX9_part_81 : decode cX9_part 81 = .ok (.iload_n 1, 1) := by decide +kernel
theorem dX9_part_82 : decode cX9_part 82 = .ok (.invokevirtual 141, 3) := by decide +kernel
theorem dX9_part_85 : decode cX9_part 85 = .ok (.invokevirtual 144, 3) := by decide +kernel
theorem dX9_part_88 : decode cX9_part 88 = .ok (.aload_n 0, 1) := by decide +kernel
theorem dX9_part_89 : decode cX9_part 89 = .ok (.getfield 35, 3) := by decide +kernel
theorem dX9_part_92 : decode cX9_part 92 = .ok (.bipush 7, 2) := by decide +kernel
theorem dX9_part_94 : decode cX9_part 94 = .ok (.iload_n 1, 1) := by decide +kernel
theorem dX9_part_95 : decode cX9_part 95 = .ok (.iadd, 1) := by decide +kernel
theorem dX9_part_96 : decode cX9_part 96 = .ok (.iaload, 1) := by decide +kernel
theorem dX9_part_97 : decode cX9_part 97 = .ok (.iadd, 1) := by decide +kernel
theorem dX9_part_98 : decode cX9_part 98 = .ok (.ireturn, 1) := by decide +kernel
theorem dX9_part_99 : decode cX9_part 99 = .ok (.aload_n 0, 1) := by decide +kernel
theorem dX9_part_100 : decode cX9_part 100 = .ok (.getfield 26, 3) := by decide +kernel
theorem dX9_part_103 : decode cX9_part 103 = .ok (.iconst 3, 1) := by decide +kernel
theorem dX9_part_104 : decode cX9_part 104 = .ok (.iload_n 1, 1) := by decide +kernel
theorem dX9_part_105 : decode cX9_part 105 = .ok (.imul, 1) := by decide +kernel
theorem dX9_part_106 : decode cX9_part 106 = .ok (.iload_n 2, 1) := by decide +kernel
theorem dX9_part_107 : decode cX9_part 107 = .ok (.iadd, 1) := by decide +kernel
theorem dX9_part_108 : decode cX9_part 108 = .ok (.iaload, 1) := by decide +kernel
theorem dX9_part_109 : decode cX9_part 109 = .ok (.ireturn, 1) := by decide +kernel
theorem dX9_gap_0 : decode cX9_gap 0 = .ok (.iload_n 1, 1) := by decide +kernel
theorem dX9_gap_1 : decode cX9_gap 1 = .ok (.i2l, 1) := by decide +kernel
theorem dX9_gap_2 : decode cX9_gap 2 = .ok (.ldc2_w 156, 3) := by decide +kernel
theorem dX9_gap_5 : decode cX9_gap 5 = .ok (.aload_n 0, 1) := by decide +kernel
theorem dX9_gap_6 : decode cX9_gap 6 = .ok (.getfield 29, 3) := by decide +kernel
theorem dX9_gap_9 : decode cX9_gap 9 = .ok (.iconst 0, 1) := by decide +kernel
theorem dX9_gap_10 : decode cX9_gap 10 = .ok (.iaload, 1) := by decide +kernel
theorem dX9_gap_11 : decode cX9_gap 11 = .ok (.iconst 1, 1) := by decide +kernel
theorem dX9_gap_12 : decode cX9_gap 12 = .ok (.isub, 1) := by decide +kernel
theorem dX9_gap_13 : decode cX9_gap 13 = .ok (.i2l, 1) := by decide +kernel
theorem dX9_gap_14 : decode cX9_gap 14 = .ok (.invokestatic 70, 3) := by decide +kernel
theorem dX9_gap_17 : decode cX9_gap 17 = .ok (.ifCond .ne 5, 3) := by decide +kernel
theorem dX9_gap_20 : decode cX9_gap 20 = .ok (.iconst (-1), 1) := by decide +kernel
theorem dX9_gap_21 : decode cX9_gap 21 = .ok (.ireturn, 1) := by decide +kernel
theorem dX9_gap_22 : decode cX9_gap 22 = .ok (.aload_n 0, 1) := by decide +kernel
theorem dX9_gap_23 : decode cX9_gap 23 = .ok (.invokevirtual 158, 3) := by decide +kernel
theorem dX9_gap_26 : decode cX9_gap 26 = .ok (.iload_n 1, 1) := by decide +kernel
theorem dX9_gap_27 : decode cX9_gap 27 = .ok (.ifCond .ge 10, 3) := by decide +kernel
theorem dX9_gap_30 : decode cX9_gap 30 = .ok (.aload_n 0, 1) := by decide +kernel
theorem dX9_gap_31 : decode cX9_gap 31 = .ok (.invokevirtual 161, 3) := by decide +kernel
theorem dX9_gap_34 : decode cX9_gap 34 = .ok (.goto 8, 3) := by decide +kernel
theorem dX9_gap_37 : decode cX9_gap 37 = .ok (.aload_n 0, 1) := by decide +kernel
theorem dX9_gap_38 : decode cX9_gap 38 = .ok (.iload_n 1, 1) := by decide +kernel
theorem dX9_gap_39 : decode cX9_gap 39 = .ok (.invokevirtual 148, 3) := by decide +kernel
theorem dX9_gap_42 : decode cX9_gap 42 = .ok (.ireturn, 1) := by decide +kernel
theorem dX9_closes_0 : decode cX9_closes 0 = .ok (.aload_n 0, 1) := by decide +kernel
theorem dX9_closes_1 : decode cX9_closes 1 = .ok (.invokevirtual 158, 3) := by decide +kernel
theorem dX9_closes_4 : decode cX9_closes 4 = .ok (.aload_n 0, 1) := by decide +kernel
theorem dX9_closes_5 : decode cX9_closes 5 = .ok (.invokevirtual 164, 3) := by decide +kernel
theorem dX9_closes_8 : decode cX9_closes 8 = .ok (.ifCond .eq 7, 3) := by decide +kernel
theorem dX9_closes_11 : decode cX9_closes 11 = .ok (.iconst 1, 1) := by decide +kernel
theorem dX9_closes_12 : decode cX9_closes 12 = .ok (.goto 4, 3) := by decide +kernel
theorem dX9_closes_15 : decode cX9_closes 15 = .ok (.iconst 0, 1) := by decide +kernel
theorem dX9_closes_16 : decode cX9_closes 16 = .ok (.ireturn, 1) := by decide +kernel
theorem dX9_copies_0 : decode cX9_copies 0 = .ok (.iconst 0, 1) := by decide +kernel
theorem dX9_copies_1 : decode cX9_copies 1 = .ok (.istore_n 3, 1) := by decide +kernel
theorem dX9_copies_2 : decode cX9_copies 2 = .ok (.iload_n 3, 1) := by decide +kernel
theorem dX9_copies_3 : decode cX9_copies 3 = .ok (.bipush 14, 2) := by decide +kernel
theorem dX9_copies_5 : decode cX9_copies 5 = .ok (.if_icmp .ge 31, 3) := by decide +kernel
theorem dX9_copies_8 : decode cX9_copies 8 = .ok (.aload_n 0, 1) := by decide +kernel
theorem dX9_copies_9 : decode cX9_copies 9 = .ok (.getfield 35, 3) := by decide +kernel
theorem dX9_copies_12 : decode cX9_copies 12 = .ok (.bipush 14, 2) := by decide +kernel
theorem dX9_copies_14 : decode cX9_copies 14 = .ok (.iload_n 2, 1) := by decide +kernel
theorem dX9_copies_15 : decode cX9_copies 15 = .ok (.imul, 1) := by decide +kernel
theorem dX9_copies_16 : decode cX9_copies 16 = .ok (.iload_n 3, 1) := by decide +kernel
theorem dX9_copies_17 : decode cX9_copies 17 = .ok (.iadd, 1) := by decide +kernel
theorem dX9_copies_18 : decode cX9_copies 18 = .ok (.aload_n 0, 1) := by decide +kernel
theorem dX9_copies_19 : decode cX9_copies 19 = .ok (.getfield 35, 3) := by decide +kernel
theorem dX9_copies_22 : decode cX9_copies 22 = .ok (.bipush 14, 2) := by decide +kernel
theorem dX9_copies_24 : decode cX9_copies 24 = .ok (.iload_n 1, 1) := by decide +kernel
theorem dX9_copies_25 : decode cX9_copies 25 = .ok (.imul, 1) := by decide +kernel
theorem dX9_copies_26 : decode cX9_copies 26 = .ok (.iload_n 3, 1) := by decide +kernel
theorem dX9_copies_27 : decode cX9_copies 27 = .ok (.iadd, 1) := by decide +kernel
theorem dX9_copies_28 : decode cX9_copies 28 = .ok (.iaload, 1) := by decide +kernel
theorem dX9_copies_29 : decode cX9_copies 29 = .ok (.iastore, 1) := by decide +kernel
theorem dX9_copies_30 : decode cX9_copies 30 = .ok (.iinc 3 1, 3) := by decide +kernel
theorem dX9_copies_33 : decode cX9_copies 33 = .ok (.goto (-31), 3) := by decide +kernel
theorem dX9_copies_36 : decode cX9_copies 36 = .ok (.return_, 1) := by decide +kernel
theorem dX9_known_0 : decode cX9_known 0 = .ok (.aload_n 0, 1) := by decide +kernel
theorem dX9_known_1 : decode cX9_known 1 = .ok (.getfield 113, 3) := by decide +kernel
theorem dX9_known_4 : decode cX9_known 4 = .ok (.bipush 8, 2) := by decide +kernel
theorem dX9_known_6 : decode cX9_known 6 = .ok (.if_icmp .ne 35, 3) := by decide +kernel
theorem dX9_known_9 : decode cX9_known 9 = .ok (.iconst 3, 1) := by decide +kernel
theorem dX9_known_10 : decode cX9_known 10 = .ok (.istore_n 1, 1) := by decide +kernel
theorem dX9_known_11 : decode cX9_known 11 = .ok (.iload_n 1, 1) := by decide +kernel
theorem dX9_known_12 : decode cX9_known 12 = .ok (.bipush 10, 2) := by decide +kernel
theorem dX9_known_14 : decode cX9_known 14 = .ok (.if_icmp .ge 17, 3) := by decide +kernel
theorem dX9_known_17 : decode cX9_known 17 = .ok (.aload_n 0, 1) := by decide +kernel
theorem dX9_known_18 : decode cX9_known 18 = .ok (.iload_n 1, 1) := by decide +kernel
theorem dX9_known_19 : decode cX9_known 19 = .ok (.iconst 1, 1) := by decide +kernel
theorem dX9_known_20 : decode cX9_known 20 = .ok (.iadd, 1) := by decide +kernel
theorem dX9_known_21 : decode cX9_known 21 = .ok (.iload_n 1, 1) := by decide +kernel
theorem dX9_known_22 : decode cX9_known 22 = .ok (.invokevirtual 167, 3) := by decide +kernel
theorem dX9_known_25 : decode cX9_known 25 = .ok (.iinc 1 1, 3) := by decide +kernel
theorem dX9_known_28 : decode cX9_known 28 = .ok (.goto (-17), 3) := by decide +kernel
theorem dX9_known_31 : decode cX9_known 31 = .ok (.aload_n 0, 1) := by decide +kernel
theorem dX9_known_32 : decode cX9_known 32 = .ok (.dup, 1) := by decide +kernel
theorem dX9_known_33 : decode cX9_known 33 = .ok (.getfield 113, 3) := by decide +kernel
theorem dX9_known_36 : decode cX9_known 36 = .ok (.iconst 1, 1) := by decide +kernel
theorem dX9_known_37 : decode cX9_known 37 = .ok (.isub, 1) := by decide +kernel
theorem dX9_known_38 : decode cX9_known 38 = .ok (.putfield 113, 3) := by decide +kernel
theorem dX9_known_41 : decode cX9_known 41 = .ok (.aload_n 0, 1) := by decide +kernel
theorem dX9_known_42 : decode cX9_known 42 = .ok (.iconst 0, 1) := by decide +kernel
theorem dX9_known_43 : decode cX9_known 43 = .ok (.iconst 3, 1) := by decide +kernel
theorem dX9_known_44 : decode cX9_known 44 = .ok (.aload_n 0, 1) := by decide +kernel
theorem dX9_known_45 : decode cX9_known 45 = .ok (.getfield 113, 3) := by decide +kernel
theorem dX9_known_48 : decode cX9_known 48 = .ok (.iadd, 1) := by decide +kernel
theorem dX9_known_49 : decode cX9_known 49 = .ok (.invokevirtual 167, 3) := by decide +kernel
theorem dX9_known_52 : decode cX9_known 52 = .ok (.aload_n 0, 1) := by decide +kernel
theorem dX9_known_53 : decode cX9_known 53 = .ok (.dup, 1) := by decide +kernel
theorem dX9_known_54 : decode cX9_known 54 = .ok (.getfield 113, 3) := by decide +kernel
theorem dX9_known_57 : decode cX9_known 57 = .ok (.iconst 1, 1) := by decide +kernel
theorem dX9_known_58 : decode cX9_known 58 = .ok (.iadd, 1) := by decide +kernel
theorem dX9_known_59 : decode cX9_known 59 = .ok (.putfield 113, 3) := by decide +kernel
theorem dX9_known_62 : decode cX9_known 62 = .ok (.return_, 1) := by decide +kernel
theorem dX9_change_0 : decode cX9_change 0 = .ok (.aload_n 0, 1) := by decide +kernel
theorem dX9_change_1 : decode cX9_change 1 = .ok (.iload_n 1, 1) := by decide +kernel
theorem dX9_change_2 : decode cX9_change 2 = .ok (.invokevirtual 151, 3) := by decide +kernel
theorem dX9_change_5 : decode cX9_change 5 = .ok (.ifCond .eq 16, 3) := by decide +kernel
theorem dX9_change_8 : decode cX9_change 8 = .ok (.aload_n 0, 1) := by decide +kernel
theorem dX9_change_9 : decode cX9_change 9 = .ok (.iload_n 2, 1) := by decide +kernel
theorem dX9_change_10 : decode cX9_change 10 = .ok (.invokevirtual 151, 3) := by decide +kernel
theorem dX9_change_13 : decode cX9_change 13 = .ok (.ifCond .eq 8, 3) := by decide +kernel
theorem dX9_change_16 : decode cX9_change 16 = .ok (.iload_n 1, 1) := by decide +kernel
theorem dX9_change_17 : decode cX9_change 17 = .ok (.iload_n 2, 1) := by decide +kernel
theorem dX9_change_18 : decode cX9_change 18 = .ok (.if_icmp .ne 5, 3) := by decide +kernel
theorem dX9_change_21 : decode cX9_change 21 = .ok (.iconst (-1), 1) := by decide +kernel
theorem dX9_change_22 : decode cX9_change 22 = .ok (.ireturn, 1) := by decide +kernel
theorem dX9_change_23 : decode cX9_change 23 = .ok (.aload_n 0, 1) := by decide +kernel
theorem dX9_change_24 : decode cX9_change 24 = .ok (.invokevirtual 171, 3) := by decide +kernel
theorem dX9_change_27 : decode cX9_change 27 = .ok (.aload_n 0, 1) := by decide +kernel
theorem dX9_change_28 : decode cX9_change 28 = .ok (.getfield 35, 3) := by decide +kernel
theorem dX9_change_31 : decode cX9_change 31 = .ok (.iload_n 1, 1) := by decide +kernel
theorem dX9_change_32 : decode cX9_change 32 = .ok (.iaload, 1) := by decide +kernel
theorem dX9_change_33 : decode cX9_change 33 = .ok (.istore_n 3, 1) := by decide +kernel
theorem dX9_change_34 : decode cX9_change 34 = .ok (.aload_n 0, 1) := by decide +kernel
theorem dX9_change_35 : decode cX9_change 35 = .ok (.getfield 35, 3) := by decide +kernel
theorem dX9_change_38 : decode cX9_change 38 = .ok (.iload_n 1, 1) := by decide +kernel
theorem dX9_change_39 : decode cX9_change 39 = .ok (.aload_n 0, 1) := by decide +kernel
theorem dX9_change_40 : decode cX9_change 40 = .ok (.getfield 35, 3) := by decide +kernel
theorem dX9_change_43 : decode cX9_change 43 = .ok (.iload_n 2, 1) := by decide +kernel
theorem dX9_change_44 : decode cX9_change 44 = .ok (.iaload, 1) := by decide +kernel
theorem dX9_change_45 : decode cX9_change 45 = .ok (.iastore, 1) := by decide +kernel
theorem dX9_change_46 : decode cX9_change 46 = .ok (.aload_n 0, 1) := by decide +kernel
theorem dX9_change_47 : decode cX9_change 47 = .ok (.getfield 35, 3) := by decide +kernel
theorem dX9_change_50 : decode cX9_change 50 = .ok (.iload_n 2, 1) := by decide +kernel
theorem dX9_change_51 : decode cX9_change 51 = .ok (.iload_n 3, 1) := by decide +kernel
theorem dX9_change_52 : decode cX9_change 52 = .ok (.iastore, 1) := by decide +kernel
theorem dX9_change_53 : decode cX9_change 53 = .ok (.iconst 0, 1) := by decide +kernel
theorem dX9_change_54 : decode cX9_change 54 = .ok (.istore 4, 2) := by decide +kernel
theorem dX9_change_56 : decode cX9_change 56 = .ok (.iload 4, 2) := by decide +kernel
theorem dX9_change_58 : decode cX9_change 58 = .ok (.bipush 7, 2) := by decide +kernel
theorem dX9_change_60 : decode cX9_change 60 = .ok (.if_icmp .ge 20, 3) := by decide +kernel
theorem dX9_change_63 : decode cX9_change 63 = .ok (.aload_n 0, 1) := by decide +kernel
theorem dX9_change_64 : decode cX9_change 64 = .ok (.getfield 35, 3) := by decide +kernel
theorem dX9_change_67 : decode cX9_change 67 = .ok (.bipush 7, 2) := by decide +kernel
theorem dX9_change_69 : decode cX9_change 69 = .ok (.iload 4, 2) := by decide +kernel
theorem dX9_change_71 : decode cX9_change 71 = .ok (.iadd, 1) := by decide +kernel
theorem dX9_change_72 : decode cX9_change 72 = .ok (.iconst 0, 1) := by decide +kernel
theorem dX9_change_73 : decode cX9_change 73 = .ok (.iastore, 1) := by decide +kernel
theorem dX9_change_74 : decode cX9_change 74 = .ok (.iinc 4 1, 3) := by decide +kernel
theorem dX9_change_77 : decode cX9_change 77 = .ok (.goto (-21), 3) := by decide +kernel
theorem dX9_change_80 : decode cX9_change 80 = .ok (.aload_n 0, 1) := by decide +kernel
theorem dX9_change_81 : decode cX9_change 81 = .ok (.invokevirtual 158, 3) := by decide +kernel
theorem dX9_change_84 : decode cX9_change 84 = .ok (.aload_n 0, 1) := by decide +kernel
theorem dX9_change_85 : decode cX9_change 85 = .ok (.invokevirtual 161, 3) := by decide +kernel
theorem dX9_change_88 : decode cX9_change 88 = .ok (.ireturn, 1) := by decide +kernel
theorem dX9_alter_0 : decode cX9_alter 0 = .ok (.aload_n 0, 1) := by decide +kernel
theorem dX9_alter_1 : decode cX9_alter 1 = .ok (.iload_n 1, 1) := by decide +kernel
theorem dX9_alter_2 : decode cX9_alter 2 = .ok (.invokevirtual 151, 3) := by decide +kernel
theorem dX9_alter_5 : decode cX9_alter 5 = .ok (.ifCond .eq 17, 3) := by decide +kernel
theorem dX9_alter_8 : decode cX9_alter 8 = .ok (.iload_n 2, 1) := by decide +kernel
theorem dX9_alter_9 : decode cX9_alter 9 = .ok (.i2l, 1) := by decide +kernel
theorem dX9_alter_10 : decode cX9_alter 10 = .ok (.ldc2_w 174, 3) := by decide +kernel
theorem dX9_alter_13 : decode cX9_alter 13 = .ok (.ldc2_w 176, 3) := by decide +kernel
theorem dX9_alter_16 : decode cX9_alter 16 = .ok (.invokestatic 70, 3) := by decide +kernel
theorem dX9_alter_19 : decode cX9_alter 19 = .ok (.ifCond .ne 5, 3) := by decide +kernel
theorem dX9_alter_22 : decode cX9_alter 22 = .ok (.iconst (-1), 1) := by decide +kernel
theorem dX9_alter_23 : decode cX9_alter 23 = .ok (.ireturn, 1) := by decide +kernel
theorem dX9_alter_24 : decode cX9_alter 24 = .ok (.aload_n 0, 1) := by decide +kernel
theorem dX9_alter_25 : decode cX9_alter 25 = .ok (.iload_n 1, 1) := by decide +kernel
theorem dX9_alter_26 : decode cX9_alter 26 = .ok (.bipush 6, 2) := by decide +kernel
theorem dX9_alter_28 : decode cX9_alter 28 = .ok (.invokevirtual 178, 3) := by decide +kernel
theorem dX9_alter_31 : decode cX9_alter 31 = .ok (.iload_n 2, 1) := by decide +kernel
theorem dX9_alter_32 : decode cX9_alter 32 = .ok (.iadd, 1) := by decide +kernel
theorem dX9_alter_33 : decode cX9_alter 33 = .ok (.istore_n 3, 1) := by decide +kernel
theorem dX9_alter_34 : decode cX9_alter 34 = .ok (.iload_n 3, 1) := by decide +kernel
theorem dX9_alter_35 : decode cX9_alter 35 = .ok (.i2l, 1) := by decide +kernel
theorem dX9_alter_36 : decode cX9_alter 36 = .ok (.lconst 1, 1) := by decide +kernel
theorem dX9_alter_37 : decode cX9_alter 37 = .ok (.ldc2_w 180, 3) := by decide +kernel
theorem dX9_alter_40 : decode cX9_alter 40 = .ok (.invokestatic 70, 3) := by decide +kernel
theorem dX9_alter_43 : decode cX9_alter 43 = .ok (.ifCond .ne 6, 3) := by decide +kernel
theorem dX9_alter_46 : decode cX9_alter 46 = .ok (.bipush (-2), 2) := by decide +kernel
theorem dX9_alter_48 : decode cX9_alter 48 = .ok (.ireturn, 1) := by decide +kernel
theorem dX9_alter_49 : decode cX9_alter 49 = .ok (.aload_n 0, 1) := by decide +kernel
theorem dX9_alter_50 : decode cX9_alter 50 = .ok (.invokevirtual 171, 3) := by decide +kernel
theorem dX9_alter_53 : decode cX9_alter 53 = .ok (.aload_n 0, 1) := by decide +kernel
theorem dX9_alter_54 : decode cX9_alter 54 = .ok (.getfield 35, 3) := by decide +kernel
theorem dX9_alter_57 : decode cX9_alter 57 = .ok (.bipush 7, 2) := by decide +kernel
theorem dX9_alter_59 : decode cX9_alter 59 = .ok (.iload_n 1, 1) := by decide +kernel
theorem dX9_alter_60 : decode cX9_alter 60 = .ok (.iadd, 1) := by decide +kernel
theorem dX9_alter_61 : decode cX9_alter 61 = .ok (.dup2, 1) := by decide +kernel
theorem dX9_alter_62 : decode cX9_alter 62 = .ok (.iaload, 1) := by decide +kernel
theorem dX9_alter_63 : decode cX9_alter 63 = .ok (.iload_n 2, 1) := by decide +kernel
theorem dX9_alter_64 : decode cX9_alter 64 = .ok (.iadd, 1) := by decide +kernel
theorem dX9_alter_65 : decode cX9_alter 65 = .ok (.iastore, 1) := by decide +kernel
theorem dX9_alter_66 : decode cX9_alter 66 = .ok (.iload_n 3, 1) := by decide +kernel
theorem dX9_alter_67 : decode cX9_alter 67 = .ok (.ireturn, 1) := by decide +kernel
theorem dX9_undo_0 : decode cX9_undo 0 = .ok (.aload_n 0, 1) := by decide +kernel
theorem dX9_undo_1 : decode cX9_undo 1 = .ok (.getfield 113, 3) := by decide +kernel
theorem dX9_undo_4 : decode cX9_undo 4 = .ok (.ifCond .ne 6, 3) := by decide +kernel
theorem dX9_undo_7 : decode cX9_undo 7 = .ok (.bipush (-2), 2) := by decide +kernel
theorem dX9_undo_9 : decode cX9_undo 9 = .ok (.ireturn, 1) := by decide +kernel
theorem dX9_undo_10 : decode cX9_undo 10 = .ok (.aload_n 0, 1) := by decide +kernel
theorem dX9_undo_11 : decode cX9_undo 11 = .ok (.dup, 1) := by decide +kernel
theorem dX9_undo_12 : decode cX9_undo 12 = .ok (.getfield 113, 3) := by decide +kernel
theorem dX9_undo_15 : decode cX9_undo 15 = .ok (.iconst 1, 1) := by decide +kernel
theorem dX9_undo_16 : decode cX9_undo 16 = .ok (.isub, 1) := by decide +kernel
theorem dX9_undo_17 : decode cX9_undo 17 = .ok (.putfield 113, 3) := by decide +kernel
theorem dX9_undo_20 : decode cX9_undo 20 = .ok (.aload_n 0, 1) := by decide +kernel
theorem dX9_undo_21 : decode cX9_undo 21 = .ok (.iconst 3, 1) := by decide +kernel
theorem dX9_undo_22 : decode cX9_undo 22 = .ok (.aload_n 0, 1) := by decide +kernel
theorem dX9_undo_23 : decode cX9_undo 23 = .ok (.getfield 113, 3) := by decide +kernel
theorem dX9_undo_26 : decode cX9_undo 26 = .ok (.iadd, 1) := by decide +kernel
theorem dX9_undo_27 : decode cX9_undo 27 = .ok (.iconst 0, 1) := by decide +kernel
theorem dX9_undo_28 : decode cX9_undo 28 = .ok (.invokevirtual 167, 3) := by decide +kernel
theorem dX9_undo_31 : decode cX9_undo 31 = .ok (.aload_n 0, 1) := by decide +kernel
theorem dX9_undo_32 : decode cX9_undo 32 = .ok (.getfield 113, 3) := by decide +kernel
theorem dX9_undo_35 : decode cX9_undo 35 = .ok (.ireturn, 1) := by decide +kernel
theorem dX9_nextOrder_0 : decode cX9_nextOrder 0 = .ok (.aload_n 0, 1) := by decide +kernel
theorem dX9_nextOrder_1 : decode cX9_nextOrder 1 = .ok (.getfield 23, 3) := by decide +kernel
theorem dX9_nextOrder_4 : decode cX9_nextOrder 4 = .ok (.iconst 0, 1) := by decide +kernel
theorem dX9_nextOrder_5 : decode cX9_nextOrder 5 = .ok (.iaload, 1) := by decide +kernel
theorem dX9_nextOrder_6 : decode cX9_nextOrder 6 = .ok (.istore_n 1, 1) := by decide +kernel
theorem dX9_nextOrder_7 : decode cX9_nextOrder 7 = .ok (.iload_n 1, 1) := by decide +kernel
theorem dX9_nextOrder_8 : decode cX9_nextOrder 8 = .ok (.iconst 2, 1) := by decide +kernel
theorem dX9_nextOrder_9 : decode cX9_nextOrder 9 = .ok (.isub, 1) := by decide +kernel
theorem dX9_nextOrder_10 : decode cX9_nextOrder 10 = .ok (.istore_n 2, 1) := by decide +kernel
theorem dX9_nextOrder_11 : decode cX9_nextOrder 11 = .ok (.iload_n 2, 1) := by decide +kernel
theorem dX9_nextOrder_12 : decode cX9_nextOrder 12 = .ok (.ifCond .lt 26, 3) := by decide +kernel
theorem dX9_nextOrder_15 : decode cX9_nextOrder 15 = .ok (.aload_n 0, 1) := by decide +kernel
theorem dX9_nextOrder_16 : decode cX9_nextOrder 16 = .ok (.getfield 44, 3) := by decide +kernel
theorem dX9_nextOrder_19 : decode cX9_nextOrder 19 = .ok (.iload_n 2, 1) := by decide +kernel
theorem dX9_nextOrder_20 : decode cX9_nextOrder 20 = .ok (.iaload, 1) := by decide +kernel
theorem dX9_nextOrder_21 : decode cX9_nextOrder 21 = .ok (.aload_n 0, 1) := by decide +kernel
theorem dX9_nextOrder_22 : decode cX9_nextOrder 22 = .ok (.getfield 44, 3) := by decide +kernel
theorem dX9_nextOrder_25 : decode cX9_nextOrder 25 = .ok (.iload_n 2, 1) := by decide +kernel
theorem dX9_nextOrder_26 : decode cX9_nextOrder 26 = .ok (.iconst 1, 1) := by decide +kernel
theorem dX9_nextOrder_27 : decode cX9_nextOrder 27 = .ok (.iadd, 1) := by decide +kernel
theorem dX9_nextOrder_28 : decode cX9_nextOrder 28 = .ok (.iaload, 1) := by decide +kernel
theorem dX9_nextOrder_29 : decode cX9_nextOrder 29 = .ok (.if_icmp .le 9, 3) := by decide +kernel
theorem dX9_nextOrder_32 : decode cX9_nextOrder 32 = .ok (.iinc 2 (-1), 3) := by decide +kernel
theorem dX9_nextOrder_35 : decode cX9_nextOrder 35 = .ok (.goto (-24), 3) := by decide +kernel
theorem dX9_nextOrder_38 : decode cX9_nextOrder 38 = .ok (.iload_n 2, 1) := by decide +kernel
theorem dX9_nextOrder_39 : decode cX9_nextOrder 39 = .ok (.ifCond .ge 5, 3) := by decide +kernel
theorem dX9_nextOrder_42 : decode cX9_nextOrder 42 = .ok (.iconst 0, 1) := by decide +kernel
theorem dX9_nextOrder_43 : decode cX9_nextOrder 43 = .ok (.ireturn, 1) := by decide +kernel
theorem dX9_nextOrder_44 : decode cX9_nextOrder 44 = .ok (.iload_n 1, 1) := by decide +kernel
theorem dX9_nextOrder_45 : decode cX9_nextOrder 45 = .ok (.iconst 1, 1) := by decide +kernel
theorem dX9_nextOrder_46 : decode cX9_nextOrder 46 = .ok (.isub, 1) := by decide +kernel
theorem dX9_nextOrder_47 : decode cX9_nextOrder 47 = .ok (.istore_n 3, 1) := by decide +kernel
theorem dX9_nextOrder_48 : decode cX9_nextOrder 48 = .ok (.aload_n 0, 1) := by decide +kernel
theorem dX9_nextOrder_49 : decode cX9_nextOrder 49 = .ok (.getfield 44, 3) := by decide +kernel
theorem dX9_nextOrder_52 : decode cX9_nextOrder 52 = .ok (.iload_n 3, 1) := by decide +kernel
theorem dX9_nextOrder_53 : decode cX9_nextOrder 53 = .ok (.iaload, 1) := by decide +kernel
theorem dX9_nextOrder_54 : decode cX9_nextOrder 54 = .ok (.aload_n 0, 1) := by decide +kernel
theorem dX9_nextOrder_55 : decode cX9_nextOrder 55 = .ok (.getfield 44, 3) := by decide +kernel
theorem dX9_nextOrder_58 : decode cX9_nextOrder 58 = .ok (.iload_n 2, 1) := by decide +kernel
theorem dX9_nextOrder_59 : decode cX9_nextOrder 59 = .ok (.iaload, 1) := by decide +kernel
theorem dX9_nextOrder_60 : decode cX9_nextOrder 60 = .ok (.if_icmp .ge 9, 3) := by decide +kernel
theorem dX9_nextOrder_63 : decode cX9_nextOrder 63 = .ok (.iinc 3 (-1), 3) := by decide +kernel
theorem dX9_nextOrder_66 : decode cX9_nextOrder 66 = .ok (.goto (-18), 3) := by decide +kernel
theorem dX9_nextOrder_69 : decode cX9_nextOrder 69 = .ok (.aload_n 0, 1) := by decide +kernel
theorem dX9_nextOrder_70 : decode cX9_nextOrder 70 = .ok (.getfield 44, 3) := by decide +kernel
theorem dX9_nextOrder_73 : decode cX9_nextOrder 73 = .ok (.iload_n 2, 1) := by decide +kernel
theorem dX9_nextOrder_74 : decode cX9_nextOrder 74 = .ok (.iaload, 1) := by decide +kernel
theorem dX9_nextOrder_75 : decode cX9_nextOrder 75 = .ok (.istore 4, 2) := by decide +kernel
theorem dX9_nextOrder_77 : decode cX9_nextOrder 77 = .ok (.aload_n 0, 1) := by decide +kernel
theorem dX9_nextOrder_78 : decode cX9_nextOrder 78 = .ok (.getfield 44, 3) := by decide +kernel
theorem dX9_nextOrder_81 : decode cX9_nextOrder 81 = .ok (.iload_n 2, 1) := by decide +kernel
theorem dX9_nextOrder_82 : decode cX9_nextOrder 82 = .ok (.aload_n 0, 1) := by decide +kernel
theorem dX9_nextOrder_83 : decode cX9_nextOrder 83 = .ok (.getfield 44, 3) := by decide +kernel
theorem dX9_nextOrder_86 : decode cX9_nextOrder 86 = .ok (.iload_n 3, 1) := by decide +kernel
theorem dX9_nextOrder_87 : decode cX9_nextOrder 87 = .ok (.iaload, 1) := by decide +kernel
theorem dX9_nextOrder_88 : decode cX9_nextOrder 88 = .ok (.iastore, 1) := by decide +kernel
theorem dX9_nextOrder_89 : decode cX9_nextOrder 89 = .ok (.aload_n 0, 1) := by decide +kernel
theorem dX9_nextOrder_90 : decode cX9_nextOrder 90 = .ok (.getfield 44, 3) := by decide +kernel
theorem dX9_nextOrder_93 : decode cX9_nextOrder 93 = .ok (.iload_n 3, 1) := by decide +kernel
theorem dX9_nextOrder_94 : decode cX9_nextOrder 94 = .ok (.iload 4, 2) := by decide +kernel
theorem dX9_nextOrder_96 : decode cX9_nextOrder 96 = .ok (.iastore, 1) := by decide +kernel
theorem dX9_nextOrder_97 : decode cX9_nextOrder 97 = .ok (.iload_n 2, 1) := by decide +kernel
theorem dX9_nextOrder_98 : decode cX9_nextOrder 98 = .ok (.iconst 1, 1) := by decide +kernel
theorem dX9_nextOrder_99 : decode cX9_nextOrder 99 = .ok (.iadd, 1) := by decide +kernel
theorem dX9_nextOrder_100 : decode cX9_nextOrder 100 = .ok (.istore 5, 2) := by decide +kernel
theorem dX9_nextOrder_102 : decode cX9_nextOrder 102 = .ok (.iload_n 1, 1) := by decide +kernel
theorem dX9_nextOrder_103 : decode cX9_nextOrder 103 = .ok (.iconst 1, 1) := by decide +kernel
theorem dX9_nextOrder_104 : decode cX9_nextOrder 104 = .ok (.isub, 1) := by decide +kernel
theorem dX9_nextOrder_105 : decode cX9_nextOrder 105 = .ok (.istore 6, 2) := by decide +kernel
theorem dX9_nextOrder_107 : decode cX9_nextOrder 107 = .ok (.iload 5, 2) := by decide +kernel
theorem dX9_nextOrder_109 : decode cX9_nextOrder 109 = .ok (.iload 6, 2) := by decide +kernel
theorem dX9_nextOrder_111 : decode cX9_nextOrder 111 = .ok (.if_icmp .ge 44, 3) := by decide +kernel
theorem dX9_nextOrder_114 : decode cX9_nextOrder 114 = .ok (.aload_n 0, 1) := by decide +kernel
theorem dX9_nextOrder_115 : decode cX9_nextOrder 115 = .ok (.getfield 44, 3) := by decide +kernel
theorem dX9_nextOrder_118 : decode cX9_nextOrder 118 = .ok (.iload 5, 2) := by decide +kernel
theorem dX9_nextOrder_120 : decode cX9_nextOrder 120 = .ok (.iaload, 1) := by decide +kernel
theorem dX9_nextOrder_121 : decode cX9_nextOrder 121 = .ok (.istore 4, 2) := by decide +kernel
theorem dX9_nextOrder_123 : decode cX9_nextOrder 123 = .ok (.aload_n 0, 1) := by decide +kernel
theorem dX9_nextOrder_124 : decode cX9_nextOrder 124 = .ok (.getfield 44, 3) := by decide +kernel
theorem dX9_nextOrder_127 : decode cX9_nextOrder 127 = .ok (.iload 5, 2) := by decide +kernel
theorem dX9_nextOrder_129 : decode cX9_nextOrder 129 = .ok (.aload_n 0, 1) := by decide +kernel
theorem dX9_nextOrder_130 : decode cX9_nextOrder 130 = .ok (.getfield 44, 3) := by decide +kernel
theorem dX9_nextOrder_133 : decode cX9_nextOrder 133 = .ok (.iload 6, 2) := by decide +kernel
theorem dX9_nextOrder_135 : decode cX9_nextOrder 135 = .ok (.iaload, 1) := by decide +kernel
theorem dX9_nextOrder_136 : decode cX9_nextOrder 136 = .ok (.iastore, 1) := by decide +kernel
theorem dX9_nextOrder_137 : decode cX9_nextOrder 137 = .ok (.aload_n 0, 1) := by decide +kernel
theorem dX9_nextOrder_138 : decode cX9_nextOrder 138 = .ok (.getfield 44, 3) := by decide +kernel
theorem dX9_nextOrder_141 : decode cX9_nextOrder 141 = .ok (.iload 6, 2) := by decide +kernel
theorem dX9_nextOrder_143 : decode cX9_nextOrder 143 = .ok (.iload 4, 2) := by decide +kernel
theorem dX9_nextOrder_145 : decode cX9_nextOrder 145 = .ok (.iastore, 1) := by decide +kernel
theorem dX9_nextOrder_146 : decode cX9_nextOrder 146 = .ok (.iinc 5 1, 3) := by decide +kernel
theorem dX9_nextOrder_149 : decode cX9_nextOrder 149 = .ok (.iinc 6 (-1), 3) := by decide +kernel
theorem dX9_nextOrder_152 : decode cX9_nextOrder 152 = .ok (.goto (-45), 3) := by decide +kernel
theorem dX9_nextOrder_155 : decode cX9_nextOrder 155 = .ok (.iconst 1, 1) := by decide +kernel
theorem dX9_nextOrder_156 : decode cX9_nextOrder 156 = .ok (.ireturn, 1) := by decide +kernel
theorem dX9_order_0 : decode cX9_order 0 = .ok (.iload_n 1, 1) := by decide +kernel
theorem dX9_order_1 : decode cX9_order 1 = .ok (.i2l, 1) := by decide +kernel
theorem dX9_order_2 : decode cX9_order 2 = .ok (.ldc2_w 156, 3) := by decide +kernel
theorem dX9_order_5 : decode cX9_order 5 = .ok (.aload_n 0, 1) := by decide +kernel
theorem dX9_order_6 : decode cX9_order 6 = .ok (.getfield 23, 3) := by decide +kernel
theorem dX9_order_9 : decode cX9_order 9 = .ok (.iconst 0, 1) := by decide +kernel
theorem dX9_order_10 : decode cX9_order 10 = .ok (.iaload, 1) := by decide +kernel
theorem dX9_order_11 : decode cX9_order 11 = .ok (.iconst 1, 1) := by decide +kernel
theorem dX9_order_12 : decode cX9_order 12 = .ok (.isub, 1) := by decide +kernel
theorem dX9_order_13 : decode cX9_order 13 = .ok (.i2l, 1) := by decide +kernel
theorem dX9_order_14 : decode cX9_order 14 = .ok (.invokestatic 70, 3) := by decide +kernel
theorem dX9_order_17 : decode cX9_order 17 = .ok (.ifCond .ne 5, 3) := by decide +kernel
theorem dX9_order_20 : decode cX9_order 20 = .ok (.iconst (-1), 1) := by decide +kernel
theorem dX9_order_21 : decode cX9_order 21 = .ok (.ireturn, 1) := by decide +kernel
theorem dX9_order_22 : decode cX9_order 22 = .ok (.iconst 0, 1) := by decide +kernel
theorem dX9_order_23 : decode cX9_order 23 = .ok (.istore_n 2, 1) := by decide +kernel
theorem dX9_order_24 : decode cX9_order 24 = .ok (.iload_n 2, 1) := by decide +kernel
theorem dX9_order_25 : decode cX9_order 25 = .ok (.bipush 7, 2) := by decide +kernel
theorem dX9_order_27 : decode cX9_order 27 = .ok (.if_icmp .ge 16, 3) := by decide +kernel
theorem dX9_order_30 : decode cX9_order 30 = .ok (.aload_n 0, 1) := by decide +kernel
theorem dX9_order_31 : decode cX9_order 31 = .ok (.getfield 44, 3) := by decide +kernel
theorem dX9_order_34 : decode cX9_order 34 = .ok (.iload_n 2, 1) := by decide +kernel
theorem dX9_order_35 : decode cX9_order 35 = .ok (.iload_n 2, 1) := by decide +kernel
theorem dX9_order_36 : decode cX9_order 36 = .ok (.iastore, 1) := by decide +kernel
theorem dX9_order_37 : decode cX9_order 37 = .ok (.iinc 2 1, 3) := by decide +kernel
theorem dX9_order_40 : decode cX9_order 40 = .ok (.goto (-16), 3) := by decide +kernel
theorem dX9_order_43 : decode cX9_order 43 = .ok (.iconst (-1), 1) := by decide +kernel
theorem dX9_order_44 : decode cX9_order 44 = .ok (.istore_n 2, 1) := by decide +kernel
theorem dX9_order_45 : decode cX9_order 45 = .ok (.iconst 1, 1) := by decide +kernel
theorem dX9_order_46 : decode cX9_order 46 = .ok (.istore_n 3, 1) := by decide +kernel
theorem dX9_order_47 : decode cX9_order 47 = .ok (.iload_n 3, 1) := by decide +kernel
theorem dX9_order_48 : decode cX9_order 48 = .ok (.ifCond .eq 121, 3) := by decide +kernel
theorem dX9_order_51 : decode cX9_order 51 = .ok (.iconst 0, 1) := by decide +kernel
theorem dX9_order_52 : decode cX9_order 52 = .ok (.istore 4, 2) := by decide +kernel
theorem dX9_order_54 : decode cX9_order 54 = .ok (.iload 4, 2) := by decide +kernel
theorem dX9_order_56 : decode cX9_order 56 = .ok (.aload_n 0, 1) := by decide +kernel
theorem dX9_order_57 : decode cX9_order 57 = .ok (.getfield 23, 3) := by decide +kernel
theorem dX9_order_60 : decode cX9_order 60 = .ok (.iconst 0, 1) := by decide +kernel
theorem dX9_order_61 : decode cX9_order 61 = .ok (.iaload, 1) := by decide +kernel
theorem dX9_order_62 : decode cX9_order 62 = .ok (.if_icmp .ge 50, 3) := by decide +kernel
theorem dX9_order_65 : decode cX9_order 65 = .ok (.aload_n 0, 1) := by decide +kernel
theorem dX9_order_66 : decode cX9_order 66 = .ok (.getfield 50, 3) := by decide +kernel
theorem dX9_order_69 : decode cX9_order 69 = .ok (.aload_n 0, 1) := by decide +kernel
theorem dX9_order_70 : decode cX9_order 70 = .ok (.getfield 44, 3) := by decide +kernel
theorem dX9_order_73 : decode cX9_order 73 = .ok (.iload 4, 2) := by decide +kernel
theorem dX9_order_75 : decode cX9_order 75 = .ok (.iaload, 1) := by decide +kernel
theorem dX9_order_76 : decode cX9_order 76 = .ok (.aload_n 0, 1) := by decide +kernel
theorem dX9_order_77 : decode cX9_order 77 = .ok (.aload_n 0, 1) := by decide +kernel
theorem dX9_order_78 : decode cX9_order 78 = .ok (.getfield 44, 3) := by decide +kernel
theorem dX9_order_81 : decode cX9_order 81 = .ok (.iload 4, 2) := by decide +kernel
theorem dX9_order_83 : decode cX9_order 83 = .ok (.iaload, 1) := by decide +kernel
theorem dX9_order_84 : decode cX9_order 84 = .ok (.aload_n 0, 1) := by decide +kernel
theorem dX9_order_85 : decode cX9_order 85 = .ok (.getfield 13, 3) := by decide +kernel
theorem dX9_order_88 : decode cX9_order 88 = .ok (.iconst 1, 1) := by decide +kernel
theorem dX9_order_89 : decode cX9_order 89 = .ok (.iaload, 1) := by decide +kernel
theorem dX9_order_90 : decode cX9_order 90 = .ok (.aload_n 0, 1) := by decide +kernel
theorem dX9_order_91 : decode cX9_order 91 = .ok (.getfield 44, 3) := by decide +kernel
theorem dX9_order_94 : decode cX9_order 94 = .ok (.iload 4, 2) := by decide +kernel
theorem dX9_order_96 : decode cX9_order 96 = .ok (.iaload, 1) := by decide +kernel
theorem dX9_order_97 : decode cX9_order 97 = .ok (.iload 4, 2) := by decide +kernel
theorem dX9_order_99 : decode cX9_order 99 = .ok (.invokestatic 137, 3) := by decide +kernel
theorem dX9_order_102 : decode cX9_order 102 = .ok (.invokevirtual 144, 3) := by decide +kernel
theorem dX9_order_105 : decode cX9_order 105 = .ok (.iastore, 1) := by decide +kernel
theorem dX9_order_106 : decode cX9_order 106 = .ok (.iinc 4 1, 3) := by decide +kernel
theorem dX9_order_109 : decode cX9_order 109 = .ok (.goto (-55), 3) := by decide +kernel
theorem dX9_order_112 : decode cX9_order 112 = .ok (.aload_n 0, 1) := by decide +kernel
theorem dX9_order_113 : decode cX9_order 113 = .ok (.invokevirtual 161, 3) := by decide +kernel
theorem dX9_order_116 : decode cX9_order 116 = .ok (.istore 4, 2) := by decide +kernel
theorem dX9_order_118 : decode cX9_order 118 = .ok (.iload_n 2, 1) := by decide +kernel
theorem dX9_order_119 : decode cX9_order 119 = .ok (.ifCond .lt 9, 3) := by decide +kernel
theorem dX9_order_122 : decode cX9_order 122 = .ok (.iload 4, 2) := by decide +kernel
theorem dX9_order_124 : decode cX9_order 124 = .ok (.iload_n 2, 1) := by decide +kernel
theorem dX9_order_125 : decode cX9_order 125 = .ok (.if_icmp .ge 36, 3) := by decide +kernel
theorem dX9_order_128 : decode cX9_order 128 = .ok (.iload 4, 2) := by decide +kernel
theorem dX9_order_130 : decode cX9_order 130 = .ok (.istore_n 2, 1) := by decide +kernel
theorem dX9_order_131 : decode cX9_order 131 = .ok (.iconst 0, 1) := by decide +kernel
theorem dX9_order_132 : decode cX9_order 132 = .ok (.istore 5, 2) := by decide +kernel
theorem dX9_order_134 : decode cX9_order 134 = .ok (.iload 5, 2) := by decide +kernel
theorem dX9_order_136 : decode cX9_order 136 = .ok (.bipush 7, 2) := by decide +kernel
theorem dX9_order_138 : decode cX9_order 138 = .ok (.if_icmp .ge 23, 3) := by decide +kernel
theorem dX9_order_141 : decode cX9_order 141 = .ok (.aload_n 0, 1) := by decide +kernel
theorem dX9_order_142 : decode cX9_order 142 = .ok (.getfield 47, 3) := by decide +kernel
theorem dX9_order_145 : decode cX9_order 145 = .ok (.iload 5, 2) := by decide +kernel
theorem dX9_order_147 : decode cX9_order 147 = .ok (.aload_n 0, 1) := by decide +kernel
theorem dX9_order_148 : decode cX9_order 148 = .ok (.getfield 44, 3) := by decide +kernel
theorem dX9_order_151 : decode cX9_order 151 = .ok (.iload 5, 2) := by decide +kernel
theorem dX9_order_153 : decode cX9_order 153 = .ok (.iaload, 1) := by decide +kernel
theorem dX9_order_154 : decode cX9_order 154 = .ok (.iastore, 1) := by decide +kernel
theorem dX9_order_155 : decode cX9_order 155 = .ok (.iinc 5 1, 3) := by decide +kernel
theorem dX9_order_158 : decode cX9_order 158 = .ok (.goto (-24), 3) := by decide +kernel
theorem dX9_order_161 : decode cX9_order 161 = .ok (.aload_n 0, 1) := by decide +kernel
theorem dX9_order_162 : decode cX9_order 162 = .ok (.invokevirtual 182, 3) := by decide +kernel
theorem dX9_order_165 : decode cX9_order 165 = .ok (.istore_n 3, 1) := by decide +kernel
theorem dX9_order_166 : decode cX9_order 166 = .ok (.goto (-119), 3) := by decide +kernel
theorem dX9_order_169 : decode cX9_order 169 = .ok (.iload_n 1, 1) := by decide +kernel
theorem dX9_order_170 : decode cX9_order 170 = .ok (.ifCond .ge 7, 3) := by decide +kernel
theorem dX9_order_173 : decode cX9_order 173 = .ok (.iload_n 2, 1) := by decide +kernel
theorem dX9_order_174 : decode cX9_order 174 = .ok (.goto 9, 3) := by decide +kernel
theorem dX9_order_177 : decode cX9_order 177 = .ok (.aload_n 0, 1) := by decide +kernel
theorem dX9_order_178 : decode cX9_order 178 = .ok (.getfield 47, 3) := by decide +kernel
theorem dX9_order_181 : decode cX9_order 181 = .ok (.iload_n 1, 1) := by decide +kernel
theorem dX9_order_182 : decode cX9_order 182 = .ok (.iaload, 1) := by decide +kernel
theorem dX9_order_183 : decode cX9_order 183 = .ok (.ireturn, 1) := by decide +kernel
theorem dX9_bribes_0 : decode cX9_bribes 0 = .ok (.iload_n 1, 1) := by decide +kernel
theorem dX9_bribes_1 : decode cX9_bribes 1 = .ok (.i2l, 1) := by decide +kernel
theorem dX9_bribes_2 : decode cX9_bribes 2 = .ok (.lconst 0, 1) := by decide +kernel
theorem dX9_bribes_3 : decode cX9_bribes 3 = .ok (.lconst 1, 1) := by decide +kernel
theorem dX9_bribes_4 : decode cX9_bribes 4 = .ok (.invokestatic 70, 3) := by decide +kernel
theorem dX9_bribes_7 : decode cX9_bribes 7 = .ok (.ifCond .ne 5, 3) := by decide +kernel
theorem dX9_bribes_10 : decode cX9_bribes 10 = .ok (.iconst (-1), 1) := by decide +kernel
theorem dX9_bribes_11 : decode cX9_bribes 11 = .ok (.ireturn, 1) := by decide +kernel
theorem dX9_bribes_12 : decode cX9_bribes 12 = .ok (.iconst (-1), 1) := by decide +kernel
theorem dX9_bribes_13 : decode cX9_bribes 13 = .ok (.istore_n 2, 1) := by decide +kernel
theorem dX9_bribes_14 : decode cX9_bribes 14 = .ok (.bipush (-4), 2) := by decide +kernel
theorem dX9_bribes_16 : decode cX9_bribes 16 = .ok (.istore_n 3, 1) := by decide +kernel
theorem dX9_bribes_17 : decode cX9_bribes 17 = .ok (.iconst 0, 1) := by decide +kernel
theorem dX9_bribes_18 : decode cX9_bribes 18 = .ok (.istore 4, 2) := by decide +kernel
theorem dX9_bribes_20 : decode cX9_bribes 20 = .ok (.iload 4, 2) := by decide +kernel
theorem dX9_bribes_22 : decode cX9_bribes 22 = .ok (.iconst 1, 1) := by decide +kernel
theorem dX9_bribes_23 : decode cX9_bribes 23 = .ok (.aload_n 0, 1) := by decide +kernel
theorem dX9_bribes_24 : decode cX9_bribes 24 = .ok (.getfield 23, 3) := by decide +kernel
theorem dX9_bribes_27 : decode cX9_bribes 27 = .ok (.iconst 0, 1) := by decide +kernel
theorem dX9_bribes_28 : decode cX9_bribes 28 = .ok (.iaload, 1) := by decide +kernel
theorem dX9_bribes_29 : decode cX9_bribes 29 = .ok (.ishl, 1) := by decide +kernel
theorem dX9_bribes_30 : decode cX9_bribes 30 = .ok (.if_icmp .ge 126, 3) := by decide +kernel
theorem dX9_bribes_33 : decode cX9_bribes 33 = .ok (.iconst 0, 1) := by decide +kernel
theorem dX9_bribes_34 : decode cX9_bribes 34 = .ok (.istore 5, 2) := by decide +kernel
theorem dX9_bribes_36 : decode cX9_bribes 36 = .ok (.iconst 0, 1) := by decide +kernel
theorem dX9_bribes_37 : decode cX9_bribes 37 = .ok (.istore 6, 2) := by decide +kernel
theorem dX9_bribes_39 : decode cX9_bribes 39 = .ok (.iload 6, 2) := by decide +kernel
theorem dX9_bribes_41 : decode cX9_bribes 41 = .ok (.aload_n 0, 1) := by decide +kernel
theorem dX9_bribes_42 : decode cX9_bribes 42 = .ok (.getfield 23, 3) := by decide +kernel
theorem dX9_bribes_45 : decode cX9_bribes 45 = .ok (.iconst 0, 1) := by decide +kernel
theorem dX9_bribes_46 : decode cX9_bribes 46 = .ok (.iaload, 1) := by decide +kernel
theorem dX9_bribes_47 : decode cX9_bribes 47 = .ok (.if_icmp .ge 80, 3) := by decide +kernel
theorem dX9_bribes_50 : decode cX9_bribes 50 = .ok (.iload 4, 2) := by decide +kernel
theorem dX9_bribes_52 : decode cX9_bribes 52 = .ok (.iload 6, 2) := by decide +kernel
theorem dX9_bribes_54 : decode cX9_bribes 54 = .ok (.ishr, 1) := by decide +kernel
theorem dX9_bribes_55 : decode cX9_bribes 55 = .ok (.iconst 1, 1) := by decide +kernel
theorem dX9_bribes_56 : decode cX9_bribes 56 = .ok (.iand, 1) := by decide +kernel
theorem dX9_bribes_57 : decode cX9_bribes 57 = .ok (.iconst 1, 1) := by decide +kernel
theorem dX9_bribes_58 : decode cX9_bribes 58 = .ok (.if_icmp .ne 7, 3) := by decide +kernel
theorem dX9_bribes_61 : decode cX9_bribes 61 = .ok (.iconst 1, 1) := by decide +kernel
theorem dX9_bribes_62 : decode cX9_bribes 62 = .ok (.goto 4, 3) := by decide +kernel
theorem dX9_bribes_65 : decode cX9_bribes 65 = .ok (.iconst 0, 1) := by decide +kernel
theorem dX9_bribes_66 : decode cX9_bribes 66 = .ok (.istore 7, 2) := by decide +kernel
theorem dX9_bribes_68 : decode cX9_bribes 68 = .ok (.iload 5, 2) := by decide +kernel
theorem dX9_bribes_70 : decode cX9_bribes 70 = .ok (.iload 7, 2) := by decide +kernel
theorem dX9_bribes_72 : decode cX9_bribes 72 = .ok (.ifCond .eq 17, 3) := by decide +kernel
theorem dX9_bribes_75 : decode cX9_bribes 75 = .ok (.aload_n 0, 1) := by decide +kernel
theorem dX9_bribes_76 : decode cX9_bribes 76 = .ok (.getfield 26, 3) := by decide +kernel
theorem dX9_bribes_79 : decode cX9_bribes 79 = .ok (.iconst 3, 1) := by decide +kernel
theorem dX9_bribes_80 : decode cX9_bribes 80 = .ok (.iload 6, 2) := by decide +kernel
theorem dX9_bribes_82 : decode cX9_bribes 82 = .ok (.imul, 1) := by decide +kernel
theorem dX9_bribes_83 : decode cX9_bribes 83 = .ok (.iconst 2, 1) := by decide +kernel
theorem dX9_bribes_84 : decode cX9_bribes 84 = .ok (.iadd, 1) := by decide +kernel
theorem dX9_bribes_85 : decode cX9_bribes 85 = .ok (.iaload, 1) := by decide +kernel
theorem dX9_bribes_86 : decode cX9_bribes 86 = .ok (.goto 4, 3) := by decide +kernel
theorem dX9_bribes_89 : decode cX9_bribes 89 = .ok (.iconst 0, 1) := by decide +kernel
theorem dX9_bribes_90 : decode cX9_bribes 90 = .ok (.iadd, 1) := by decide +kernel
theorem dX9_bribes_91 : decode cX9_bribes 91 = .ok (.istore 5, 2) := by decide +kernel
theorem dX9_bribes_93 : decode cX9_bribes 93 = .ok (.aload_n 0, 1) := by decide +kernel
theorem dX9_bribes_94 : decode cX9_bribes 94 = .ok (.getfield 50, 3) := by decide +kernel
theorem dX9_bribes_97 : decode cX9_bribes 97 = .ok (.iload 6, 2) := by decide +kernel
theorem dX9_bribes_99 : decode cX9_bribes 99 = .ok (.aload_n 0, 1) := by decide +kernel
theorem dX9_bribes_100 : decode cX9_bribes 100 = .ok (.iload 6, 2) := by decide +kernel
theorem dX9_bribes_102 : decode cX9_bribes 102 = .ok (.iload 7, 2) := by decide +kernel
theorem dX9_bribes_104 : decode cX9_bribes 104 = .ok (.ifCond .eq 7, 3) := by decide +kernel
theorem dX9_bribes_107 : decode cX9_bribes 107 = .ok (.iconst 0, 1) := by decide +kernel
theorem dX9_bribes_108 : decode cX9_bribes 108 = .ok (.goto 9, 3) := by decide +kernel
theorem dX9_bribes_111 : decode cX9_bribes 111 = .ok (.aload_n 0, 1) := by decide +kernel
theorem dX9_bribes_112 : decode cX9_bribes 112 = .ok (.iload 6, 2) := by decide +kernel
theorem dX9_bribes_114 : decode cX9_bribes 114 = .ok (.invokevirtual 141, 3) := by decide +kernel
theorem dX9_bribes_117 : decode cX9_bribes 117 = .ok (.invokevirtual 144, 3) := by decide +kernel
theorem dX9_bribes_120 : decode cX9_bribes 120 = .ok (.iastore, 1) := by decide +kernel
theorem dX9_bribes_121 : decode cX9_bribes 121 = .ok (.iinc 6 1, 3) := by decide +kernel
theorem dX9_bribes_124 : decode cX9_bribes 124 = .ok (.goto (-85), 3) := by decide +kernel
theorem dX9_bribes_127 : decode cX9_bribes 127 = .ok (.aload_n 0, 1) := by decide +kernel
theorem dX9_bribes_128 : decode cX9_bribes 128 = .ok (.invokevirtual 164, 3) := by decide +kernel
theorem dX9_bribes_131 : decode cX9_bribes 131 = .ok (.ifCond .eq 19, 3) := by decide +kernel
theorem dX9_bribes_134 : decode cX9_bribes 134 = .ok (.iload_n 2, 1) := by decide +kernel
theorem dX9_bribes_135 : decode cX9_bribes 135 = .ok (.ifCond .lt 9, 3) := by decide +kernel
theorem dX9_bribes_138 : decode cX9_bribes 138 = .ok (.iload 5, 2) := by decide +kernel
theorem dX9_bribes_140 : decode cX9_bribes 140 = .ok (.iload_n 2, 1) := by decide +kernel
theorem dX9_bribes_141 : decode cX9_bribes 141 = .ok (.if_icmp .ge 9, 3) := by decide +kernel
theorem dX9_bribes_144 : decode cX9_bribes 144 = .ok (.iload 5, 2) := by decide +kernel
theorem dX9_bribes_146 : decode cX9_bribes 146 = .ok (.istore_n 2, 1) := by decide +kernel
theorem dX9_bribes_147 : decode cX9_bribes 147 = .ok (.iload 4, 2) := by decide +kernel
theorem dX9_bribes_149 : decode cX9_bribes 149 = .ok (.istore_n 3, 1) := by decide +kernel
theorem dX9_bribes_150 : decode cX9_bribes 150 = .ok (.iinc 4 1, 3) := by decide +kernel
theorem dX9_bribes_153 : decode cX9_bribes 153 = .ok (.goto (-133), 3) := by decide +kernel
theorem dX9_bribes_156 : decode cX9_bribes 156 = .ok (.iload_n 3, 1) := by decide +kernel
theorem dX9_bribes_157 : decode cX9_bribes 157 = .ok (.ifCond .lt 8, 3) := by decide +kernel
theorem dX9_bribes_160 : decode cX9_bribes 160 = .ok (.iload_n 1, 1) := by decide +kernel
theorem dX9_bribes_161 : decode cX9_bribes 161 = .ok (.iconst 1, 1) := by decide +kernel
theorem dX9_bribes_162 : decode cX9_bribes 162 = .ok (.if_icmp .ne 7, 3) := by decide +kernel
theorem dX9_bribes_165 : decode cX9_bribes 165 = .ok (.iload_n 3, 1) := by decide +kernel
theorem dX9_bribes_166 : decode cX9_bribes 166 = .ok (.goto 4, 3) := by decide +kernel
theorem dX9_bribes_169 : decode cX9_bribes 169 = .ok (.iload_n 2, 1) := by decide +kernel
theorem dX9_bribes_170 : decode cX9_bribes 170 = .ok (.ireturn, 1) := by decide +kernel
theorem dX9_closed_0 : decode cX9_closed 0 = .ok (.iload_n 1, 1) := by decide +kernel
theorem dX9_closed_1 : decode cX9_closed 1 = .ok (.i2l, 1) := by decide +kernel
theorem dX9_closed_2 : decode cX9_closed 2 = .ok (.ldc2_w 156, 3) := by decide +kernel
theorem dX9_closed_5 : decode cX9_closed 5 = .ok (.aload_n 0, 1) := by decide +kernel
theorem dX9_closed_6 : decode cX9_closed 6 = .ok (.getfield 23, 3) := by decide +kernel
theorem dX9_closed_9 : decode cX9_closed 9 = .ok (.iconst 0, 1) := by decide +kernel
theorem dX9_closed_10 : decode cX9_closed 10 = .ok (.iaload, 1) := by decide +kernel
theorem dX9_closed_11 : decode cX9_closed 11 = .ok (.iconst 1, 1) := by decide +kernel
theorem dX9_closed_12 : decode cX9_closed 12 = .ok (.isub, 1) := by decide +kernel
theorem dX9_closed_13 : decode cX9_closed 13 = .ok (.i2l, 1) := by decide +kernel
theorem dX9_closed_14 : decode cX9_closed 14 = .ok (.invokestatic 70, 3) := by decide +kernel
theorem dX9_closed_17 : decode cX9_closed 17 = .ok (.ifCond .ne 5, 3) := by decide +kernel
theorem dX9_closed_20 : decode cX9_closed 20 = .ok (.iconst (-1), 1) := by decide +kernel
theorem dX9_closed_21 : decode cX9_closed 21 = .ok (.ireturn, 1) := by decide +kernel
theorem dX9_closed_22 : decode cX9_closed 22 = .ok (.aload_n 0, 1) := by decide +kernel
theorem dX9_closed_23 : decode cX9_closed 23 = .ok (.invokevirtual 158, 3) := by decide +kernel
theorem dX9_closed_26 : decode cX9_closed 26 = .ok (.iconst 0, 1) := by decide +kernel
theorem dX9_closed_27 : decode cX9_closed 27 = .ok (.istore_n 2, 1) := by decide +kernel
theorem dX9_closed_28 : decode cX9_closed 28 = .ok (.iload_n 2, 1) := by decide +kernel
theorem dX9_closed_29 : decode cX9_closed 29 = .ok (.aload_n 0, 1) := by decide +kernel
theorem dX9_closed_30 : decode cX9_closed 30 = .ok (.getfield 23, 3) := by decide +kernel
theorem dX9_closed_33 : decode cX9_closed 33 = .ok (.iconst 0, 1) := by decide +kernel
theorem dX9_closed_34 : decode cX9_closed 34 = .ok (.iaload, 1) := by decide +kernel
theorem dX9_closed_35 : decode cX9_closed 35 = .ok (.if_icmp .ge 21, 3) := by decide +kernel
theorem dX9_closed_38 : decode cX9_closed 38 = .ok (.aload_n 0, 1) := by decide +kernel
theorem dX9_closed_39 : decode cX9_closed 39 = .ok (.getfield 56, 3) := by decide +kernel
theorem dX9_closed_42 : decode cX9_closed 42 = .ok (.iload_n 2, 1) := by decide +kernel
theorem dX9_closed_43 : decode cX9_closed 43 = .ok (.aload_n 0, 1) := by decide +kernel
theorem dX9_closed_44 : decode cX9_closed 44 = .ok (.getfield 50, 3) := by decide +kernel
theorem dX9_closed_47 : decode cX9_closed 47 = .ok (.iload_n 2, 1) := by decide +kernel
theorem dX9_closed_48 : decode cX9_closed 48 = .ok (.iaload, 1) := by decide +kernel
theorem dX9_closed_49 : decode cX9_closed 49 = .ok (.iastore, 1) := by decide +kernel
theorem dX9_closed_50 : decode cX9_closed 50 = .ok (.iinc 2 1, 3) := by decide +kernel
theorem dX9_closed_53 : decode cX9_closed 53 = .ok (.goto (-25), 3) := by decide +kernel
theorem dX9_closed_56 : decode cX9_closed 56 = .ok (.iconst 0, 1) := by decide +kernel
theorem dX9_closed_57 : decode cX9_closed 57 = .ok (.istore_n 2, 1) := by decide +kernel
theorem dX9_closed_58 : decode cX9_closed 58 = .ok (.iload_n 2, 1) := by decide +kernel
theorem dX9_closed_59 : decode cX9_closed 59 = .ok (.bipush 7, 2) := by decide +kernel
theorem dX9_closed_61 : decode cX9_closed 61 = .ok (.if_icmp .ge 103, 3) := by decide +kernel
theorem dX9_closed_64 : decode cX9_closed 64 = .ok (.iconst 0, 1) := by decide +kernel
theorem dX9_closed_65 : decode cX9_closed 65 = .ok (.istore_n 3, 1) := by decide +kernel
theorem dX9_closed_66 : decode cX9_closed 66 = .ok (.iload_n 3, 1) := by decide +kernel
theorem dX9_closed_67 : decode cX9_closed 67 = .ok (.aload_n 0, 1) := by decide +kernel
theorem dX9_closed_68 : decode cX9_closed 68 = .ok (.getfield 29, 3) := by decide +kernel
theorem dX9_closed_71 : decode cX9_closed 71 = .ok (.iconst 0, 1) := by decide +kernel
theorem dX9_closed_72 : decode cX9_closed 72 = .ok (.iaload, 1) := by decide +kernel
theorem dX9_closed_73 : decode cX9_closed 73 = .ok (.if_icmp .ge 85, 3) := by decide +kernel
theorem dX9_closed_76 : decode cX9_closed 76 = .ok (.aload_n 0, 1) := by decide +kernel
theorem dX9_closed_77 : decode cX9_closed 77 = .ok (.getfield 32, 3) := by decide +kernel
theorem dX9_closed_80 : decode cX9_closed 80 = .ok (.iconst 2, 1) := by decide +kernel
theorem dX9_closed_81 : decode cX9_closed 81 = .ok (.iload_n 3, 1) := by decide +kernel
theorem dX9_closed_82 : decode cX9_closed 82 = .ok (.imul, 1) := by decide +kernel
theorem dX9_closed_83 : decode cX9_closed 83 = .ok (.iaload, 1) := by decide +kernel
theorem dX9_closed_84 : decode cX9_closed 84 = .ok (.istore 4, 2) := by decide +kernel
theorem dX9_closed_86 : decode cX9_closed 86 = .ok (.aload_n 0, 1) := by decide +kernel
theorem dX9_closed_87 : decode cX9_closed 87 = .ok (.getfield 32, 3) := by decide +kernel
theorem dX9_closed_90 : decode cX9_closed 90 = .ok (.iconst 2, 1) := by decide +kernel
theorem dX9_closed_91 : decode cX9_closed 91 = .ok (.iload_n 3, 1) := by decide +kernel
theorem dX9_closed_92 : decode cX9_closed 92 = .ok (.imul, 1) := by decide +kernel
theorem dX9_closed_93 : decode cX9_closed 93 = .ok (.iconst 1, 1) := by decide +kernel
theorem dX9_closed_94 : decode cX9_closed 94 = .ok (.iadd, 1) := by decide +kernel
theorem dX9_closed_95 : decode cX9_closed 95 = .ok (.iaload, 1) := by decide +kernel
theorem dX9_closed_96 : decode cX9_closed 96 = .ok (.istore 5, 2) := by decide +kernel
theorem dX9_closed_98 : decode cX9_closed 98 = .ok (.aload_n 0, 1) := by decide +kernel
theorem dX9_closed_99 : decode cX9_closed 99 = .ok (.getfield 56, 3) := by decide +kernel
theorem dX9_closed_102 : decode cX9_closed 102 = .ok (.iload 4, 2) := by decide +kernel
theorem dX9_closed_104 : decode cX9_closed 104 = .ok (.iaload, 1) := by decide +kernel
theorem dX9_closed_105 : decode cX9_closed 105 = .ok (.aload_n 0, 1) := by decide +kernel
theorem dX9_closed_106 : decode cX9_closed 106 = .ok (.getfield 56, 3) := by decide +kernel
theorem dX9_closed_109 : decode cX9_closed 109 = .ok (.iload 5, 2) := by decide +kernel
theorem dX9_closed_111 : decode cX9_closed 111 = .ok (.iaload, 1) := by decide +kernel
theorem dX9_closed_112 : decode cX9_closed 112 = .ok (.if_icmp .ge 13, 3) := by decide +kernel
theorem dX9_closed_115 : decode cX9_closed 115 = .ok (.aload_n 0, 1) := by decide +kernel
theorem dX9_closed_116 : decode cX9_closed 116 = .ok (.getfield 56, 3) := by decide +kernel
theorem dX9_closed_119 : decode cX9_closed 119 = .ok (.iload 4, 2) := by decide +kernel
theorem dX9_closed_121 : decode cX9_closed 121 = .ok (.iaload, 1) := by decide +kernel
theorem dX9_closed_122 : decode cX9_closed 122 = .ok (.goto 10, 3) := by decide +kernel
theorem dX9_closed_125 : decode cX9_closed 125 = .ok (.aload_n 0, 1) := by decide +kernel
theorem dX9_closed_126 : decode cX9_closed 126 = .ok (.getfield 56, 3) := by decide +kernel
theorem dX9_closed_129 : decode cX9_closed 129 = .ok (.iload 5, 2) := by decide +kernel
theorem dX9_closed_131 : decode cX9_closed 131 = .ok (.iaload, 1) := by decide +kernel
theorem dX9_closed_132 : decode cX9_closed 132 = .ok (.istore 6, 2) := by decide +kernel
theorem dX9_closed_134 : decode cX9_closed 134 = .ok (.aload_n 0, 1) := by decide +kernel
theorem dX9_closed_135 : decode cX9_closed 135 = .ok (.getfield 56, 3) := by decide +kernel
theorem dX9_closed_138 : decode cX9_closed 138 = .ok (.iload 4, 2) := by decide +kernel
theorem dX9_closed_140 : decode cX9_closed 140 = .ok (.iload 6, 2) := by decide +kernel
theorem dX9_closed_142 : decode cX9_closed 142 = .ok (.iastore, 1) := by decide +kernel
theorem dX9_closed_143 : decode cX9_closed 143 = .ok (.aload_n 0, 1) := by decide +kernel
theorem dX9_closed_144 : decode cX9_closed 144 = .ok (.getfield 56, 3) := by decide +kernel
theorem dX9_closed_147 : decode cX9_closed 147 = .ok (.iload 5, 2) := by decide +kernel
theorem dX9_closed_149 : decode cX9_closed 149 = .ok (.iload 6, 2) := by decide +kernel
theorem dX9_closed_151 : decode cX9_closed 151 = .ok (.iastore, 1) := by decide +kernel
theorem dX9_closed_152 : decode cX9_closed 152 = .ok (.iinc 3 1, 3) := by decide +kernel
theorem dX9_closed_155 : decode cX9_closed 155 = .ok (.goto (-89), 3) := by decide +kernel
theorem dX9_closed_158 : decode cX9_closed 158 = .ok (.iinc 2 1, 3) := by decide +kernel
theorem dX9_closed_161 : decode cX9_closed 161 = .ok (.goto (-103), 3) := by decide +kernel
theorem dX9_closed_164 : decode cX9_closed 164 = .ok (.iconst 0, 1) := by decide +kernel
theorem dX9_closed_165 : decode cX9_closed 165 = .ok (.istore_n 2, 1) := by decide +kernel
theorem dX9_closed_166 : decode cX9_closed 166 = .ok (.iconst 0, 1) := by decide +kernel
theorem dX9_closed_167 : decode cX9_closed 167 = .ok (.istore_n 3, 1) := by decide +kernel
theorem dX9_closed_168 : decode cX9_closed 168 = .ok (.iload_n 3, 1) := by decide +kernel
theorem dX9_closed_169 : decode cX9_closed 169 = .ok (.aload_n 0, 1) := by decide +kernel
theorem dX9_closed_170 : decode cX9_closed 170 = .ok (.getfield 23, 3) := by decide +kernel
theorem dX9_closed_173 : decode cX9_closed 173 = .ok (.iconst 0, 1) := by decide +kernel
theorem dX9_closed_174 : decode cX9_closed 174 = .ok (.iaload, 1) := by decide +kernel
theorem dX9_closed_175 : decode cX9_closed 175 = .ok (.if_icmp .ge 25, 3) := by decide +kernel
theorem dX9_closed_178 : decode cX9_closed 178 = .ok (.iload_n 2, 1) := by decide +kernel
theorem dX9_closed_179 : decode cX9_closed 179 = .ok (.aload_n 0, 1) := by decide +kernel
theorem dX9_closed_180 : decode cX9_closed 180 = .ok (.getfield 50, 3) := by decide +kernel
theorem dX9_closed_183 : decode cX9_closed 183 = .ok (.iload_n 3, 1) := by decide +kernel
theorem dX9_closed_184 : decode cX9_closed 184 = .ok (.iaload, 1) := by decide +kernel
theorem dX9_closed_185 : decode cX9_closed 185 = .ok (.aload_n 0, 1) := by decide +kernel
theorem dX9_closed_186 : decode cX9_closed 186 = .ok (.getfield 56, 3) := by decide +kernel
theorem dX9_closed_189 : decode cX9_closed 189 = .ok (.iload_n 3, 1) := by decide +kernel
theorem dX9_closed_190 : decode cX9_closed 190 = .ok (.iaload, 1) := by decide +kernel
theorem dX9_closed_191 : decode cX9_closed 191 = .ok (.isub, 1) := by decide +kernel
theorem dX9_closed_192 : decode cX9_closed 192 = .ok (.iadd, 1) := by decide +kernel
theorem dX9_closed_193 : decode cX9_closed 193 = .ok (.istore_n 2, 1) := by decide +kernel
theorem dX9_closed_194 : decode cX9_closed 194 = .ok (.iinc 3 1, 3) := by decide +kernel
theorem dX9_closed_197 : decode cX9_closed 197 = .ok (.goto (-29), 3) := by decide +kernel
theorem dX9_closed_200 : decode cX9_closed 200 = .ok (.iload_n 1, 1) := by decide +kernel
theorem dX9_closed_201 : decode cX9_closed 201 = .ok (.ifCond .ge 7, 3) := by decide +kernel
theorem dX9_closed_204 : decode cX9_closed 204 = .ok (.iload_n 2, 1) := by decide +kernel
theorem dX9_closed_205 : decode cX9_closed 205 = .ok (.goto 16, 3) := by decide +kernel
theorem dX9_closed_208 : decode cX9_closed 208 = .ok (.aload_n 0, 1) := by decide +kernel
theorem dX9_closed_209 : decode cX9_closed 209 = .ok (.getfield 50, 3) := by decide +kernel
theorem dX9_closed_212 : decode cX9_closed 212 = .ok (.iload_n 1, 1) := by decide +kernel
theorem dX9_closed_213 : decode cX9_closed 213 = .ok (.iaload, 1) := by decide +kernel
theorem dX9_closed_214 : decode cX9_closed 214 = .ok (.aload_n 0, 1) := by decide +kernel
theorem dX9_closed_215 : decode cX9_closed 215 = .ok (.getfield 56, 3) := by decide +kernel
theorem dX9_closed_218 : decode cX9_closed 218 = .ok (.iload_n 1, 1) := by decide +kernel
theorem dX9_closed_219 : decode cX9_closed 219 = .ok (.iaload, 1) := by decide +kernel
theorem dX9_closed_220 : decode cX9_closed 220 = .ok (.isub, 1) := by decide +kernel
theorem dX9_closed_221 : decode cX9_closed 221 = .ok (.ireturn, 1) := by decide +kernel
theorem dX9_seen_0 : decode cX9_seen 0 = .ok (.aload_n 0, 1) := by decide +kernel
theorem dX9_seen_1 : decode cX9_seen 1 = .ok (.iload_n 1, 1) := by decide +kernel
theorem dX9_seen_2 : decode cX9_seen 2 = .ok (.invokevirtual 185, 3) := by decide +kernel
theorem dX9_seen_5 : decode cX9_seen 5 = .ok (.ifCond .eq 29, 3) := by decide +kernel
theorem dX9_seen_8 : decode cX9_seen 8 = .ok (.iload_n 2, 1) := by decide +kernel
theorem dX9_seen_9 : decode cX9_seen 9 = .ok (.i2l, 1) := by decide +kernel
theorem dX9_seen_10 : decode cX9_seen 10 = .ok (.ldc2_w 103, 3) := by decide +kernel
theorem dX9_seen_13 : decode cX9_seen 13 = .ok (.ldc2_w 105, 3) := by decide +kernel
theorem dX9_seen_16 : decode cX9_seen 16 = .ok (.invokestatic 70, 3) := by decide +kernel
theorem dX9_seen_19 : decode cX9_seen 19 = .ok (.ifCond .eq 15, 3) := by decide +kernel
theorem dX9_seen_22 : decode cX9_seen 22 = .ok (.iload_n 3, 1) := by decide +kernel
theorem dX9_seen_23 : decode cX9_seen 23 = .ok (.i2l, 1) := by decide +kernel
theorem dX9_seen_24 : decode cX9_seen 24 = .ok (.lconst 1, 1) := by decide +kernel
theorem dX9_seen_25 : decode cX9_seen 25 = .ok (.ldc2_w 180, 3) := by decide +kernel
theorem dX9_seen_28 : decode cX9_seen 28 = .ok (.invokestatic 70, 3) := by decide +kernel
theorem dX9_seen_31 : decode cX9_seen 31 = .ok (.ifCond .ne 5, 3) := by decide +kernel
theorem dX9_seen_34 : decode cX9_seen 34 = .ok (.iconst (-1), 1) := by decide +kernel
theorem dX9_seen_35 : decode cX9_seen 35 = .ok (.ireturn, 1) := by decide +kernel
theorem dX9_seen_36 : decode cX9_seen 36 = .ok (.aload_n 0, 1) := by decide +kernel
theorem dX9_seen_37 : decode cX9_seen 37 = .ok (.getfield 107, 3) := by decide +kernel
theorem dX9_seen_40 : decode cX9_seen 40 = .ok (.bipush 10, 2) := by decide +kernel
theorem dX9_seen_42 : decode cX9_seen 42 = .ok (.if_icmp .ne 6, 3) := by decide +kernel
theorem dX9_seen_45 : decode cX9_seen 45 = .ok (.bipush (-3), 2) := by decide +kernel
theorem dX9_seen_47 : decode cX9_seen 47 = .ok (.ireturn, 1) := by decide +kernel
theorem dX9_seen_48 : decode cX9_seen 48 = .ok (.aload_n 0, 1) := by decide +kernel
theorem dX9_seen_49 : decode cX9_seen 49 = .ok (.getfield 38, 3) := by decide +kernel
theorem dX9_seen_52 : decode cX9_seen 52 = .ok (.iconst 3, 1) := by decide +kernel
theorem dX9_seen_53 : decode cX9_seen 53 = .ok (.aload_n 0, 1) := by decide +kernel
theorem dX9_seen_54 : decode cX9_seen 54 = .ok (.getfield 107, 3) := by decide +kernel
theorem dX9_seen_57 : decode cX9_seen 57 = .ok (.imul, 1) := by decide +kernel
theorem dX9_seen_58 : decode cX9_seen 58 = .ok (.iload_n 1, 1) := by decide +kernel
theorem dX9_seen_59 : decode cX9_seen 59 = .ok (.iastore, 1) := by decide +kernel
theorem dX9_seen_60 : decode cX9_seen 60 = .ok (.aload_n 0, 1) := by decide +kernel
theorem dX9_seen_61 : decode cX9_seen 61 = .ok (.getfield 38, 3) := by decide +kernel
theorem dX9_seen_64 : decode cX9_seen 64 = .ok (.iconst 3, 1) := by decide +kernel
theorem dX9_seen_65 : decode cX9_seen 65 = .ok (.aload_n 0, 1) := by decide +kernel
theorem dX9_seen_66 : decode cX9_seen 66 = .ok (.getfield 107, 3) := by decide +kernel
theorem dX9_seen_69 : decode cX9_seen 69 = .ok (.imul, 1) := by decide +kernel
theorem dX9_seen_70 : decode cX9_seen 70 = .ok (.iconst 1, 1) := by decide +kernel
theorem dX9_seen_71 : decode cX9_seen 71 = .ok (.iadd, 1) := by decide +kernel
theorem dX9_seen_72 : decode cX9_seen 72 = .ok (.iload_n 2, 1) := by decide +kernel
theorem dX9_seen_73 : decode cX9_seen 73 = .ok (.iastore, 1) := by decide +kernel
theorem dX9_seen_74 : decode cX9_seen 74 = .ok (.aload_n 0, 1) := by decide +kernel
theorem dX9_seen_75 : decode cX9_seen 75 = .ok (.getfield 38, 3) := by decide +kernel
theorem dX9_seen_78 : decode cX9_seen 78 = .ok (.iconst 3, 1) := by decide +kernel
theorem dX9_seen_79 : decode cX9_seen 79 = .ok (.aload_n 0, 1) := by decide +kernel
theorem dX9_seen_80 : decode cX9_seen 80 = .ok (.getfield 107, 3) := by decide +kernel
theorem dX9_seen_83 : decode cX9_seen 83 = .ok (.imul, 1) := by decide +kernel
theorem dX9_seen_84 : decode cX9_seen 84 = .ok (.iconst 2, 1) := by decide +kernel
theorem dX9_seen_85 : decode cX9_seen 85 = .ok (.iadd, 1) := by decide +kernel
theorem dX9_seen_86 : decode cX9_seen 86 = .ok (.iload_n 3, 1) := by decide +kernel
theorem dX9_seen_87 : decode cX9_seen 87 = .ok (.iastore, 1) := by decide +kernel
theorem dX9_seen_88 : decode cX9_seen 88 = .ok (.aload_n 0, 1) := by decide +kernel
theorem dX9_seen_89 : decode cX9_seen 89 = .ok (.dup, 1) := by decide +kernel
theorem dX9_seen_90 : decode cX9_seen 90 = .ok (.getfield 107, 3) := by decide +kernel
theorem dX9_seen_93 : decode cX9_seen 93 = .ok (.iconst 1, 1) := by decide +kernel
theorem dX9_seen_94 : decode cX9_seen 94 = .ok (.iadd, 1) := by decide +kernel
theorem dX9_seen_95 : decode cX9_seen 95 = .ok (.putfield 107, 3) := by decide +kernel
theorem dX9_seen_98 : decode cX9_seen 98 = .ok (.aload_n 0, 1) := by decide +kernel
theorem dX9_seen_99 : decode cX9_seen 99 = .ok (.getfield 107, 3) := by decide +kernel
theorem dX9_seen_102 : decode cX9_seen 102 = .ok (.ireturn, 1) := by decide +kernel
theorem dX9_forget_0 : decode cX9_forget 0 = .ok (.aload_n 0, 1) := by decide +kernel
theorem dX9_forget_1 : decode cX9_forget 1 = .ok (.getfield 107, 3) := by decide +kernel
theorem dX9_forget_4 : decode cX9_forget 4 = .ok (.istore_n 1, 1) := by decide +kernel
theorem dX9_forget_5 : decode cX9_forget 5 = .ok (.aload_n 0, 1) := by decide +kernel
theorem dX9_forget_6 : decode cX9_forget 6 = .ok (.iconst 0, 1) := by decide +kernel
theorem dX9_forget_7 : decode cX9_forget 7 = .ok (.putfield 107, 3) := by decide +kernel
theorem dX9_forget_10 : decode cX9_forget 10 = .ok (.iload_n 1, 1) := by decide +kernel
theorem dX9_forget_11 : decode cX9_forget 11 = .ok (.ireturn, 1) := by decide +kernel
theorem dX9_inch_0 : decode cX9_inch 0 = .ok (.aload_n 0, 1) := by decide +kernel
theorem dX9_inch_1 : decode cX9_inch 1 = .ok (.iload_n 1, 1) := by decide +kernel
theorem dX9_inch_2 : decode cX9_inch 2 = .ok (.invokevirtual 185, 3) := by decide +kernel
theorem dX9_inch_5 : decode cX9_inch 5 = .ok (.ifCond .eq 13, 3) := by decide +kernel
theorem dX9_inch_8 : decode cX9_inch 8 = .ok (.iload_n 2, 1) := by decide +kernel
theorem dX9_inch_9 : decode cX9_inch 9 = .ok (.i2l, 1) := by decide +kernel
theorem dX9_inch_10 : decode cX9_inch 10 = .ok (.lconst 0, 1) := by decide +kernel
theorem dX9_inch_11 : decode cX9_inch 11 = .ok (.lconst 1, 1) := by decide +kernel
theorem dX9_inch_12 : decode cX9_inch 12 = .ok (.invokestatic 70, 3) := by decide +kernel
theorem dX9_inch_15 : decode cX9_inch 15 = .ok (.ifCond .ne 5, 3) := by decide +kernel
theorem dX9_inch_18 : decode cX9_inch 18 = .ok (.iconst (-1), 1) := by decide +kernel
theorem dX9_inch_19 : decode cX9_inch 19 = .ok (.ireturn, 1) := by decide +kernel
theorem dX9_inch_20 : decode cX9_inch 20 = .ok (.iconst 0, 1) := by decide +kernel
theorem dX9_inch_21 : decode cX9_inch 21 = .ok (.istore_n 3, 1) := by decide +kernel
theorem dX9_inch_22 : decode cX9_inch 22 = .ok (.bipush (-4), 2) := by decide +kernel
theorem dX9_inch_24 : decode cX9_inch 24 = .ok (.istore 4, 2) := by decide +kernel
theorem dX9_inch_26 : decode cX9_inch 26 = .ok (.bipush 120, 2) := by decide +kernel
theorem dX9_inch_28 : decode cX9_inch 28 = .ok (.istore 5, 2) := by decide +kernel
theorem dX9_inch_30 : decode cX9_inch 30 = .ok (.iload 5, 2) := by decide +kernel
theorem dX9_inch_32 : decode cX9_inch 32 = .ok (.bipush 80, 2) := by decide +kernel
theorem dX9_inch_34 : decode cX9_inch 34 = .ok (.if_icmp .lt 113, 3) := by decide +kernel
theorem dX9_inch_37 : decode cX9_inch 37 = .ok (.iconst 1, 1) := by decide +kernel
theorem dX9_inch_38 : decode cX9_inch 38 = .ok (.istore 6, 2) := by decide +kernel
theorem dX9_inch_40 : decode cX9_inch 40 = .ok (.iconst 0, 1) := by decide +kernel
theorem dX9_inch_41 : decode cX9_inch 41 = .ok (.istore 7, 2) := by decide +kernel
theorem dX9_inch_43 : decode cX9_inch 43 = .ok (.iload 7, 2) := by decide +kernel
theorem dX9_inch_45 : decode cX9_inch 45 = .ok (.aload_n 0, 1) := by decide +kernel
theorem dX9_inch_46 : decode cX9_inch 46 = .ok (.getfield 107, 3) := by decide +kernel
theorem dX9_inch_49 : decode cX9_inch 49 = .ok (.if_icmp .ge 65, 3) := by decide +kernel
theorem dX9_inch_52 : decode cX9_inch 52 = .ok (.iload 6, 2) := by decide +kernel
theorem dX9_inch_54 : decode cX9_inch 54 = .ok (.ifCond .eq 51, 3) := by decide +kernel
theorem dX9_inch_57 : decode cX9_inch 57 = .ok (.aload_n 0, 1) := by decide +kernel
theorem dX9_inch_58 : decode cX9_inch 58 = .ok (.getfield 38, 3) := by decide +kernel
theorem dX9_inch_61 : decode cX9_inch 61 = .ok (.iconst 3, 1) := by decide +kernel
theorem dX9_inch_62 : decode cX9_inch 62 = .ok (.iload 7, 2) := by decide +kernel
theorem dX9_inch_64 : decode cX9_inch 64 = .ok (.imul, 1) := by decide +kernel
theorem dX9_inch_65 : decode cX9_inch 65 = .ok (.iaload, 1) := by decide +kernel
theorem dX9_inch_66 : decode cX9_inch 66 = .ok (.iload_n 1, 1) := by decide +kernel
theorem dX9_inch_67 : decode cX9_inch 67 = .ok (.if_icmp .ne 34, 3) := by decide +kernel
theorem dX9_inch_70 : decode cX9_inch 70 = .ok (.aload_n 0, 1) := by decide +kernel
theorem dX9_inch_71 : decode cX9_inch 71 = .ok (.getfield 38, 3) := by decide +kernel
theorem dX9_inch_74 : decode cX9_inch 74 = .ok (.iconst 3, 1) := by decide +kernel
theorem dX9_inch_75 : decode cX9_inch 75 = .ok (.iload 7, 2) := by decide +kernel
theorem dX9_inch_77 : decode cX9_inch 77 = .ok (.imul, 1) := by decide +kernel
theorem dX9_inch_78 : decode cX9_inch 78 = .ok (.iconst 1, 1) := by decide +kernel
theorem dX9_inch_79 : decode cX9_inch 79 = .ok (.iadd, 1) := by decide +kernel
theorem dX9_inch_80 : decode cX9_inch 80 = .ok (.iaload, 1) := by decide +kernel
theorem dX9_inch_81 : decode cX9_inch 81 = .ok (.iload 5, 2) := by decide +kernel
theorem dX9_inch_83 : decode cX9_inch 83 = .ok (.imul, 1) := by decide +kernel
theorem dX9_inch_84 : decode cX9_inch 84 = .ok (.bipush 100, 2) := by decide +kernel
theorem dX9_inch_86 : decode cX9_inch 86 = .ok (.idiv, 1) := by decide +kernel
theorem dX9_inch_87 : decode cX9_inch 87 = .ok (.aload_n 0, 1) := by decide +kernel
theorem dX9_inch_88 : decode cX9_inch 88 = .ok (.getfield 38, 3) := by decide +kernel
theorem dX9_inch_91 : decode cX9_inch 91 = .ok (.iconst 3, 1) := by decide +kernel
theorem dX9_inch_92 : decode cX9_inch 92 = .ok (.iload 7, 2) := by decide +kernel
theorem dX9_inch_94 : decode cX9_inch 94 = .ok (.imul, 1) := by decide +kernel
theorem dX9_inch_95 : decode cX9_inch 95 = .ok (.iconst 2, 1) := by decide +kernel
theorem dX9_inch_96 : decode cX9_inch 96 = .ok (.iadd, 1) := by decide +kernel
theorem dX9_inch_97 : decode cX9_inch 97 = .ok (.iaload, 1) := by decide +kernel
theorem dX9_inch_98 : decode cX9_inch 98 = .ok (.if_icmp .ne 7, 3) := by decide +kernel
theorem dX9_inch_101 : decode cX9_inch 101 = .ok (.iconst 1, 1) := by decide +kernel
theorem dX9_inch_102 : decode cX9_inch 102 = .ok (.goto 4, 3) := by decide +kernel
theorem dX9_inch_105 : decode cX9_inch 105 = .ok (.iconst 0, 1) := by decide +kernel
theorem dX9_inch_106 : decode cX9_inch 106 = .ok (.istore 6, 2) := by decide +kernel
theorem dX9_inch_108 : decode cX9_inch 108 = .ok (.iinc 7 1, 3) := by decide +kernel
theorem dX9_inch_111 : decode cX9_inch 111 = .ok (.goto (-68), 3) := by decide +kernel
theorem dX9_inch_114 : decode cX9_inch 114 = .ok (.iload_n 3, 1) := by decide +kernel
theorem dX9_inch_115 : decode cX9_inch 115 = .ok (.iload 6, 2) := by decide +kernel
theorem dX9_inch_117 : decode cX9_inch 117 = .ok (.ifCond .eq 7, 3) := by decide +kernel
theorem dX9_inch_120 : decode cX9_inch 120 = .ok (.iconst 1, 1) := by decide +kernel
theorem dX9_inch_121 : decode cX9_inch 121 = .ok (.goto 4, 3) := by decide +kernel
theorem dX9_inch_124 : decode cX9_inch 124 = .ok (.iconst 0, 1) := by decide +kernel
theorem dX9_inch_125 : decode cX9_inch 125 = .ok (.iadd, 1) := by decide +kernel
theorem dX9_inch_126 : decode cX9_inch 126 = .ok (.istore_n 3, 1) := by decide +kernel
theorem dX9_inch_127 : decode cX9_inch 127 = .ok (.iload 6, 2) := by decide +kernel
theorem dX9_inch_129 : decode cX9_inch 129 = .ok (.ifCond .eq 8, 3) := by decide +kernel
theorem dX9_inch_132 : decode cX9_inch 132 = .ok (.iload 5, 2) := by decide +kernel
theorem dX9_inch_134 : decode cX9_inch 134 = .ok (.goto 5, 3) := by decide +kernel
theorem dX9_inch_137 : decode cX9_inch 137 = .ok (.iload 4, 2) := by decide +kernel
theorem dX9_inch_139 : decode cX9_inch 139 = .ok (.istore 4, 2) := by decide +kernel
theorem dX9_inch_141 : decode cX9_inch 141 = .ok (.iinc 5 (-1), 3) := by decide +kernel
theorem dX9_inch_144 : decode cX9_inch 144 = .ok (.goto (-114), 3) := by decide +kernel
theorem dX9_inch_147 : decode cX9_inch 147 = .ok (.iload_n 2, 1) := by decide +kernel
theorem dX9_inch_148 : decode cX9_inch 148 = .ok (.ifCond .ne 7, 3) := by decide +kernel
theorem dX9_inch_151 : decode cX9_inch 151 = .ok (.iload_n 3, 1) := by decide +kernel
theorem dX9_inch_152 : decode cX9_inch 152 = .ok (.goto 5, 3) := by decide +kernel
theorem dX9_inch_155 : decode cX9_inch 155 = .ok (.iload 4, 2) := by decide +kernel
theorem dX9_inch_157 : decode cX9_inch 157 = .ok (.ireturn, 1) := by decide +kernel
theorem dX9_added_0 : decode cX9_added 0 = .ok (.aload_n 0, 1) := by decide +kernel
theorem dX9_added_1 : decode cX9_added 1 = .ok (.iload_n 1, 1) := by decide +kernel
theorem dX9_added_2 : decode cX9_added 2 = .ok (.invokevirtual 151, 3) := by decide +kernel
theorem dX9_added_5 : decode cX9_added 5 = .ok (.ifCond .eq 15, 3) := by decide +kernel
theorem dX9_added_8 : decode cX9_added 8 = .ok (.iload_n 2, 1) := by decide +kernel
theorem dX9_added_9 : decode cX9_added 9 = .ok (.i2l, 1) := by decide +kernel
theorem dX9_added_10 : decode cX9_added 10 = .ok (.lconst 1, 1) := by decide +kernel
theorem dX9_added_11 : decode cX9_added 11 = .ok (.ldc2_w 180, 3) := by decide +kernel
theorem dX9_added_14 : decode cX9_added 14 = .ok (.invokestatic 70, 3) := by decide +kernel
theorem dX9_added_17 : decode cX9_added 17 = .ok (.ifCond .ne 5, 3) := by decide +kernel
theorem dX9_added_20 : decode cX9_added 20 = .ok (.iconst (-1), 1) := by decide +kernel
theorem dX9_added_21 : decode cX9_added 21 = .ok (.ireturn, 1) := by decide +kernel
theorem dX9_added_22 : decode cX9_added 22 = .ok (.iconst 0, 1) := by decide +kernel
theorem dX9_added_23 : decode cX9_added 23 = .ok (.istore_n 3, 1) := by decide +kernel
theorem dX9_added_24 : decode cX9_added 24 = .ok (.iload_n 3, 1) := by decide +kernel
theorem dX9_added_25 : decode cX9_added 25 = .ok (.bipush 10, 2) := by decide +kernel
theorem dX9_added_27 : decode cX9_added 27 = .ok (.if_icmp .ge 40, 3) := by decide +kernel
theorem dX9_added_30 : decode cX9_added 30 = .ok (.aload_n 0, 1) := by decide +kernel
theorem dX9_added_31 : decode cX9_added 31 = .ok (.iload_n 1, 1) := by decide +kernel
theorem dX9_added_32 : decode cX9_added 32 = .ok (.iload_n 3, 1) := by decide +kernel
theorem dX9_added_33 : decode cX9_added 33 = .ok (.ineg, 1) := by decide +kernel
theorem dX9_added_34 : decode cX9_added 34 = .ok (.invokevirtual 144, 3) := by decide +kernel
theorem dX9_added_37 : decode cX9_added 37 = .ok (.iload_n 2, 1) := by decide +kernel
theorem dX9_added_38 : decode cX9_added 38 = .ok (.if_icmp .ne 8, 3) := by decide +kernel
theorem dX9_added_41 : decode cX9_added 41 = .ok (.bipush 100, 2) := by decide +kernel
theorem dX9_added_43 : decode cX9_added 43 = .ok (.iload_n 3, 1) := by decide +kernel
theorem dX9_added_44 : decode cX9_added 44 = .ok (.isub, 1) := by decide +kernel
theorem dX9_added_45 : decode cX9_added 45 = .ok (.ireturn, 1) := by decide +kernel
theorem dX9_added_46 : decode cX9_added 46 = .ok (.aload_n 0, 1) := by decide +kernel
theorem dX9_added_47 : decode cX9_added 47 = .ok (.iload_n 1, 1) := by decide +kernel
theorem dX9_added_48 : decode cX9_added 48 = .ok (.iload_n 3, 1) := by decide +kernel
theorem dX9_added_49 : decode cX9_added 49 = .ok (.invokevirtual 144, 3) := by decide +kernel
theorem dX9_added_52 : decode cX9_added 52 = .ok (.iload_n 2, 1) := by decide +kernel
theorem dX9_added_53 : decode cX9_added 53 = .ok (.if_icmp .ne 8, 3) := by decide +kernel
theorem dX9_added_56 : decode cX9_added 56 = .ok (.bipush 100, 2) := by decide +kernel
theorem dX9_added_58 : decode cX9_added 58 = .ok (.iload_n 3, 1) := by decide +kernel
theorem dX9_added_59 : decode cX9_added 59 = .ok (.iadd, 1) := by decide +kernel
theorem dX9_added_60 : decode cX9_added 60 = .ok (.ireturn, 1) := by decide +kernel
theorem dX9_added_61 : decode cX9_added 61 = .ok (.iinc 3 1, 3) := by decide +kernel
theorem dX9_added_64 : decode cX9_added 64 = .ok (.goto (-40), 3) := by decide +kernel
theorem dX9_added_67 : decode cX9_added 67 = .ok (.bipush (-4), 2) := by decide +kernel
theorem dX9_added_69 : decode cX9_added 69 = .ok (.ireturn, 1) := by decide +kernel
theorem dX9_nextBolts_0 : decode cX9_nextBolts 0 = .ok (.aload_n 0, 1) := by decide +kernel
theorem dX9_nextBolts_1 : decode cX9_nextBolts 1 = .ok (.getfield 23, 3) := by decide +kernel
theorem dX9_nextBolts_4 : decode cX9_nextBolts 4 = .ok (.iconst 0, 1) := by decide +kernel
theorem dX9_nextBolts_5 : decode cX9_nextBolts 5 = .ok (.iaload, 1) := by decide +kernel
theorem dX9_nextBolts_6 : decode cX9_nextBolts 6 = .ok (.iconst 1, 1) := by decide +kernel
theorem dX9_nextBolts_7 : decode cX9_nextBolts 7 = .ok (.isub, 1) := by decide +kernel
theorem dX9_nextBolts_8 : decode cX9_nextBolts 8 = .ok (.istore_n 1, 1) := by decide +kernel
theorem dX9_nextBolts_9 : decode cX9_nextBolts 9 = .ok (.iload_n 1, 1) := by decide +kernel
theorem dX9_nextBolts_10 : decode cX9_nextBolts 10 = .ok (.ifCond .le 74, 3) := by decide +kernel
theorem dX9_nextBolts_13 : decode cX9_nextBolts 13 = .ok (.iconst 0, 1) := by decide +kernel
theorem dX9_nextBolts_14 : decode cX9_nextBolts 14 = .ok (.istore_n 2, 1) := by decide +kernel
theorem dX9_nextBolts_15 : decode cX9_nextBolts 15 = .ok (.iconst 0, 1) := by decide +kernel
theorem dX9_nextBolts_16 : decode cX9_nextBolts 16 = .ok (.istore_n 3, 1) := by decide +kernel
theorem dX9_nextBolts_17 : decode cX9_nextBolts 17 = .ok (.iload_n 3, 1) := by decide +kernel
theorem dX9_nextBolts_18 : decode cX9_nextBolts 18 = .ok (.iload_n 1, 1) := by decide +kernel
theorem dX9_nextBolts_19 : decode cX9_nextBolts 19 = .ok (.if_icmp .ge 30, 3) := by decide +kernel
theorem dX9_nextBolts_22 : decode cX9_nextBolts 22 = .ok (.aload_n 0, 1) := by decide +kernel
theorem dX9_nextBolts_23 : decode cX9_nextBolts 23 = .ok (.getfield 44, 3) := by decide +kernel
theorem dX9_nextBolts_26 : decode cX9_nextBolts 26 = .ok (.iload_n 3, 1) := by decide +kernel
theorem dX9_nextBolts_27 : decode cX9_nextBolts 27 = .ok (.iaload, 1) := by decide +kernel
theorem dX9_nextBolts_28 : decode cX9_nextBolts 28 = .ok (.iload_n 2, 1) := by decide +kernel
theorem dX9_nextBolts_29 : decode cX9_nextBolts 29 = .ok (.if_icmp .le 12, 3) := by decide +kernel
theorem dX9_nextBolts_32 : decode cX9_nextBolts 32 = .ok (.aload_n 0, 1) := by decide +kernel
theorem dX9_nextBolts_33 : decode cX9_nextBolts 33 = .ok (.getfield 44, 3) := by decide +kernel
theorem dX9_nextBolts_36 : decode cX9_nextBolts 36 = .ok (.iload_n 3, 1) := by decide +kernel
theorem dX9_nextBolts_37 : decode cX9_nextBolts 37 = .ok (.iaload, 1) := by decide +kernel
theorem dX9_nextBolts_38 : decode cX9_nextBolts 38 = .ok (.goto 4, 3) := by decide +kernel
theorem dX9_nextBolts_41 : decode cX9_nextBolts 41 = .ok (.iload_n 2, 1) := by decide +kernel
theorem dX9_nextBolts_42 : decode cX9_nextBolts 42 = .ok (.istore_n 2, 1) := by decide +kernel
theorem dX9_nextBolts_43 : decode cX9_nextBolts 43 = .ok (.iinc 3 1, 3) := by decide +kernel
theorem dX9_nextBolts_46 : decode cX9_nextBolts 46 = .ok (.goto (-29), 3) := by decide +kernel
theorem dX9_nextBolts_49 : decode cX9_nextBolts 49 = .ok (.aload_n 0, 1) := by decide +kernel
theorem dX9_nextBolts_50 : decode cX9_nextBolts 50 = .ok (.getfield 44, 3) := by decide +kernel
theorem dX9_nextBolts_53 : decode cX9_nextBolts 53 = .ok (.iload_n 1, 1) := by decide +kernel
theorem dX9_nextBolts_54 : decode cX9_nextBolts 54 = .ok (.iaload, 1) := by decide +kernel
theorem dX9_nextBolts_55 : decode cX9_nextBolts 55 = .ok (.iload_n 2, 1) := by decide +kernel
theorem dX9_nextBolts_56 : decode cX9_nextBolts 56 = .ok (.if_icmp .gt 15, 3) := by decide +kernel
theorem dX9_nextBolts_59 : decode cX9_nextBolts 59 = .ok (.aload_n 0, 1) := by decide +kernel
theorem dX9_nextBolts_60 : decode cX9_nextBolts 60 = .ok (.getfield 44, 3) := by decide +kernel
theorem dX9_nextBolts_63 : decode cX9_nextBolts 63 = .ok (.iload_n 1, 1) := by decide +kernel
theorem dX9_nextBolts_64 : decode cX9_nextBolts 64 = .ok (.dup2, 1) := by decide +kernel
theorem dX9_nextBolts_65 : decode cX9_nextBolts 65 = .ok (.iaload, 1) := by decide +kernel
theorem dX9_nextBolts_66 : decode cX9_nextBolts 66 = .ok (.iconst 1, 1) := by decide +kernel
theorem dX9_nextBolts_67 : decode cX9_nextBolts 67 = .ok (.iadd, 1) := by decide +kernel
theorem dX9_nextBolts_68 : decode cX9_nextBolts 68 = .ok (.iastore, 1) := by decide +kernel
theorem dX9_nextBolts_69 : decode cX9_nextBolts 69 = .ok (.iconst 1, 1) := by decide +kernel
theorem dX9_nextBolts_70 : decode cX9_nextBolts 70 = .ok (.ireturn, 1) := by decide +kernel
theorem dX9_nextBolts_71 : decode cX9_nextBolts 71 = .ok (.aload_n 0, 1) := by decide +kernel
theorem dX9_nextBolts_72 : decode cX9_nextBolts 72 = .ok (.getfield 44, 3) := by decide +kernel
theorem dX9_nextBolts_75 : decode cX9_nextBolts 75 = .ok (.iload_n 1, 1) := by decide +kernel
theorem dX9_nextBolts_76 : decode cX9_nextBolts 76 = .ok (.iconst 0, 1) := by decide +kernel
theorem dX9_nextBolts_77 : decode cX9_nextBolts 77 = .ok (.iastore, 1) := by decide +kernel
theorem dX9_nextBolts_78 : decode cX9_nextBolts 78 = .ok (.iinc 1 (-1), 3) := by decide +kernel
theorem dX9_nextBolts_81 : decode cX9_nextBolts 81 = .ok (.goto (-72), 3) := by decide +kernel
theorem dX9_nextBolts_84 : decode cX9_nextBolts 84 = .ok (.iconst 0, 1) := by decide +kernel
theorem dX9_nextBolts_85 : decode cX9_nextBolts 85 = .ok (.ireturn, 1) := by decide +kernel
theorem dX9_many_0 : decode cX9_many 0 = .ok (.iconst 0, 1) := by decide +kernel
theorem dX9_many_1 : decode cX9_many 1 = .ok (.istore_n 1, 1) := by decide +kernel
theorem dX9_many_2 : decode cX9_many 2 = .ok (.iconst 0, 1) := by decide +kernel
theorem dX9_many_3 : decode cX9_many 3 = .ok (.istore_n 2, 1) := by decide +kernel
theorem dX9_many_4 : decode cX9_many 4 = .ok (.iload_n 2, 1) := by decide +kernel
theorem dX9_many_5 : decode cX9_many 5 = .ok (.bipush 7, 2) := by decide +kernel
theorem dX9_many_7 : decode cX9_many 7 = .ok (.if_icmp .ge 16, 3) := by decide +kernel
theorem dX9_many_10 : decode cX9_many 10 = .ok (.aload_n 0, 1) := by decide +kernel
theorem dX9_many_11 : decode cX9_many 11 = .ok (.getfield 53, 3) := by decide +kernel
theorem dX9_many_14 : decode cX9_many 14 = .ok (.iload_n 2, 1) := by decide +kernel
theorem dX9_many_15 : decode cX9_many 15 = .ok (.iconst 0, 1) := by decide +kernel
theorem dX9_many_16 : decode cX9_many 16 = .ok (.iastore, 1) := by decide +kernel
theorem dX9_many_17 : decode cX9_many 17 = .ok (.iinc 2 1, 3) := by decide +kernel
theorem dX9_many_20 : decode cX9_many 20 = .ok (.goto (-16), 3) := by decide +kernel
theorem dX9_many_23 : decode cX9_many 23 = .ok (.iconst 0, 1) := by decide +kernel
theorem dX9_many_24 : decode cX9_many 24 = .ok (.istore_n 2, 1) := by decide +kernel
theorem dX9_many_25 : decode cX9_many 25 = .ok (.iload_n 2, 1) := by decide +kernel
theorem dX9_many_26 : decode cX9_many 26 = .ok (.aload_n 0, 1) := by decide +kernel
theorem dX9_many_27 : decode cX9_many 27 = .ok (.getfield 23, 3) := by decide +kernel
theorem dX9_many_30 : decode cX9_many 30 = .ok (.iconst 0, 1) := by decide +kernel
theorem dX9_many_31 : decode cX9_many 31 = .ok (.iaload, 1) := by decide +kernel
theorem dX9_many_32 : decode cX9_many 32 = .ok (.if_icmp .ge 81, 3) := by decide +kernel
theorem dX9_many_35 : decode cX9_many 35 = .ok (.aload_n 0, 1) := by decide +kernel
theorem dX9_many_36 : decode cX9_many 36 = .ok (.getfield 53, 3) := by decide +kernel
theorem dX9_many_39 : decode cX9_many 39 = .ok (.aload_n 0, 1) := by decide +kernel
theorem dX9_many_40 : decode cX9_many 40 = .ok (.getfield 44, 3) := by decide +kernel
theorem dX9_many_43 : decode cX9_many 43 = .ok (.iload_n 2, 1) := by decide +kernel
theorem dX9_many_44 : decode cX9_many 44 = .ok (.iaload, 1) := by decide +kernel
theorem dX9_many_45 : decode cX9_many 45 = .ok (.dup2, 1) := by decide +kernel
theorem dX9_many_46 : decode cX9_many 46 = .ok (.iaload, 1) := by decide +kernel
theorem dX9_many_47 : decode cX9_many 47 = .ok (.aload_n 0, 1) := by decide +kernel
theorem dX9_many_48 : decode cX9_many 48 = .ok (.getfield 50, 3) := by decide +kernel
theorem dX9_many_51 : decode cX9_many 51 = .ok (.iload_n 2, 1) := by decide +kernel
theorem dX9_many_52 : decode cX9_many 52 = .ok (.iaload, 1) := by decide +kernel
theorem dX9_many_53 : decode cX9_many 53 = .ok (.iadd, 1) := by decide +kernel
theorem dX9_many_54 : decode cX9_many 54 = .ok (.iastore, 1) := by decide +kernel
theorem dX9_many_55 : decode cX9_many 55 = .ok (.aload_n 0, 1) := by decide +kernel
theorem dX9_many_56 : decode cX9_many 56 = .ok (.getfield 44, 3) := by decide +kernel
theorem dX9_many_59 : decode cX9_many 59 = .ok (.iload_n 2, 1) := by decide +kernel
theorem dX9_many_60 : decode cX9_many 60 = .ok (.iaload, 1) := by decide +kernel
theorem dX9_many_61 : decode cX9_many 61 = .ok (.iconst 1, 1) := by decide +kernel
theorem dX9_many_62 : decode cX9_many 62 = .ok (.iadd, 1) := by decide +kernel
theorem dX9_many_63 : decode cX9_many 63 = .ok (.iload_n 1, 1) := by decide +kernel
theorem dX9_many_64 : decode cX9_many 64 = .ok (.if_icmp .le 14, 3) := by decide +kernel
theorem dX9_many_67 : decode cX9_many 67 = .ok (.aload_n 0, 1) := by decide +kernel
theorem dX9_many_68 : decode cX9_many 68 = .ok (.getfield 44, 3) := by decide +kernel
theorem dX9_many_71 : decode cX9_many 71 = .ok (.iload_n 2, 1) := by decide +kernel
theorem dX9_many_72 : decode cX9_many 72 = .ok (.iaload, 1) := by decide +kernel
theorem dX9_many_73 : decode cX9_many 73 = .ok (.iconst 1, 1) := by decide +kernel
theorem dX9_many_74 : decode cX9_many 74 = .ok (.iadd, 1) := by decide +kernel
theorem dX9_many_75 : decode cX9_many 75 = .ok (.goto 4, 3) := by decide +kernel
theorem dX9_many_78 : decode cX9_many 78 = .ok (.iload_n 1, 1) := by decide +kernel
theorem dX9_many_79 : decode cX9_many 79 = .ok (.istore_n 1, 1) := by decide +kernel
theorem dX9_many_80 : decode cX9_many 80 = .ok (.aload_n 0, 1) := by decide +kernel
theorem dX9_many_81 : decode cX9_many 81 = .ok (.getfield 53, 3) := by decide +kernel
theorem dX9_many_84 : decode cX9_many 84 = .ok (.aload_n 0, 1) := by decide +kernel
theorem dX9_many_85 : decode cX9_many 85 = .ok (.getfield 44, 3) := by decide +kernel
theorem dX9_many_88 : decode cX9_many 88 = .ok (.iload_n 2, 1) := by decide +kernel
theorem dX9_many_89 : decode cX9_many 89 = .ok (.iaload, 1) := by decide +kernel
theorem dX9_many_90 : decode cX9_many 90 = .ok (.iaload, 1) := by decide +kernel
theorem dX9_many_91 : decode cX9_many 91 = .ok (.aload_n 0, 1) := by decide +kernel
theorem dX9_many_92 : decode cX9_many 92 = .ok (.getfield 13, 3) := by decide +kernel
theorem dX9_many_95 : decode cX9_many 95 = .ok (.iconst 2, 1) := by decide +kernel
theorem dX9_many_96 : decode cX9_many 96 = .ok (.iaload, 1) := by decide +kernel
theorem dX9_many_97 : decode cX9_many 97 = .ok (.if_icmp .le 8, 3) := by decide +kernel
theorem dX9_many_100 : decode cX9_many 100 = .ok (.bipush 99, 2) := by decide +kernel
theorem dX9_many_102 : decode cX9_many 102 = .ok (.goto 4, 3) := by decide +kernel
theorem dX9_many_105 : decode cX9_many 105 = .ok (.iload_n 1, 1) := by decide +kernel
theorem dX9_many_106 : decode cX9_many 106 = .ok (.istore_n 1, 1) := by decide +kernel
theorem dX9_many_107 : decode cX9_many 107 = .ok (.iinc 2 1, 3) := by decide +kernel
theorem dX9_many_110 : decode cX9_many 110 = .ok (.goto (-85), 3) := by decide +kernel
theorem dX9_many_113 : decode cX9_many 113 = .ok (.iload_n 1, 1) := by decide +kernel
theorem dX9_many_114 : decode cX9_many 114 = .ok (.ireturn, 1) := by decide +kernel
theorem dX9_bolts_0 : decode cX9_bolts 0 = .ok (.iload_n 1, 1) := by decide +kernel
theorem dX9_bolts_1 : decode cX9_bolts 1 = .ok (.i2l, 1) := by decide +kernel
theorem dX9_bolts_2 : decode cX9_bolts 2 = .ok (.ldc2_w 156, 3) := by decide +kernel
theorem dX9_bolts_5 : decode cX9_bolts 5 = .ok (.aload_n 0, 1) := by decide +kernel
theorem dX9_bolts_6 : decode cX9_bolts 6 = .ok (.getfield 23, 3) := by decide +kernel
theorem dX9_bolts_9 : decode cX9_bolts 9 = .ok (.iconst 0, 1) := by decide +kernel
theorem dX9_bolts_10 : decode cX9_bolts 10 = .ok (.iaload, 1) := by decide +kernel
theorem dX9_bolts_11 : decode cX9_bolts 11 = .ok (.iconst 1, 1) := by decide +kernel
theorem dX9_bolts_12 : decode cX9_bolts 12 = .ok (.isub, 1) := by decide +kernel
theorem dX9_bolts_13 : decode cX9_bolts 13 = .ok (.i2l, 1) := by decide +kernel
theorem dX9_bolts_14 : decode cX9_bolts 14 = .ok (.invokestatic 70, 3) := by decide +kernel
theorem dX9_bolts_17 : decode cX9_bolts 17 = .ok (.ifCond .ne 5, 3) := by decide +kernel
theorem dX9_bolts_20 : decode cX9_bolts 20 = .ok (.iconst (-1), 1) := by decide +kernel
theorem dX9_bolts_21 : decode cX9_bolts 21 = .ok (.ireturn, 1) := by decide +kernel
theorem dX9_bolts_22 : decode cX9_bolts 22 = .ok (.aload_n 0, 1) := by decide +kernel
theorem dX9_bolts_23 : decode cX9_bolts 23 = .ok (.invokevirtual 158, 3) := by decide +kernel
theorem dX9_bolts_26 : decode cX9_bolts 26 = .ok (.iconst 0, 1) := by decide +kernel
theorem dX9_bolts_27 : decode cX9_bolts 27 = .ok (.istore_n 2, 1) := by decide +kernel
theorem dX9_bolts_28 : decode cX9_bolts 28 = .ok (.iload_n 2, 1) := by decide +kernel
theorem dX9_bolts_29 : decode cX9_bolts 29 = .ok (.bipush 7, 2) := by decide +kernel
theorem dX9_bolts_31 : decode cX9_bolts 31 = .ok (.if_icmp .ge 16, 3) := by decide +kernel
theorem dX9_bolts_34 : decode cX9_bolts 34 = .ok (.aload_n 0, 1) := by decide +kernel
theorem dX9_bolts_35 : decode cX9_bolts 35 = .ok (.getfield 44, 3) := by decide +kernel
theorem dX9_bolts_38 : decode cX9_bolts 38 = .ok (.iload_n 2, 1) := by decide +kernel
theorem dX9_bolts_39 : decode cX9_bolts 39 = .ok (.iconst 0, 1) := by decide +kernel
theorem dX9_bolts_40 : decode cX9_bolts 40 = .ok (.iastore, 1) := by decide +kernel
theorem dX9_bolts_41 : decode cX9_bolts 41 = .ok (.iinc 2 1, 3) := by decide +kernel
theorem dX9_bolts_44 : decode cX9_bolts 44 = .ok (.goto (-16), 3) := by decide +kernel
theorem dX9_bolts_47 : decode cX9_bolts 47 = .ok (.bipush 99, 2) := by decide +kernel
theorem dX9_bolts_49 : decode cX9_bolts 49 = .ok (.istore_n 2, 1) := by decide +kernel
theorem dX9_bolts_50 : decode cX9_bolts 50 = .ok (.iconst 1, 1) := by decide +kernel
theorem dX9_bolts_51 : decode cX9_bolts 51 = .ok (.istore_n 3, 1) := by decide +kernel
theorem dX9_bolts_52 : decode cX9_bolts 52 = .ok (.iload_n 3, 1) := by decide +kernel
theorem dX9_bolts_53 : decode cX9_bolts 53 = .ok (.ifCond .eq 56, 3) := by decide +kernel
theorem dX9_bolts_56 : decode cX9_bolts 56 = .ok (.aload_n 0, 1) := by decide +kernel
theorem dX9_bolts_57 : decode cX9_bolts 57 = .ok (.invokevirtual 188, 3) := by decide +kernel
theorem dX9_bolts_60 : decode cX9_bolts 60 = .ok (.istore 4, 2) := by decide +kernel
theorem dX9_bolts_62 : decode cX9_bolts 62 = .ok (.iload 4, 2) := by decide +kernel
theorem dX9_bolts_64 : decode cX9_bolts 64 = .ok (.iload_n 2, 1) := by decide +kernel
theorem dX9_bolts_65 : decode cX9_bolts 65 = .ok (.if_icmp .ge 36, 3) := by decide +kernel
theorem dX9_bolts_68 : decode cX9_bolts 68 = .ok (.iload 4, 2) := by decide +kernel
theorem dX9_bolts_70 : decode cX9_bolts 70 = .ok (.istore_n 2, 1) := by decide +kernel
theorem dX9_bolts_71 : decode cX9_bolts 71 = .ok (.iconst 0, 1) := by decide +kernel
theorem dX9_bolts_72 : decode cX9_bolts 72 = .ok (.istore 5, 2) := by decide +kernel
theorem dX9_bolts_74 : decode cX9_bolts 74 = .ok (.iload 5, 2) := by decide +kernel
theorem dX9_bolts_76 : decode cX9_bolts 76 = .ok (.bipush 7, 2) := by decide +kernel
theorem dX9_bolts_78 : decode cX9_bolts 78 = .ok (.if_icmp .ge 23, 3) := by decide +kernel
theorem dX9_bolts_81 : decode cX9_bolts 81 = .ok (.aload_n 0, 1) := by decide +kernel
theorem dX9_bolts_82 : decode cX9_bolts 82 = .ok (.getfield 47, 3) := by decide +kernel
theorem dX9_bolts_85 : decode cX9_bolts 85 = .ok (.iload 5, 2) := by decide +kernel
theorem dX9_bolts_87 : decode cX9_bolts 87 = .ok (.aload_n 0, 1) := by decide +kernel
theorem dX9_bolts_88 : decode cX9_bolts 88 = .ok (.getfield 44, 3) := by decide +kernel
theorem dX9_bolts_91 : decode cX9_bolts 91 = .ok (.iload 5, 2) := by decide +kernel
theorem dX9_bolts_93 : decode cX9_bolts 93 = .ok (.iaload, 1) := by decide +kernel
theorem dX9_bolts_94 : decode cX9_bolts 94 = .ok (.iastore, 1) := by decide +kernel
theorem dX9_bolts_95 : decode cX9_bolts 95 = .ok (.iinc 5 1, 3) := by decide +kernel
theorem dX9_bolts_98 : decode cX9_bolts 98 = .ok (.goto (-24), 3) := by decide +kernel
theorem dX9_bolts_101 : decode cX9_bolts 101 = .ok (.aload_n 0, 1) := by decide +kernel
theorem dX9_bolts_102 : decode cX9_bolts 102 = .ok (.invokevirtual 191, 3) := by decide +kernel
theorem dX9_bolts_105 : decode cX9_bolts 105 = .ok (.istore_n 3, 1) := by decide +kernel
theorem dX9_bolts_106 : decode cX9_bolts 106 = .ok (.goto (-54), 3) := by decide +kernel
theorem dX9_bolts_109 : decode cX9_bolts 109 = .ok (.iload_n 2, 1) := by decide +kernel
theorem dX9_bolts_110 : decode cX9_bolts 110 = .ok (.bipush 99, 2) := by decide +kernel
theorem dX9_bolts_112 : decode cX9_bolts 112 = .ok (.if_icmp .ne 8, 3) := by decide +kernel
theorem dX9_bolts_115 : decode cX9_bolts 115 = .ok (.bipush (-4), 2) := by decide +kernel
theorem dX9_bolts_117 : decode cX9_bolts 117 = .ok (.goto 17, 3) := by decide +kernel
theorem dX9_bolts_120 : decode cX9_bolts 120 = .ok (.iload_n 1, 1) := by decide +kernel
theorem dX9_bolts_121 : decode cX9_bolts 121 = .ok (.ifCond .ge 7, 3) := by decide +kernel
theorem dX9_bolts_124 : decode cX9_bolts 124 = .ok (.iload_n 2, 1) := by decide +kernel
theorem dX9_bolts_125 : decode cX9_bolts 125 = .ok (.goto 9, 3) := by decide +kernel
theorem dX9_bolts_128 : decode cX9_bolts 128 = .ok (.aload_n 0, 1) := by decide +kernel
theorem dX9_bolts_129 : decode cX9_bolts 129 = .ok (.getfield 47, 3) := by decide +kernel
theorem dX9_bolts_132 : decode cX9_bolts 132 = .ok (.iload_n 1, 1) := by decide +kernel
theorem dX9_bolts_133 : decode cX9_bolts 133 = .ok (.iaload, 1) := by decide +kernel
theorem dX9_bolts_134 : decode cX9_bolts 134 = .ok (.ireturn, 1) := by decide +kernel
theorem dX9_coat_0 : decode cX9_coat 0 = .ok (.iload_n 1, 1) := by decide +kernel
theorem dX9_coat_1 : decode cX9_coat 1 = .ok (.i2l, 1) := by decide +kernel
theorem dX9_coat_2 : decode cX9_coat 2 = .ok (.lconst 0, 1) := by decide +kernel
theorem dX9_coat_3 : decode cX9_coat 3 = .ok (.lconst 1, 1) := by decide +kernel
theorem dX9_coat_4 : decode cX9_coat 4 = .ok (.invokestatic 70, 3) := by decide +kernel
theorem dX9_coat_7 : decode cX9_coat 7 = .ok (.ifCond .ne 5, 3) := by decide +kernel
theorem dX9_coat_10 : decode cX9_coat 10 = .ok (.iconst (-1), 1) := by decide +kernel
theorem dX9_coat_11 : decode cX9_coat 11 = .ok (.ireturn, 1) := by decide +kernel
theorem dX9_coat_12 : decode cX9_coat 12 = .ok (.aload_n 0, 1) := by decide +kernel
theorem dX9_coat_13 : decode cX9_coat 13 = .ok (.invokevirtual 158, 3) := by decide +kernel
theorem dX9_coat_16 : decode cX9_coat 16 = .ok (.iconst 0, 1) := by decide +kernel
theorem dX9_coat_17 : decode cX9_coat 17 = .ok (.istore_n 2, 1) := by decide +kernel
theorem dX9_coat_18 : decode cX9_coat 18 = .ok (.iconst (-1), 1) := by decide +kernel
theorem dX9_coat_19 : decode cX9_coat 19 = .ok (.istore_n 3, 1) := by decide +kernel
theorem dX9_coat_20 : decode cX9_coat 20 = .ok (.iconst 0, 1) := by decide +kernel
theorem dX9_coat_21 : decode cX9_coat 21 = .ok (.istore 4, 2) := by decide +kernel
theorem dX9_coat_23 : decode cX9_coat 23 = .ok (.iload 4, 2) := by decide +kernel
theorem dX9_coat_25 : decode cX9_coat 25 = .ok (.iconst 1, 1) := by decide +kernel
theorem dX9_coat_26 : decode cX9_coat 26 = .ok (.aload_n 0, 1) := by decide +kernel
theorem dX9_coat_27 : decode cX9_coat 27 = .ok (.getfield 23, 3) := by decide +kernel
theorem dX9_coat_30 : decode cX9_coat 30 = .ok (.iconst 0, 1) := by decide +kernel
theorem dX9_coat_31 : decode cX9_coat 31 = .ok (.iaload, 1) := by decide +kernel
theorem dX9_coat_32 : decode cX9_coat 32 = .ok (.ishl, 1) := by decide +kernel
theorem dX9_coat_33 : decode cX9_coat 33 = .ok (.if_icmp .ge 97, 3) := by decide +kernel
theorem dX9_coat_36 : decode cX9_coat 36 = .ok (.iconst 0, 1) := by decide +kernel
theorem dX9_coat_37 : decode cX9_coat 37 = .ok (.istore 5, 2) := by decide +kernel
theorem dX9_coat_39 : decode cX9_coat 39 = .ok (.iconst 0, 1) := by decide +kernel
theorem dX9_coat_40 : decode cX9_coat 40 = .ok (.istore 6, 2) := by decide +kernel
theorem dX9_coat_42 : decode cX9_coat 42 = .ok (.iload 6, 2) := by decide +kernel
theorem dX9_coat_44 : decode cX9_coat 44 = .ok (.aload_n 0, 1) := by decide +kernel
theorem dX9_coat_45 : decode cX9_coat 45 = .ok (.getfield 23, 3) := by decide +kernel
theorem dX9_coat_48 : decode cX9_coat 48 = .ok (.iconst 0, 1) := by decide +kernel
theorem dX9_coat_49 : decode cX9_coat 49 = .ok (.iaload, 1) := by decide +kernel
theorem dX9_coat_50 : decode cX9_coat 50 = .ok (.if_icmp .ge 43, 3) := by decide +kernel
theorem dX9_coat_53 : decode cX9_coat 53 = .ok (.iload 5, 2) := by decide +kernel
theorem dX9_coat_55 : decode cX9_coat 55 = .ok (.iload 4, 2) := by decide +kernel
theorem dX9_coat_57 : decode cX9_coat 57 = .ok (.iload 6, 2) := by decide +kernel
theorem dX9_coat_59 : decode cX9_coat 59 = .ok (.ishr, 1) := by decide +kernel
theorem dX9_coat_60 : decode cX9_coat 60 = .ok (.iconst 1, 1) := by decide +kernel
theorem dX9_coat_61 : decode cX9_coat 61 = .ok (.iand, 1) := by decide +kernel
theorem dX9_coat_62 : decode cX9_coat 62 = .ok (.iconst 1, 1) := by decide +kernel
theorem dX9_coat_63 : decode cX9_coat 63 = .ok (.if_icmp .ne 13, 3) := by decide +kernel
theorem dX9_coat_66 : decode cX9_coat 66 = .ok (.aload_n 0, 1) := by decide +kernel
theorem dX9_coat_67 : decode cX9_coat 67 = .ok (.getfield 50, 3) := by decide +kernel
theorem dX9_coat_70 : decode cX9_coat 70 = .ok (.iload 6, 2) := by decide +kernel
theorem dX9_coat_72 : decode cX9_coat 72 = .ok (.iaload, 1) := by decide +kernel
theorem dX9_coat_73 : decode cX9_coat 73 = .ok (.goto 11, 3) := by decide +kernel
theorem dX9_coat_76 : decode cX9_coat 76 = .ok (.aload_n 0, 1) := by decide +kernel
theorem dX9_coat_77 : decode cX9_coat 77 = .ok (.getfield 50, 3) := by decide +kernel
theorem dX9_coat_80 : decode cX9_coat 80 = .ok (.iload 6, 2) := by decide +kernel
theorem dX9_coat_82 : decode cX9_coat 82 = .ok (.iaload, 1) := by decide +kernel
theorem dX9_coat_83 : decode cX9_coat 83 = .ok (.ineg, 1) := by decide +kernel
theorem dX9_coat_84 : decode cX9_coat 84 = .ok (.iadd, 1) := by decide +kernel
theorem dX9_coat_85 : decode cX9_coat 85 = .ok (.istore 5, 2) := by decide +kernel
theorem dX9_coat_87 : decode cX9_coat 87 = .ok (.iinc 6 1, 3) := by decide +kernel
theorem dX9_coat_90 : decode cX9_coat 90 = .ok (.goto (-48), 3) := by decide +kernel
theorem dX9_coat_93 : decode cX9_coat 93 = .ok (.iload 5, 2) := by decide +kernel
theorem dX9_coat_95 : decode cX9_coat 95 = .ok (.ifCond .ge 9, 3) := by decide +kernel
theorem dX9_coat_98 : decode cX9_coat 98 = .ok (.iload 5, 2) := by decide +kernel
theorem dX9_coat_100 : decode cX9_coat 100 = .ok (.ineg, 1) := by decide +kernel
theorem dX9_coat_101 : decode cX9_coat 101 = .ok (.goto 5, 3) := by decide +kernel
theorem dX9_coat_104 : decode cX9_coat 104 = .ok (.iload 5, 2) := by decide +kernel
theorem dX9_coat_106 : decode cX9_coat 106 = .ok (.istore 5, 2) := by decide +kernel
theorem dX9_coat_108 : decode cX9_coat 108 = .ok (.iload_n 3, 1) := by decide +kernel
theorem dX9_coat_109 : decode cX9_coat 109 = .ok (.ifCond .lt 9, 3) := by decide +kernel
theorem dX9_coat_112 : decode cX9_coat 112 = .ok (.iload 5, 2) := by decide +kernel
theorem dX9_coat_114 : decode cX9_coat 114 = .ok (.iload_n 3, 1) := by decide +kernel
theorem dX9_coat_115 : decode cX9_coat 115 = .ok (.if_icmp .ge 9, 3) := by decide +kernel
theorem dX9_coat_118 : decode cX9_coat 118 = .ok (.iload 5, 2) := by decide +kernel
theorem dX9_coat_120 : decode cX9_coat 120 = .ok (.istore_n 3, 1) := by decide +kernel
theorem dX9_coat_121 : decode cX9_coat 121 = .ok (.iload 4, 2) := by decide +kernel
theorem dX9_coat_123 : decode cX9_coat 123 = .ok (.istore_n 2, 1) := by decide +kernel
theorem dX9_coat_124 : decode cX9_coat 124 = .ok (.iinc 4 1, 3) := by decide +kernel
theorem dX9_coat_127 : decode cX9_coat 127 = .ok (.goto (-104), 3) := by decide +kernel
theorem dX9_coat_130 : decode cX9_coat 130 = .ok (.iload_n 1, 1) := by decide +kernel
theorem dX9_coat_131 : decode cX9_coat 131 = .ok (.ifCond .ne 7, 3) := by decide +kernel
theorem dX9_coat_134 : decode cX9_coat 134 = .ok (.iload_n 2, 1) := by decide +kernel
theorem dX9_coat_135 : decode cX9_coat 135 = .ok (.goto 4, 3) := by decide +kernel
theorem dX9_coat_138 : decode cX9_coat 138 = .ok (.iload_n 3, 1) := by decide +kernel
theorem dX9_coat_139 : decode cX9_coat 139 = .ok (.ireturn, 1) := by decide +kernel
theorem dX9_tailorOf_0 : decode cX9_tailorOf 0 = .ok (.aload_n 0, 1) := by decide +kernel
theorem dX9_tailorOf_1 : decode cX9_tailorOf 1 = .ok (.getfield 26, 3) := by decide +kernel
theorem dX9_tailorOf_4 : decode cX9_tailorOf 4 = .ok (.iconst 3, 1) := by decide +kernel
theorem dX9_tailorOf_5 : decode cX9_tailorOf 5 = .ok (.aload_n 0, 1) := by decide +kernel
theorem dX9_tailorOf_6 : decode cX9_tailorOf 6 = .ok (.getfield 32, 3) := by decide +kernel
theorem dX9_tailorOf_9 : decode cX9_tailorOf 9 = .ok (.iconst 2, 1) := by decide +kernel
theorem dX9_tailorOf_10 : decode cX9_tailorOf 10 = .ok (.iload_n 1, 1) := by decide +kernel
theorem dX9_tailorOf_11 : decode cX9_tailorOf 11 = .ok (.imul, 1) := by decide +kernel
theorem dX9_tailorOf_12 : decode cX9_tailorOf 12 = .ok (.iload_n 2, 1) := by decide +kernel
theorem dX9_tailorOf_13 : decode cX9_tailorOf 13 = .ok (.iadd, 1) := by decide +kernel
theorem dX9_tailorOf_14 : decode cX9_tailorOf 14 = .ok (.iaload, 1) := by decide +kernel
theorem dX9_tailorOf_15 : decode cX9_tailorOf 15 = .ok (.imul, 1) := by decide +kernel
theorem dX9_tailorOf_16 : decode cX9_tailorOf 16 = .ok (.iconst 0, 1) := by decide +kernel
theorem dX9_tailorOf_17 : decode cX9_tailorOf 17 = .ok (.iadd, 1) := by decide +kernel
theorem dX9_tailorOf_18 : decode cX9_tailorOf 18 = .ok (.iaload, 1) := by decide +kernel
theorem dX9_tailorOf_19 : decode cX9_tailorOf 19 = .ok (.ireturn, 1) := by decide +kernel
theorem dX9_pin_0 : decode cX9_pin 0 = .ok (.iload_n 1, 1) := by decide +kernel
theorem dX9_pin_1 : decode cX9_pin 1 = .ok (.i2l, 1) := by decide +kernel
theorem dX9_pin_2 : decode cX9_pin 2 = .ok (.lconst 0, 1) := by decide +kernel
theorem dX9_pin_3 : decode cX9_pin 3 = .ok (.aload_n 0, 1) := by decide +kernel
theorem dX9_pin_4 : decode cX9_pin 4 = .ok (.getfield 29, 3) := by decide +kernel
theorem dX9_pin_7 : decode cX9_pin 7 = .ok (.iconst 0, 1) := by decide +kernel
theorem dX9_pin_8 : decode cX9_pin 8 = .ok (.iaload, 1) := by decide +kernel
theorem dX9_pin_9 : decode cX9_pin 9 = .ok (.iconst 1, 1) := by decide +kernel
theorem dX9_pin_10 : decode cX9_pin 10 = .ok (.isub, 1) := by decide +kernel
theorem dX9_pin_11 : decode cX9_pin 11 = .ok (.i2l, 1) := by decide +kernel
theorem dX9_pin_12 : decode cX9_pin 12 = .ok (.invokestatic 70, 3) := by decide +kernel
theorem dX9_pin_15 : decode cX9_pin 15 = .ok (.ifCond .ne 5, 3) := by decide +kernel
theorem dX9_pin_18 : decode cX9_pin 18 = .ok (.iconst (-1), 1) := by decide +kernel
theorem dX9_pin_19 : decode cX9_pin 19 = .ok (.ireturn, 1) := by decide +kernel
theorem dX9_pin_20 : decode cX9_pin 20 = .ok (.aload_n 0, 1) := by decide +kernel
theorem dX9_pin_21 : decode cX9_pin 21 = .ok (.iload_n 1, 1) := by decide +kernel
theorem dX9_pin_22 : decode cX9_pin 22 = .ok (.iconst 0, 1) := by decide +kernel
theorem dX9_pin_23 : decode cX9_pin 23 = .ok (.invokevirtual 194, 3) := by decide +kernel
theorem dX9_pin_26 : decode cX9_pin 26 = .ok (.aload_n 0, 1) := by decide +kernel
theorem dX9_pin_27 : decode cX9_pin 27 = .ok (.iload_n 1, 1) := by decide +kernel
theorem dX9_pin_28 : decode cX9_pin 28 = .ok (.iconst 1, 1) := by decide +kernel
theorem dX9_pin_29 : decode cX9_pin 29 = .ok (.invokevirtual 194, 3) := by decide +kernel
theorem dX9_pin_32 : decode cX9_pin 32 = .ok (.if_icmp .ne 6, 3) := by decide +kernel
theorem dX9_pin_35 : decode cX9_pin 35 = .ok (.bipush (-2), 2) := by decide +kernel
theorem dX9_pin_37 : decode cX9_pin 37 = .ok (.ireturn, 1) := by decide +kernel
theorem dX9_pin_38 : decode cX9_pin 38 = .ok (.aload_n 0, 1) := by decide +kernel
theorem dX9_pin_39 : decode cX9_pin 39 = .ok (.getfield 110, 3) := by decide +kernel
theorem dX9_pin_42 : decode cX9_pin 42 = .ok (.bipush 12, 2) := by decide +kernel
theorem dX9_pin_44 : decode cX9_pin 44 = .ok (.if_icmp .ne 6, 3) := by decide +kernel
theorem dX9_pin_47 : decode cX9_pin 47 = .ok (.bipush (-3), 2) := by decide +kernel
theorem dX9_pin_49 : decode cX9_pin 49 = .ok (.ireturn, 1) := by decide +kernel
theorem dX9_pin_50 : decode cX9_pin 50 = .ok (.aload_n 0, 1) := by decide +kernel
theorem dX9_pin_51 : decode cX9_pin 51 = .ok (.getfield 41, 3) := by decide +kernel
theorem dX9_pin_54 : decode cX9_pin 54 = .ok (.aload_n 0, 1) := by decide +kernel
theorem dX9_pin_55 : decode cX9_pin 55 = .ok (.getfield 110, 3) := by decide +kernel
theorem dX9_pin_58 : decode cX9_pin 58 = .ok (.iload_n 1, 1) := by decide +kernel
theorem dX9_pin_59 : decode cX9_pin 59 = .ok (.iastore, 1) := by decide +kernel
theorem dX9_pin_60 : decode cX9_pin 60 = .ok (.aload_n 0, 1) := by decide +kernel
theorem dX9_pin_61 : decode cX9_pin 61 = .ok (.dup, 1) := by decide +kernel
theorem dX9_pin_62 : decode cX9_pin 62 = .ok (.getfield 110, 3) := by decide +kernel
theorem dX9_pin_65 : decode cX9_pin 65 = .ok (.iconst 1, 1) := by decide +kernel
theorem dX9_pin_66 : decode cX9_pin 66 = .ok (.iadd, 1) := by decide +kernel
theorem dX9_pin_67 : decode cX9_pin 67 = .ok (.putfield 110, 3) := by decide +kernel
theorem dX9_pin_70 : decode cX9_pin 70 = .ok (.aload_n 0, 1) := by decide +kernel
theorem dX9_pin_71 : decode cX9_pin 71 = .ok (.getfield 110, 3) := by decide +kernel
theorem dX9_pin_74 : decode cX9_pin 74 = .ok (.ireturn, 1) := by decide +kernel
theorem dX9_noPins_0 : decode cX9_noPins 0 = .ok (.aload_n 0, 1) := by decide +kernel
theorem dX9_noPins_1 : decode cX9_noPins 1 = .ok (.getfield 110, 3) := by decide +kernel
theorem dX9_noPins_4 : decode cX9_noPins 4 = .ok (.istore_n 1, 1) := by decide +kernel
theorem dX9_noPins_5 : decode cX9_noPins 5 = .ok (.aload_n 0, 1) := by decide +kernel
theorem dX9_noPins_6 : decode cX9_noPins 6 = .ok (.iconst 0, 1) := by decide +kernel
theorem dX9_noPins_7 : decode cX9_noPins 7 = .ok (.putfield 110, 3) := by decide +kernel
theorem dX9_noPins_10 : decode cX9_noPins 10 = .ok (.iload_n 1, 1) := by decide +kernel
theorem dX9_noPins_11 : decode cX9_noPins 11 = .ok (.ireturn, 1) := by decide +kernel
theorem dX9_thumb_0 : decode cX9_thumb 0 = .ok (.iload_n 1, 1) := by decide +kernel
theorem dX9_thumb_1 : decode cX9_thumb 1 = .ok (.ifCond .ge 5, 3) := by decide +kernel
theorem dX9_thumb_4 : decode cX9_thumb 4 = .ok (.iconst (-1), 1) := by decide +kernel
theorem dX9_thumb_5 : decode cX9_thumb 5 = .ok (.ireturn, 1) := by decide +kernel
theorem dX9_thumb_6 : decode cX9_thumb 6 = .ok (.iload_n 1, 1) := by decide +kernel
theorem dX9_thumb_7 : decode cX9_thumb 7 = .ok (.aload_n 0, 1) := by decide +kernel
theorem dX9_thumb_8 : decode cX9_thumb 8 = .ok (.getfield 110, 3) := by decide +kernel
theorem dX9_thumb_11 : decode cX9_thumb 11 = .ok (.if_icmp .lt 6, 3) := by decide +kernel
theorem dX9_thumb_14 : decode cX9_thumb 14 = .ok (.bipush (-4), 2) := by decide +kernel
theorem dX9_thumb_16 : decode cX9_thumb 16 = .ok (.ireturn, 1) := by decide +kernel
theorem dX9_thumb_17 : decode cX9_thumb 17 = .ok (.iconst 0, 1) := by decide +kernel
theorem dX9_thumb_18 : decode cX9_thumb 18 = .ok (.istore_n 2, 1) := by decide +kernel
theorem dX9_thumb_19 : decode cX9_thumb 19 = .ok (.iconst 0, 1) := by decide +kernel
theorem dX9_thumb_20 : decode cX9_thumb 20 = .ok (.istore_n 3, 1) := by decide +kernel
theorem dX9_thumb_21 : decode cX9_thumb 21 = .ok (.iload_n 3, 1) := by decide +kernel
theorem dX9_thumb_22 : decode cX9_thumb 22 = .ok (.iload_n 1, 1) := by decide +kernel
theorem dX9_thumb_23 : decode cX9_thumb 23 = .ok (.if_icmp .ge 32, 3) := by decide +kernel
theorem dX9_thumb_26 : decode cX9_thumb 26 = .ok (.iload_n 2, 1) := by decide +kernel
theorem dX9_thumb_27 : decode cX9_thumb 27 = .ok (.aload_n 0, 1) := by decide +kernel
theorem dX9_thumb_28 : decode cX9_thumb 28 = .ok (.getfield 41, 3) := by decide +kernel
theorem dX9_thumb_31 : decode cX9_thumb 31 = .ok (.iload_n 3, 1) := by decide +kernel
theorem dX9_thumb_32 : decode cX9_thumb 32 = .ok (.iaload, 1) := by decide +kernel
theorem dX9_thumb_33 : decode cX9_thumb 33 = .ok (.aload_n 0, 1) := by decide +kernel
theorem dX9_thumb_34 : decode cX9_thumb 34 = .ok (.getfield 41, 3) := by decide +kernel
theorem dX9_thumb_37 : decode cX9_thumb 37 = .ok (.iload_n 1, 1) := by decide +kernel
theorem dX9_thumb_38 : decode cX9_thumb 38 = .ok (.iaload, 1) := by decide +kernel
theorem dX9_thumb_39 : decode cX9_thumb 39 = .ok (.if_icmp .ne 7, 3) := by decide +kernel
theorem dX9_thumb_42 : decode cX9_thumb 42 = .ok (.iconst 1, 1) := by decide +kernel
theorem dX9_thumb_43 : decode cX9_thumb 43 = .ok (.goto 4, 3) := by decide +kernel
theorem dX9_thumb_46 : decode cX9_thumb 46 = .ok (.iconst 0, 1) := by decide +kernel
theorem dX9_thumb_47 : decode cX9_thumb 47 = .ok (.iadd, 1) := by decide +kernel
theorem dX9_thumb_48 : decode cX9_thumb 48 = .ok (.istore_n 2, 1) := by decide +kernel
theorem dX9_thumb_49 : decode cX9_thumb 49 = .ok (.iinc 3 1, 3) := by decide +kernel
theorem dX9_thumb_52 : decode cX9_thumb 52 = .ok (.goto (-31), 3) := by decide +kernel
theorem dX9_thumb_55 : decode cX9_thumb 55 = .ok (.aload_n 0, 1) := by decide +kernel
theorem dX9_thumb_56 : decode cX9_thumb 56 = .ok (.aload_n 0, 1) := by decide +kernel
theorem dX9_thumb_57 : decode cX9_thumb 57 = .ok (.getfield 41, 3) := by decide +kernel
theorem dX9_thumb_60 : decode cX9_thumb 60 = .ok (.iload_n 1, 1) := by decide +kernel
theorem dX9_thumb_61 : decode cX9_thumb 61 = .ok (.iaload, 1) := by decide +kernel
theorem dX9_thumb_62 : decode cX9_thumb 62 = .ok (.iload_n 2, 1) := by decide +kernel
theorem dX9_thumb_63 : decode cX9_thumb 63 = .ok (.iconst 2, 1) := by decide +kernel
theorem dX9_thumb_64 : decode cX9_thumb 64 = .ok (.irem, 1) := by decide +kernel
theorem dX9_thumb_65 : decode cX9_thumb 65 = .ok (.invokevirtual 194, 3) := by decide +kernel
theorem dX9_thumb_68 : decode cX9_thumb 68 = .ok (.ireturn, 1) := by decide +kernel
theorem dX9_year_0 : decode cX9_year 0 = .ok (.iload_n 1, 1) := by decide +kernel
theorem dX9_year_1 : decode cX9_year 1 = .ok (.i2l, 1) := by decide +kernel
theorem dX9_year_2 : decode cX9_year 2 = .ok (.lconst 0, 1) := by decide +kernel
theorem dX9_year_3 : decode cX9_year 3 = .ok (.ldc2_w 197, 3) := by decide +kernel
theorem dX9_year_6 : decode cX9_year 6 = .ok (.invokestatic 70, 3) := by decide +kernel
theorem dX9_year_9 : decode cX9_year 9 = .ok (.ifCond .eq 25, 3) := by decide +kernel
theorem dX9_year_12 : decode cX9_year 12 = .ok (.iload_n 2, 1) := by decide +kernel
theorem dX9_year_13 : decode cX9_year 13 = .ok (.i2l, 1) := by decide +kernel
theorem dX9_year_14 : decode cX9_year 14 = .ok (.lconst 1, 1) := by decide +kernel
theorem dX9_year_15 : decode cX9_year 15 = .ok (.ldc2_w 199, 3) := by decide +kernel
theorem dX9_year_18 : decode cX9_year 18 = .ok (.invokestatic 70, 3) := by decide +kernel
theorem dX9_year_21 : decode cX9_year 21 = .ok (.ifCond .eq 13, 3) := by decide +kernel
theorem dX9_year_24 : decode cX9_year 24 = .ok (.iload_n 3, 1) := by decide +kernel
theorem dX9_year_25 : decode cX9_year 25 = .ok (.i2l, 1) := by decide +kernel
theorem dX9_year_26 : decode cX9_year 26 = .ok (.lconst 0, 1) := by decide +kernel
theorem dX9_year_27 : decode cX9_year 27 = .ok (.lconst 1, 1) := by decide +kernel
theorem dX9_year_28 : decode cX9_year 28 = .ok (.invokestatic 70, 3) := by decide +kernel
theorem dX9_year_31 : decode cX9_year 31 = .ok (.ifCond .ne 5, 3) := by decide +kernel
theorem dX9_year_34 : decode cX9_year 34 = .ok (.iconst (-1), 1) := by decide +kernel
theorem dX9_year_35 : decode cX9_year 35 = .ok (.ireturn, 1) := by decide +kernel
theorem dX9_year_36 : decode cX9_year 36 = .ok (.iconst 0, 1) := by decide +kernel
theorem dX9_year_37 : decode cX9_year 37 = .ok (.istore 4, 2) := by decide +kernel
theorem dX9_year_39 : decode cX9_year 39 = .ok (.iconst 0, 1) := by decide +kernel
theorem dX9_year_40 : decode cX9_year 40 = .ok (.istore 5, 2) := by decide +kernel
theorem dX9_year_42 : decode cX9_year 42 = .ok (.iconst 0, 1) := by decide +kernel
theorem dX9_year_43 : decode cX9_year 43 = .ok (.istore 6, 2) := by decide +kernel
theorem dX9_year_45 : decode cX9_year 45 = .ok (.iload 6, 2) := by decide +kernel
theorem dX9_year_47 : decode cX9_year 47 = .ok (.iload_n 2, 1) := by decide +kernel
theorem dX9_year_48 : decode cX9_year 48 = .ok (.if_icmp .ge 87, 3) := by decide +kernel
theorem dX9_year_51 : decode cX9_year 51 = .ok (.iconst 0, 1) := by decide +kernel
theorem dX9_year_52 : decode cX9_year 52 = .ok (.istore 7, 2) := by decide +kernel
theorem dX9_year_54 : decode cX9_year 54 = .ok (.iload 7, 2) := by decide +kernel
theorem dX9_year_56 : decode cX9_year 56 = .ok (.aload_n 0, 1) := by decide +kernel
theorem dX9_year_57 : decode cX9_year 57 = .ok (.getfield 23, 3) := by decide +kernel
theorem dX9_year_60 : decode cX9_year 60 = .ok (.iconst 0, 1) := by decide +kernel
theorem dX9_year_61 : decode cX9_year 61 = .ok (.iaload, 1) := by decide +kernel
theorem dX9_year_62 : decode cX9_year 62 = .ok (.if_icmp .ge 41, 3) := by decide +kernel
theorem dX9_year_65 : decode cX9_year 65 = .ok (.aload_n 0, 1) := by decide +kernel
theorem dX9_year_66 : decode cX9_year 66 = .ok (.getfield 50, 3) := by decide +kernel
theorem dX9_year_69 : decode cX9_year 69 = .ok (.iload 7, 2) := by decide +kernel
theorem dX9_year_71 : decode cX9_year 71 = .ok (.aload_n 0, 1) := by decide +kernel
theorem dX9_year_72 : decode cX9_year 72 = .ok (.iload 7, 2) := by decide +kernel
theorem dX9_year_74 : decode cX9_year 74 = .ok (.iload_n 1, 1) := by decide +kernel
theorem dX9_year_75 : decode cX9_year 75 = .ok (.iload 6, 2) := by decide +kernel
theorem dX9_year_77 : decode cX9_year 77 = .ok (.iadd, 1) := by decide +kernel
theorem dX9_year_78 : decode cX9_year 78 = .ok (.sipush 1000, 3) := by decide +kernel
theorem dX9_year_81 : decode cX9_year 81 = .ok (.irem, 1) := by decide +kernel
theorem dX9_year_82 : decode cX9_year 82 = .ok (.iload 7, 2) := by decide +kernel
theorem dX9_year_84 : decode cX9_year 84 = .ok (.aload_n 0, 1) := by decide +kernel
theorem dX9_year_85 : decode cX9_year 85 = .ok (.iload 7, 2) := by decide +kernel
theorem dX9_year_87 : decode cX9_year 87 = .ok (.invokevirtual 134, 3) := by decide +kernel
theorem dX9_year_90 : decode cX9_year 90 = .ok (.invokestatic 137, 3) := by decide +kernel
theorem dX9_year_93 : decode cX9_year 93 = .ok (.invokevirtual 144, 3) := by decide +kernel
theorem dX9_year_96 : decode cX9_year 96 = .ok (.iastore, 1) := by decide +kernel
theorem dX9_year_97 : decode cX9_year 97 = .ok (.iinc 7 1, 3) := by decide +kernel
theorem dX9_year_100 : decode cX9_year 100 = .ok (.goto (-46), 3) := by decide +kernel
theorem dX9_year_103 : decode cX9_year 103 = .ok (.iload 4, 2) := by decide +kernel
theorem dX9_year_105 : decode cX9_year 105 = .ok (.aload_n 0, 1) := by decide +kernel
theorem dX9_year_106 : decode cX9_year 106 = .ok (.invokevirtual 164, 3) := by decide +kernel
theorem dX9_year_109 : decode cX9_year 109 = .ok (.ifCond .eq 7, 3) := by decide +kernel
theorem dX9_year_112 : decode cX9_year 112 = .ok (.iconst 1, 1) := by decide +kernel
theorem dX9_year_113 : decode cX9_year 113 = .ok (.goto 4, 3) := by decide +kernel
theorem dX9_year_116 : decode cX9_year 116 = .ok (.iconst 0, 1) := by decide +kernel
theorem dX9_year_117 : decode cX9_year 117 = .ok (.iadd, 1) := by decide +kernel
theorem dX9_year_118 : decode cX9_year 118 = .ok (.istore 4, 2) := by decide +kernel
theorem dX9_year_120 : decode cX9_year 120 = .ok (.iload 5, 2) := by decide +kernel
theorem dX9_year_122 : decode cX9_year 122 = .ok (.aload_n 0, 1) := by decide +kernel
theorem dX9_year_123 : decode cX9_year 123 = .ok (.invokevirtual 161, 3) := by decide +kernel
theorem dX9_year_126 : decode cX9_year 126 = .ok (.iadd, 1) := by decide +kernel
theorem dX9_year_127 : decode cX9_year 127 = .ok (.istore 5, 2) := by decide +kernel
theorem dX9_year_129 : decode cX9_year 129 = .ok (.iinc 6 1, 3) := by decide +kernel
theorem dX9_year_132 : decode cX9_year 132 = .ok (.goto (-87), 3) := by decide +kernel
theorem dX9_year_135 : decode cX9_year 135 = .ok (.iload_n 3, 1) := by decide +kernel
theorem dX9_year_136 : decode cX9_year 136 = .ok (.ifCond .ne 8, 3) := by decide +kernel
theorem dX9_year_139 : decode cX9_year 139 = .ok (.iload 4, 2) := by decide +kernel
theorem dX9_year_141 : decode cX9_year 141 = .ok (.goto 5, 3) := by decide +kernel
theorem dX9_year_144 : decode cX9_year 144 = .ok (.iload 5, 2) := by decide +kernel
theorem dX9_year_146 : decode cX9_year 146 = .ok (.ireturn, 1) := by decide +kernel
theorem dX9_keep_0 : decode cX9_keep 0 = .ok (.aload_n 0, 1) := by decide +kernel
theorem dX9_keep_1 : decode cX9_keep 1 = .ok (.getfield 116, 3) := by decide +kernel
theorem dX9_keep_4 : decode cX9_keep 4 = .ok (.iconst 2, 1) := by decide +kernel
theorem dX9_keep_5 : decode cX9_keep 5 = .ok (.if_icmp .ne 6, 3) := by decide +kernel
theorem dX9_keep_8 : decode cX9_keep 8 = .ok (.bipush (-3), 2) := by decide +kernel
theorem dX9_keep_10 : decode cX9_keep 10 = .ok (.ireturn, 1) := by decide +kernel
theorem dX9_keep_11 : decode cX9_keep 11 = .ok (.aload_n 0, 1) := by decide +kernel
theorem dX9_keep_12 : decode cX9_keep 12 = .ok (.dup, 1) := by decide +kernel
theorem dX9_keep_13 : decode cX9_keep 13 = .ok (.getfield 116, 3) := by decide +kernel
theorem dX9_keep_16 : decode cX9_keep 16 = .ok (.iconst 1, 1) := by decide +kernel
theorem dX9_keep_17 : decode cX9_keep 17 = .ok (.iadd, 1) := by decide +kernel
theorem dX9_keep_18 : decode cX9_keep 18 = .ok (.putfield 116, 3) := by decide +kernel
theorem dX9_keep_21 : decode cX9_keep 21 = .ok (.aload_n 0, 1) := by decide +kernel
theorem dX9_keep_22 : decode cX9_keep 22 = .ok (.iconst 0, 1) := by decide +kernel
theorem dX9_keep_23 : decode cX9_keep 23 = .ok (.aload_n 0, 1) := by decide +kernel
theorem dX9_keep_24 : decode cX9_keep 24 = .ok (.getfield 116, 3) := by decide +kernel
theorem dX9_keep_27 : decode cX9_keep 27 = .ok (.invokevirtual 167, 3) := by decide +kernel
theorem dX9_keep_30 : decode cX9_keep 30 = .ok (.aload_n 0, 1) := by decide +kernel
theorem dX9_keep_31 : decode cX9_keep 31 = .ok (.getfield 116, 3) := by decide +kernel
theorem dX9_keep_34 : decode cX9_keep 34 = .ok (.ireturn, 1) := by decide +kernel
theorem dX9_back_0 : decode cX9_back 0 = .ok (.aload_n 0, 1) := by decide +kernel
theorem dX9_back_1 : decode cX9_back 1 = .ok (.getfield 116, 3) := by decide +kernel
theorem dX9_back_4 : decode cX9_back 4 = .ok (.ifCond .ne 6, 3) := by decide +kernel
theorem dX9_back_7 : decode cX9_back 7 = .ok (.bipush (-2), 2) := by decide +kernel
theorem dX9_back_9 : decode cX9_back 9 = .ok (.ireturn, 1) := by decide +kernel
theorem dX9_back_10 : decode cX9_back 10 = .ok (.aload_n 0, 1) := by decide +kernel
theorem dX9_back_11 : decode cX9_back 11 = .ok (.aload_n 0, 1) := by decide +kernel
theorem dX9_back_12 : decode cX9_back 12 = .ok (.getfield 116, 3) := by decide +kernel
theorem dX9_back_15 : decode cX9_back 15 = .ok (.iconst 0, 1) := by decide +kernel
theorem dX9_back_16 : decode cX9_back 16 = .ok (.invokevirtual 167, 3) := by decide +kernel
theorem dX9_back_19 : decode cX9_back 19 = .ok (.aload_n 0, 1) := by decide +kernel
theorem dX9_back_20 : decode cX9_back 20 = .ok (.dup, 1) := by decide +kernel
theorem dX9_back_21 : decode cX9_back 21 = .ok (.getfield 116, 3) := by decide +kernel
theorem dX9_back_24 : decode cX9_back 24 = .ok (.iconst 1, 1) := by decide +kernel
theorem dX9_back_25 : decode cX9_back 25 = .ok (.isub, 1) := by decide +kernel
theorem dX9_back_26 : decode cX9_back 26 = .ok (.putfield 116, 3) := by decide +kernel
theorem dX9_back_29 : decode cX9_back 29 = .ok (.aload_n 0, 1) := by decide +kernel
theorem dX9_back_30 : decode cX9_back 30 = .ok (.iconst 0, 1) := by decide +kernel
theorem dX9_back_31 : decode cX9_back 31 = .ok (.putfield 113, 3) := by decide +kernel
theorem dX9_back_34 : decode cX9_back 34 = .ok (.aload_n 0, 1) := by decide +kernel
theorem dX9_back_35 : decode cX9_back 35 = .ok (.getfield 116, 3) := by decide +kernel
theorem dX9_back_38 : decode cX9_back 38 = .ok (.ireturn, 1) := by decide +kernel
theorem dX9_count_0 : decode cX9_count 0 = .ok (.iload_n 1, 1) := by decide +kernel
theorem dX9_count_1 : decode cX9_count 1 = .ok (.tableswitch 93 0 7 #[47, 54, 61, 68, 73, 78, 83, 88], 47) := by decide +kernel
theorem dX9_count_48 : decode cX9_count 48 = .ok (.aload_n 0, 1) := by decide +kernel
theorem dX9_count_49 : decode cX9_count 49 = .ok (.getfield 17, 3) := by decide +kernel
theorem dX9_count_52 : decode cX9_count 52 = .ok (.iconst 0, 1) := by decide +kernel
theorem dX9_count_53 : decode cX9_count 53 = .ok (.iaload, 1) := by decide +kernel
theorem dX9_count_54 : decode cX9_count 54 = .ok (.ireturn, 1) := by decide +kernel
theorem dX9_count_55 : decode cX9_count 55 = .ok (.aload_n 0, 1) := by decide +kernel
theorem dX9_count_56 : decode cX9_count 56 = .ok (.getfield 23, 3) := by decide +kernel
theorem dX9_count_59 : decode cX9_count 59 = .ok (.iconst 0, 1) := by decide +kernel
theorem dX9_count_60 : decode cX9_count 60 = .ok (.iaload, 1) := by decide +kernel
theorem dX9_count_61 : decode cX9_count 61 = .ok (.ireturn, 1) := by decide +kernel
theorem dX9_count_62 : decode cX9_count 62 = .ok (.aload_n 0, 1) := by decide +kernel
theorem dX9_count_63 : decode cX9_count 63 = .ok (.getfield 29, 3) := by decide +kernel
theorem dX9_count_66 : decode cX9_count 66 = .ok (.iconst 0, 1) := by decide +kernel
theorem dX9_count_67 : decode cX9_count 67 = .ok (.iaload, 1) := by decide +kernel
theorem dX9_count_68 : decode cX9_count 68 = .ok (.ireturn, 1) := by decide +kernel
theorem dX9_count_69 : decode cX9_count 69 = .ok (.aload_n 0, 1) := by decide +kernel
theorem dX9_count_70 : decode cX9_count 70 = .ok (.getfield 107, 3) := by decide +kernel
theorem dX9_count_73 : decode cX9_count 73 = .ok (.ireturn, 1) := by decide +kernel
theorem dX9_count_74 : decode cX9_count 74 = .ok (.aload_n 0, 1) := by decide +kernel
theorem dX9_count_75 : decode cX9_count 75 = .ok (.getfield 110, 3) := by decide +kernel
theorem dX9_count_78 : decode cX9_count 78 = .ok (.ireturn, 1) := by decide +kernel
theorem dX9_count_79 : decode cX9_count 79 = .ok (.aload_n 0, 1) := by decide +kernel
theorem dX9_count_80 : decode cX9_count 80 = .ok (.getfield 113, 3) := by decide +kernel
theorem dX9_count_83 : decode cX9_count 83 = .ok (.ireturn, 1) := by decide +kernel
theorem dX9_count_84 : decode cX9_count 84 = .ok (.aload_n 0, 1) := by decide +kernel
theorem dX9_count_85 : decode cX9_count 85 = .ok (.getfield 116, 3) := by decide +kernel
theorem dX9_count_88 : decode cX9_count 88 = .ok (.ireturn, 1) := by decide +kernel
theorem dX9_count_89 : decode cX9_count 89 = .ok (.aload_n 0, 1) := by decide +kernel
theorem dX9_count_90 : decode cX9_count 90 = .ok (.getfield 74, 3) := by decide +kernel
theorem dX9_count_93 : decode cX9_count 93 = .ok (.ireturn, 1) := by decide +kernel
theorem dX9_count_94 : decode cX9_count 94 = .ok (.iconst (-1), 1) := by decide +kernel
theorem dX9_count_95 : decode cX9_count 95 = .ok (.ireturn, 1) := by decide +kernel
