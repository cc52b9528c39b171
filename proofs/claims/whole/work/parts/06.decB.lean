/-! each instruction, decoded -/
theorem dX8_init_0 : decode cX8_init 0 = .ok (.aload_n 0, 1) := by decide +kernel
theorem dX8_init_1 : decode cX8_init 1 = .ok (.invokespecial 1, 3) := by decide +kernel
theorem dX8_init_4 : decode cX8_init 4 = .ok (.aload_n 0, 1) := by decide +kernel
theorem dX8_init_5 : decode cX8_init 5 = .ok (.new 7, 3) := by decide +kernel
theorem dX8_init_8 : decode cX8_init 8 = .ok (.dup, 1) := by decide +kernel
theorem dX8_init_9 : decode cX8_init 9 = .ok (.invokespecial 9, 3) := by decide +kernel
theorem dX8_init_12 : decode cX8_init 12 = .ok (.putfield 10, 3) := by decide +kernel
theorem dX8_init_15 : decode cX8_init 15 = .ok (.aload_n 0, 1) := by decide +kernel
theorem dX8_init_16 : decode cX8_init 16 = .ok (.new 16, 3) := by decide +kernel
theorem dX8_init_19 : decode cX8_init 19 = .ok (.dup, 1) := by decide +kernel
theorem dX8_init_20 : decode cX8_init 20 = .ok (.invokespecial 18, 3) := by decide +kernel
theorem dX8_init_23 : decode cX8_init 23 = .ok (.putfield 19, 3) := by decide +kernel
theorem dX8_init_26 : decode cX8_init 26 = .ok (.aload_n 0, 1) := by decide +kernel
theorem dX8_init_27 : decode cX8_init 27 = .ok (.new 23, 3) := by decide +kernel
theorem dX8_init_30 : decode cX8_init 30 = .ok (.dup, 1) := by decide +kernel
theorem dX8_init_31 : decode cX8_init 31 = .ok (.bipush 8, 2) := by decide +kernel
theorem dX8_init_33 : decode cX8_init 33 = .ok (.invokespecial 25, 3) := by decide +kernel
theorem dX8_init_36 : decode cX8_init 36 = .ok (.putfield 28, 3) := by decide +kernel
theorem dX8_init_39 : decode cX8_init 39 = .ok (.aload_n 0, 1) := by decide +kernel
theorem dX8_init_40 : decode cX8_init 40 = .ok (.new 23, 3) := by decide +kernel
theorem dX8_init_43 : decode cX8_init 43 = .ok (.dup, 1) := by decide +kernel
theorem dX8_init_44 : decode cX8_init 44 = .ok (.iconst 2, 1) := by decide +kernel
theorem dX8_init_45 : decode cX8_init 45 = .ok (.invokespecial 25, 3) := by decide +kernel
theorem dX8_init_48 : decode cX8_init 48 = .ok (.putfield 32, 3) := by decide +kernel
theorem dX8_init_51 : decode cX8_init 51 = .ok (.aload_n 0, 1) := by decide +kernel
theorem dX8_init_52 : decode cX8_init 52 = .ok (.new 35, 3) := by decide +kernel
theorem dX8_init_55 : decode cX8_init 55 = .ok (.dup, 1) := by decide +kernel
theorem dX8_init_56 : decode cX8_init 56 = .ok (.invokespecial 37, 3) := by decide +kernel
theorem dX8_init_59 : decode cX8_init 59 = .ok (.putfield 38, 3) := by decide +kernel
theorem dX8_init_62 : decode cX8_init 62 = .ok (.aload_n 0, 1) := by decide +kernel
theorem dX8_init_63 : decode cX8_init 63 = .ok (.new 42, 3) := by decide +kernel
theorem dX8_init_66 : decode cX8_init 66 = .ok (.dup, 1) := by decide +kernel
theorem dX8_init_67 : decode cX8_init 67 = .ok (.invokespecial 44, 3) := by decide +kernel
theorem dX8_init_70 : decode cX8_init 70 = .ok (.putfield 45, 3) := by decide +kernel
theorem dX8_init_73 : decode cX8_init 73 = .ok (.aload_n 0, 1) := by decide +kernel
theorem dX8_init_74 : decode cX8_init 74 = .ok (.new 49, 3) := by decide +kernel
theorem dX8_init_77 : decode cX8_init 77 = .ok (.dup, 1) := by decide +kernel
theorem dX8_init_78 : decode cX8_init 78 = .ok (.invokespecial 51, 3) := by decide +kernel
theorem dX8_init_81 : decode cX8_init 81 = .ok (.putfield 52, 3) := by decide +kernel
theorem dX8_init_84 : decode cX8_init 84 = .ok (.aload_n 0, 1) := by decide +kernel
theorem dX8_init_85 : decode cX8_init 85 = .ok (.new 56, 3) := by decide +kernel
theorem dX8_init_88 : decode cX8_init 88 = .ok (.dup, 1) := by decide +kernel
theorem dX8_init_89 : decode cX8_init 89 = .ok (.invokespecial 58, 3) := by decide +kernel
theorem dX8_init_92 : decode cX8_init 92 = .ok (.putfield 59, 3) := by decide +kernel
theorem dX8_init_95 : decode cX8_init 95 = .ok (.aload_n 0, 1) := by decide +kernel
theorem dX8_init_96 : decode cX8_init 96 = .ok (.bipush 7, 2) := by decide +kernel
theorem dX8_init_98 : decode cX8_init 98 = .ok (.newarray .int, 2) := by decide +kernel
theorem dX8_init_100 : decode cX8_init 100 = .ok (.putfield 63, 3) := by decide +kernel
theorem dX8_init_103 : decode cX8_init 103 = .ok (.aload_n 0, 1) := by decide +kernel
theorem dX8_init_104 : decode cX8_init 104 = .ok (.bipush 7, 2) := by decide +kernel
theorem dX8_init_106 : decode cX8_init 106 = .ok (.newarray .int, 2) := by decide +kernel
theorem dX8_init_108 : decode cX8_init 108 = .ok (.putfield 67, 3) := by decide +kernel
theorem dX8_init_111 : decode cX8_init 111 = .ok (.aload_n 0, 1) := by decide +kernel
theorem dX8_init_112 : decode cX8_init 112 = .ok (.bipush 7, 2) := by decide +kernel
theorem dX8_init_114 : decode cX8_init 114 = .ok (.newarray .int, 2) := by decide +kernel
theorem dX8_init_116 : decode cX8_init 116 = .ok (.putfield 70, 3) := by decide +kernel
theorem dX8_init_119 : decode cX8_init 119 = .ok (.aload_n 0, 1) := by decide +kernel
theorem dX8_init_120 : decode cX8_init 120 = .ok (.bipush 7, 2) := by decide +kernel
theorem dX8_init_122 : decode cX8_init 122 = .ok (.newarray .int, 2) := by decide +kernel
theorem dX8_init_124 : decode cX8_init 124 = .ok (.putfield 73, 3) := by decide +kernel
theorem dX8_init_127 : decode cX8_init 127 = .ok (.aload_n 0, 1) := by decide +kernel
theorem dX8_init_128 : decode cX8_init 128 = .ok (.new 76, 3) := by decide +kernel
theorem dX8_init_131 : decode cX8_init 131 = .ok (.dup, 1) := by decide +kernel
theorem dX8_init_132 : decode cX8_init 132 = .ok (.invokespecial 78, 3) := by decide +kernel
theorem dX8_init_135 : decode cX8_init 135 = .ok (.putfield 79, 3) := by decide +kernel
theorem dX8_init_138 : decode cX8_init 138 = .ok (.aload_n 0, 1) := by decide +kernel
theorem dX8_init_139 : decode cX8_init 139 = .ok (.new 76, 3) := by decide +kernel
theorem dX8_init_142 : decode cX8_init 142 = .ok (.dup, 1) := by decide +kernel
theorem dX8_init_143 : decode cX8_init 143 = .ok (.invokespecial 78, 3) := by decide +kernel
theorem dX8_init_146 : decode cX8_init 146 = .ok (.putfield 83, 3) := by decide +kernel
theorem dX8_init_149 : decode cX8_init 149 = .ok (.iconst 0, 1) := by decide +kernel
theorem dX8_init_150 : decode cX8_init 150 = .ok (.istore_n 1, 1) := by decide +kernel
theorem dX8_init_151 : decode cX8_init 151 = .ok (.iload_n 1, 1) := by decide +kernel
theorem dX8_init_152 : decode cX8_init 152 = .ok (.ldc 86, 2) := by decide +kernel
theorem dX8_init_154 : decode cX8_init 154 = .ok (.invokevirtual 88, 3) := by decide +kernel
theorem dX8_init_157 : decode cX8_init 157 = .ok (.if_icmp .ge 22, 3) := by decide +kernel
theorem dX8_init_160 : decode cX8_init 160 = .ok (.aload_n 0, 1) := by decide +kernel
theorem dX8_init_161 : decode cX8_init 161 = .ok (.getfield 10, 3) := by decide +kernel
theorem dX8_init_164 : decode cX8_init 164 = .ok (.ldc 86, 2) := by decide +kernel
theorem dX8_init_166 : decode cX8_init 166 = .ok (.iload_n 1, 1) := by decide +kernel
theorem dX8_init_167 : decode cX8_init 167 = .ok (.invokevirtual 94, 3) := by decide +kernel
theorem dX8_init_170 : decode cX8_init 170 = .ok (.invokevirtual 98, 3) := by decide +kernel
theorem dX8_init_173 : decode cX8_init 173 = .ok (.iinc 1 1, 3) := by decide +kernel
theorem dX8_init_176 : decode cX8_init 176 = .ok (.goto (-25), 3) := by decide +kernel
theorem dX8_init_179 : decode cX8_init 179 = .ok (.aload_n 0, 1) := by decide +kernel
theorem dX8_init_180 : decode cX8_init 180 = .ok (.getfield 10, 3) := by decide +kernel
theorem dX8_init_183 : decode cX8_init 183 = .ok (.aload_n 0, 1) := by decide +kernel
theorem dX8_init_184 : decode cX8_init 184 = .ok (.getfield 79, 3) := by decide +kernel
theorem dX8_init_187 : decode cX8_init 187 = .ok (.invokevirtual 101, 3) := by decide +kernel
theorem dX8_init_190 : decode cX8_init 190 = .ok (.pop, 1) := by decide +kernel
theorem dX8_init_191 : decode cX8_init 191 = .ok (.aload_n 0, 1) := by decide +kernel
theorem dX8_init_192 : decode cX8_init 192 = .ok (.getfield 10, 3) := by decide +kernel
theorem dX8_init_195 : decode cX8_init 195 = .ok (.iconst 0, 1) := by decide +kernel
theorem dX8_init_196 : decode cX8_init 196 = .ok (.putfield 105, 3) := by decide +kernel
theorem dX8_init_199 : decode cX8_init 199 = .ok (.return_, 1) := by decide +kernel
theorem dX8_write_0 : decode cX8_write 0 = .ok (.iload_n 1, 1) := by decide +kernel
theorem dX8_write_1 : decode cX8_write 1 = .ok (.iconst 1, 1) := by decide +kernel
theorem dX8_write_2 : decode cX8_write 2 = .ok (.if_icmp .lt 9, 3) := by decide +kernel
theorem dX8_write_5 : decode cX8_write 5 = .ok (.iload_n 1, 1) := by decide +kernel
theorem dX8_write_6 : decode cX8_write 6 = .ok (.bipush 8, 2) := by decide +kernel
theorem dX8_write_8 : decode cX8_write 8 = .ok (.if_icmp .le 5, 3) := by decide +kernel
theorem dX8_write_11 : decode cX8_write 11 = .ok (.iconst (-1), 1) := by decide +kernel
theorem dX8_write_12 : decode cX8_write 12 = .ok (.ireturn, 1) := by decide +kernel
theorem dX8_write_13 : decode cX8_write 13 = .ok (.aload_n 0, 1) := by decide +kernel
theorem dX8_write_14 : decode cX8_write 14 = .ok (.getfield 10, 3) := by decide +kernel
theorem dX8_write_17 : decode cX8_write 17 = .ok (.getfield 105, 3) := by decide +kernel
theorem dX8_write_20 : decode cX8_write 20 = .ok (.iload_n 1, 1) := by decide +kernel
theorem dX8_write_21 : decode cX8_write 21 = .ok (.iadd, 1) := by decide +kernel
theorem dX8_write_22 : decode cX8_write 22 = .ok (.sipush 300, 3) := by decide +kernel
theorem dX8_write_25 : decode cX8_write 25 = .ok (.if_icmp .le 6, 3) := by decide +kernel
theorem dX8_write_28 : decode cX8_write 28 = .ok (.bipush (-3), 2) := by decide +kernel
theorem dX8_write_30 : decode cX8_write 30 = .ok (.ireturn, 1) := by decide +kernel
theorem dX8_write_31 : decode cX8_write 31 = .ok (.iload_n 1, 1) := by decide +kernel
theorem dX8_write_32 : decode cX8_write 32 = .ok (.iconst 1, 1) := by decide +kernel
theorem dX8_write_33 : decode cX8_write 33 = .ok (.isub, 1) := by decide +kernel
theorem dX8_write_34 : decode cX8_write 34 = .ok (.istore 4, 2) := by decide +kernel
theorem dX8_write_36 : decode cX8_write 36 = .ok (.iload 4, 2) := by decide +kernel
theorem dX8_write_38 : decode cX8_write 38 = .ok (.ifCond .lt 24, 3) := by decide +kernel
theorem dX8_write_41 : decode cX8_write 41 = .ok (.aload_n 0, 1) := by decide +kernel
theorem dX8_write_42 : decode cX8_write 42 = .ok (.getfield 10, 3) := by decide +kernel
theorem dX8_write_45 : decode cX8_write 45 = .ok (.lload_n 2, 1) := by decide +kernel
theorem dX8_write_46 : decode cX8_write 46 = .ok (.bipush 8, 2) := by decide +kernel
theorem dX8_write_48 : decode cX8_write 48 = .ok (.iload 4, 2) := by decide +kernel
theorem dX8_write_50 : decode cX8_write 50 = .ok (.imul, 1) := by decide +kernel
theorem dX8_write_51 : decode cX8_write 51 = .ok (.lushr, 1) := by decide +kernel
theorem dX8_write_52 : decode cX8_write 52 = .ok (.l2i, 1) := by decide +kernel
theorem dX8_write_53 : decode cX8_write 53 = .ok (.invokevirtual 98, 3) := by decide +kernel
theorem dX8_write_56 : decode cX8_write 56 = .ok (.iinc 4 (-1), 3) := by decide +kernel
theorem dX8_write_59 : decode cX8_write 59 = .ok (.goto (-23), 3) := by decide +kernel
theorem dX8_write_62 : decode cX8_write 62 = .ok (.aload_n 0, 1) := by decide +kernel
theorem dX8_write_63 : decode cX8_write 63 = .ok (.getfield 10, 3) := by decide +kernel
theorem dX8_write_66 : decode cX8_write 66 = .ok (.getfield 105, 3) := by decide +kernel
theorem dX8_write_69 : decode cX8_write 69 = .ok (.ireturn, 1) := by decide +kernel
theorem dX8_wipe_0 : decode cX8_wipe 0 = .ok (.aload_n 0, 1) := by decide +kernel
theorem dX8_wipe_1 : decode cX8_wipe 1 = .ok (.getfield 10, 3) := by decide +kernel
theorem dX8_wipe_4 : decode cX8_wipe 4 = .ok (.getfield 105, 3) := by decide +kernel
theorem dX8_wipe_7 : decode cX8_wipe 7 = .ok (.istore_n 1, 1) := by decide +kernel
theorem dX8_wipe_8 : decode cX8_wipe 8 = .ok (.aload_n 0, 1) := by decide +kernel
theorem dX8_wipe_9 : decode cX8_wipe 9 = .ok (.getfield 10, 3) := by decide +kernel
theorem dX8_wipe_12 : decode cX8_wipe 12 = .ok (.iconst 0, 1) := by decide +kernel
theorem dX8_wipe_13 : decode cX8_wipe 13 = .ok (.putfield 105, 3) := by decide +kernel
theorem dX8_wipe_16 : decode cX8_wipe 16 = .ok (.iload_n 1, 1) := by decide +kernel
theorem dX8_wipe_17 : decode cX8_wipe 17 = .ok (.ireturn, 1) := by decide +kernel
theorem dX8_fault_0 : decode cX8_fault 0 = .ok (.aload_n 0, 1) := by decide +kernel
theorem dX8_fault_1 : decode cX8_fault 1 = .ok (.getfield 10, 3) := by decide +kernel
theorem dX8_fault_4 : decode cX8_fault 4 = .ok (.aload_n 0, 1) := by decide +kernel
theorem dX8_fault_5 : decode cX8_fault 5 = .ok (.getfield 83, 3) := by decide +kernel
theorem dX8_fault_8 : decode cX8_fault 8 = .ok (.invokevirtual 101, 3) := by decide +kernel
theorem dX8_fault_11 : decode cX8_fault 11 = .ok (.ireturn, 1) := by decide +kernel
theorem dX8_lay_0 : decode cX8_lay 0 = .ok (.aload_n 0, 1) := by decide +kernel
theorem dX8_lay_1 : decode cX8_lay 1 = .ok (.getfield 10, 3) := by decide +kernel
theorem dX8_lay_4 : decode cX8_lay 4 = .ok (.aload_n 0, 1) := by decide +kernel
theorem dX8_lay_5 : decode cX8_lay 5 = .ok (.getfield 83, 3) := by decide +kernel
theorem dX8_lay_8 : decode cX8_lay 8 = .ok (.invokevirtual 101, 3) := by decide +kernel
theorem dX8_lay_11 : decode cX8_lay 11 = .ok (.bipush (-4), 2) := by decide +kernel
theorem dX8_lay_13 : decode cX8_lay 13 = .ok (.if_icmp .ne 13, 3) := by decide +kernel
theorem dX8_lay_16 : decode cX8_lay 16 = .ok (.aload_n 0, 1) := by decide +kernel
theorem dX8_lay_17 : decode cX8_lay 17 = .ok (.getfield 83, 3) := by decide +kernel
theorem dX8_lay_20 : decode cX8_lay 20 = .ok (.getfield 108, 3) := by decide +kernel
theorem dX8_lay_23 : decode cX8_lay 23 = .ok (.ifCond .ne 6, 3) := by decide +kernel
theorem dX8_lay_26 : decode cX8_lay 26 = .ok (.bipush (-2), 2) := by decide +kernel
theorem dX8_lay_28 : decode cX8_lay 28 = .ok (.ireturn, 1) := by decide +kernel
theorem dX8_lay_29 : decode cX8_lay 29 = .ok (.aload_n 0, 1) := by decide +kernel
theorem dX8_lay_30 : decode cX8_lay 30 = .ok (.getfield 79, 3) := by decide +kernel
theorem dX8_lay_33 : decode cX8_lay 33 = .ok (.astore_n 1, 1) := by decide +kernel
theorem dX8_lay_34 : decode cX8_lay 34 = .ok (.aload_n 0, 1) := by decide +kernel
theorem dX8_lay_35 : decode cX8_lay 35 = .ok (.aload_n 0, 1) := by decide +kernel
theorem dX8_lay_36 : decode cX8_lay 36 = .ok (.getfield 83, 3) := by decide +kernel
theorem dX8_lay_39 : decode cX8_lay 39 = .ok (.putfield 79, 3) := by decide +kernel
theorem dX8_lay_42 : decode cX8_lay 42 = .ok (.aload_n 0, 1) := by decide +kernel
theorem dX8_lay_43 : decode cX8_lay 43 = .ok (.aload_n 1, 1) := by decide +kernel
theorem dX8_lay_44 : decode cX8_lay 44 = .ok (.putfield 83, 3) := by decide +kernel
theorem dX8_lay_47 : decode cX8_lay 47 = .ok (.aload_n 0, 1) := by decide +kernel
theorem dX8_lay_48 : decode cX8_lay 48 = .ok (.getfield 19, 3) := by decide +kernel
theorem dX8_lay_51 : decode cX8_lay 51 = .ok (.invokevirtual 111, 3) := by decide +kernel
theorem dX8_lay_54 : decode cX8_lay 54 = .ok (.aload_n 0, 1) := by decide +kernel
theorem dX8_lay_55 : decode cX8_lay 55 = .ok (.getfield 28, 3) := by decide +kernel
theorem dX8_lay_58 : decode cX8_lay 58 = .ok (.invokevirtual 114, 3) := by decide +kernel
theorem dX8_lay_61 : decode cX8_lay 61 = .ok (.aload_n 0, 1) := by decide +kernel
theorem dX8_lay_62 : decode cX8_lay 62 = .ok (.getfield 32, 3) := by decide +kernel
theorem dX8_lay_65 : decode cX8_lay 65 = .ok (.invokevirtual 114, 3) := by decide +kernel
theorem dX8_lay_68 : decode cX8_lay 68 = .ok (.aload_n 0, 1) := by decide +kernel
theorem dX8_lay_69 : decode cX8_lay 69 = .ok (.getfield 38, 3) := by decide +kernel
theorem dX8_lay_72 : decode cX8_lay 72 = .ok (.iconst 0, 1) := by decide +kernel
theorem dX8_lay_73 : decode cX8_lay 73 = .ok (.putfield 117, 3) := by decide +kernel
theorem dX8_lay_76 : decode cX8_lay 76 = .ok (.aload_n 0, 1) := by decide +kernel
theorem dX8_lay_77 : decode cX8_lay 77 = .ok (.getfield 45, 3) := by decide +kernel
theorem dX8_lay_80 : decode cX8_lay 80 = .ok (.iconst 0, 1) := by decide +kernel
theorem dX8_lay_81 : decode cX8_lay 81 = .ok (.putfield 120, 3) := by decide +kernel
theorem dX8_lay_84 : decode cX8_lay 84 = .ok (.aload_n 0, 1) := by decide +kernel
theorem dX8_lay_85 : decode cX8_lay 85 = .ok (.getfield 52, 3) := by decide +kernel
theorem dX8_lay_88 : decode cX8_lay 88 = .ok (.iconst 0, 1) := by decide +kernel
theorem dX8_lay_89 : decode cX8_lay 89 = .ok (.putfield 121, 3) := by decide +kernel
theorem dX8_lay_92 : decode cX8_lay 92 = .ok (.aload_n 0, 1) := by decide +kernel
theorem dX8_lay_93 : decode cX8_lay 93 = .ok (.getfield 79, 3) := by decide +kernel
theorem dX8_lay_96 : decode cX8_lay 96 = .ok (.getfield 108, 3) := by decide +kernel
theorem dX8_lay_99 : decode cX8_lay 99 = .ok (.ireturn, 1) := by decide +kernel
theorem dX8_part_0 : decode cX8_part 0 = .ok (.aload_n 0, 1) := by decide +kernel
theorem dX8_part_1 : decode cX8_part 1 = .ok (.getfield 79, 3) := by decide +kernel
theorem dX8_part_4 : decode cX8_part 4 = .ok (.iload_n 1, 1) := by decide +kernel
theorem dX8_part_5 : decode cX8_part 5 = .ok (.invokevirtual 125, 3) := by decide +kernel
theorem dX8_part_8 : decode cX8_part 8 = .ok (.ifCond .ne 5, 3) := by decide +kernel
theorem dX8_part_11 : decode cX8_part 11 = .ok (.iconst (-1), 1) := by decide +kernel
theorem dX8_part_12 : decode cX8_part 12 = .ok (.ireturn, 1) := by decide +kernel
theorem dX8_part_13 : decode cX8_part 13 = .ok (.iload_n 2, 1) := by decide +kernel
theorem dX8_part_14 : decode cX8_part 14 = .ok (.tableswitch 110 0 6 #[42, 52, 62, 72, 81, 90, 104], 42) := by decide +kernel
theorem dX8_part_56 : decode cX8_part 56 = .ok (.aload_n 0, 1) := by decide +kernel
theorem dX8_part_57 : decode cX8_part 57 = .ok (.getfield 79, 3) := by decide +kernel
theorem dX8_part_60 : decode cX8_part 60 = .ok (.getfield 129, 3) := by decide +kernel
theorem dX8_part_63 : decode cX8_part 63 = .ok (.iload_n 1, 1) := by decide +kernel
theorem dX8_part_64 : decode cX8_part 64 = .ok (.iaload, 1) := by decide +kernel
theorem dX8_part_65 : decode cX8_part 65 = .ok (.ireturn, 1) := by decide +kernel
theorem dX8_part_66 : decode cX8_part 66 = .ok (.aload_n 0, 1) := by decide +kernel
theorem dX8_part_67 : decode cX8_part 67 = .ok (.getfield 79, 3) := by decide +kernel
theorem dX8_part_70 : decode cX8_part 70 = .ok (.getfield 132, 3) := by decide +kernel
theorem dX8_part_73 : decode cX8_part 73 = .ok (.iload_n 1, 1) := by decide +kernel
theorem dX8_part_74 : decode cX8_part 74 = .ok (.iaload, 1) := by decide +kernel
theorem dX8_part_75 : decode cX8_part 75 = .ok (.ireturn, 1) := by decide +kernel
theorem dX8_part_76 : decode cX8_part 76 = .ok (.aload_n 0, 1) := by decide +kernel
theorem dX8_part_77 : decode cX8_part 77 = .ok (.getfield 79, 3) := by decide +kernel
theorem dX8_part_80 : decode cX8_part 80 = .ok (.getfield 135, 3) := by decide +kernel
theorem dX8_part_83 : decode cX8_part 83 = .ok (.iload_n 1, 1) := by decide +kernel
theorem dX8_part_84 : decode cX8_part 84 = .ok (.iaload, 1) := by decide +kernel
theorem dX8_part_85 : decode cX8_part 85 = .ok (.ireturn, 1) := by decide +kernel
theorem dX8_part_86 : decode cX8_part 86 = .ok (.aload_n 0, 1) := by decide +kernel
theorem dX8_part_87 : decode cX8_part 87 = .ok (.getfield 19, 3) := by decide +kernel
theorem dX8_part_90 : decode cX8_part 90 = .ok (.iload_n 1, 1) := by decide +kernel
theorem dX8_part_91 : decode cX8_part 91 = .ok (.invokevirtual 138, 3) := by decide +kernel
theorem dX8_part_94 : decode cX8_part 94 = .ok (.ireturn, 1) := by decide +kernel
theorem dX8_part_95 : decode cX8_part 95 = .ok (.aload_n 0, 1) := by decide +kernel
theorem dX8_part_96 : decode cX8_part 96 = .ok (.iload_n 1, 1) := by decide +kernel
theorem dX8_part_97 : decode cX8_part 97 = .ok (.invokevirtual 142, 3) := by decide +kernel
theorem dX8_part_100 : decode cX8_part 100 = .ok (.bipush 100, 2) := by decide +kernel
theorem dX8_part_102 : decode cX8_part 102 = .ok (.iadd, 1) := by decide +kernel
theorem dX8_part_103 : decode cX8_part 103 = .ok (.ireturn, 1) := by decide +kernel
theorem dX8_part_104 : decode cX8_part 104 = .ok (.aload_n 0, 1) := by decide +kernel
theorem dX8_part_105 : decode cX8_part 105 = .ok (.getfield 79, 3) := by decide +kernel
theorem dX8_part_108 : decode cX8_part 108 = .ok (.iload_n 1, 1) := by decide +kernel
theorem dX8_part_109 : decode cX8_part 109 = .ok (.aload_n 0, 1) := by decide +kernel
theorem dX8_part_110 : decode cX8_part 110 = .ok (.iload_n 1, 1) := by decide +kernel
theorem dX8_part_111 : decode cX8_part 111 = .ok (.invokevirtual 142, 3) := by decide +kernel
theorem dX8_part_114 : decode cX8_part 114 = .ok (.invokevirtual 145, 3) := by decide +kernel
theorem dX8_part_117 : decode cX8_part 117 = .ok (.ireturn, 1) := by decide +kernel
theorem dX8_part_118 : decode cX8_part 118 = .ok (.aload_n 0, 1) := by decide +kernel
theorem dX8_part_119 : decode cX8_part 119 = .ok (.iload_n 1, 1) := by decide +kernel
theorem dX8_part_120 : decode cX8_part 120 = .ok (.invokevirtual 149, 3) := by decide +kernel
theorem dX8_part_123 : decode cX8_part 123 = .ok (.ireturn, 1) := by decide +kernel
theorem dX8_part_124 : decode cX8_part 124 = .ok (.iconst (-1), 1) := by decide +kernel
theorem dX8_part_125 : decode cX8_part 125 = .ok (.ireturn, 1) := by decide +kernel
theorem dX8_gap_0 : decode cX8_gap 0 = .ok (.iload_n 1, 1) := by decide +kernel
theorem dX8_gap_1 : decode cX8_gap 1 = .ok (.iconst (-1), 1) := by decide +kernel
theorem dX8_gap_2 : decode cX8_gap 2 = .ok (.if_icmp .eq 16, 3) := by decide +kernel
theorem dX8_gap_5 : decode cX8_gap 5 = .ok (.aload_n 0, 1) := by decide +kernel
theorem dX8_gap_6 : decode cX8_gap 6 = .ok (.getfield 79, 3) := by decide +kernel
theorem dX8_gap_9 : decode cX8_gap 9 = .ok (.iload_n 1, 1) := by decide +kernel
theorem dX8_gap_10 : decode cX8_gap 10 = .ok (.invokevirtual 152, 3) := by decide +kernel
theorem dX8_gap_13 : decode cX8_gap 13 = .ok (.ifCond .ne 5, 3) := by decide +kernel
theorem dX8_gap_16 : decode cX8_gap 16 = .ok (.iconst (-1), 1) := by decide +kernel
theorem dX8_gap_17 : decode cX8_gap 17 = .ok (.ireturn, 1) := by decide +kernel
theorem dX8_gap_18 : decode cX8_gap 18 = .ok (.aload_n 0, 1) := by decide +kernel
theorem dX8_gap_19 : decode cX8_gap 19 = .ok (.invokevirtual 155, 3) := by decide +kernel
theorem dX8_gap_22 : decode cX8_gap 22 = .ok (.iload_n 1, 1) := by decide +kernel
theorem dX8_gap_23 : decode cX8_gap 23 = .ok (.iconst (-1), 1) := by decide +kernel
theorem dX8_gap_24 : decode cX8_gap 24 = .ok (.if_icmp .ne 17, 3) := by decide +kernel
theorem dX8_gap_27 : decode cX8_gap 27 = .ok (.aload_n 0, 1) := by decide +kernel
theorem dX8_gap_28 : decode cX8_gap 28 = .ok (.getfield 79, 3) := by decide +kernel
theorem dX8_gap_31 : decode cX8_gap 31 = .ok (.aload_n 0, 1) := by decide +kernel
theorem dX8_gap_32 : decode cX8_gap 32 = .ok (.getfield 63, 3) := by decide +kernel
theorem dX8_gap_35 : decode cX8_gap 35 = .ok (.invokevirtual 158, 3) := by decide +kernel
theorem dX8_gap_38 : decode cX8_gap 38 = .ok (.goto 15, 3) := by decide +kernel
theorem dX8_gap_41 : decode cX8_gap 41 = .ok (.aload_n 0, 1) := by decide +kernel
theorem dX8_gap_42 : decode cX8_gap 42 = .ok (.getfield 79, 3) := by decide +kernel
theorem dX8_gap_45 : decode cX8_gap 45 = .ok (.iload_n 1, 1) := by decide +kernel
theorem dX8_gap_46 : decode cX8_gap 46 = .ok (.aload_n 0, 1) := by decide +kernel
theorem dX8_gap_47 : decode cX8_gap 47 = .ok (.getfield 63, 3) := by decide +kernel
theorem dX8_gap_50 : decode cX8_gap 50 = .ok (.invokevirtual 162, 3) := by decide +kernel
theorem dX8_gap_53 : decode cX8_gap 53 = .ok (.ireturn, 1) := by decide +kernel
theorem dX8_closes_0 : decode cX8_closes 0 = .ok (.aload_n 0, 1) := by decide +kernel
theorem dX8_closes_1 : decode cX8_closes 1 = .ok (.invokevirtual 155, 3) := by decide +kernel
theorem dX8_closes_4 : decode cX8_closes 4 = .ok (.aload_n 0, 1) := by decide +kernel
theorem dX8_closes_5 : decode cX8_closes 5 = .ok (.getfield 79, 3) := by decide +kernel
theorem dX8_closes_8 : decode cX8_closes 8 = .ok (.aload_n 0, 1) := by decide +kernel
theorem dX8_closes_9 : decode cX8_closes 9 = .ok (.getfield 63, 3) := by decide +kernel
theorem dX8_closes_12 : decode cX8_closes 12 = .ok (.invokevirtual 166, 3) := by decide +kernel
theorem dX8_closes_15 : decode cX8_closes 15 = .ok (.ifCond .eq 7, 3) := by decide +kernel
theorem dX8_closes_18 : decode cX8_closes 18 = .ok (.iconst 1, 1) := by decide +kernel
theorem dX8_closes_19 : decode cX8_closes 19 = .ok (.goto 4, 3) := by decide +kernel
theorem dX8_closes_22 : decode cX8_closes 22 = .ok (.iconst 0, 1) := by decide +kernel
theorem dX8_closes_23 : decode cX8_closes 23 = .ok (.ireturn, 1) := by decide +kernel
theorem dX8_change_0 : decode cX8_change 0 = .ok (.aload_n 0, 1) := by decide +kernel
theorem dX8_change_1 : decode cX8_change 1 = .ok (.getfield 79, 3) := by decide +kernel
theorem dX8_change_4 : decode cX8_change 4 = .ok (.iload_n 1, 1) := by decide +kernel
theorem dX8_change_5 : decode cX8_change 5 = .ok (.invokevirtual 125, 3) := by decide +kernel
theorem dX8_change_8 : decode cX8_change 8 = .ok (.ifCond .eq 19, 3) := by decide +kernel
theorem dX8_change_11 : decode cX8_change 11 = .ok (.aload_n 0, 1) := by decide +kernel
theorem dX8_change_12 : decode cX8_change 12 = .ok (.getfield 79, 3) := by decide +kernel
theorem dX8_change_15 : decode cX8_change 15 = .ok (.iload_n 2, 1) := by decide +kernel
theorem dX8_change_16 : decode cX8_change 16 = .ok (.invokevirtual 125, 3) := by decide +kernel
theorem dX8_change_19 : decode cX8_change 19 = .ok (.ifCond .eq 8, 3) := by decide +kernel
theorem dX8_change_22 : decode cX8_change 22 = .ok (.iload_n 1, 1) := by decide +kernel
theorem dX8_change_23 : decode cX8_change 23 = .ok (.iload_n 2, 1) := by decide +kernel
theorem dX8_change_24 : decode cX8_change 24 = .ok (.if_icmp .ne 5, 3) := by decide +kernel
theorem dX8_change_27 : decode cX8_change 27 = .ok (.iconst (-1), 1) := by decide +kernel
theorem dX8_change_28 : decode cX8_change 28 = .ok (.ireturn, 1) := by decide +kernel
theorem dX8_change_29 : decode cX8_change 29 = .ok (.aload_n 0, 1) := by decide +kernel
theorem dX8_change_30 : decode cX8_change 30 = .ok (.getfield 28, 3) := by decide +kernel
theorem dX8_change_33 : decode cX8_change 33 = .ok (.aload_n 0, 1) := by decide +kernel
theorem dX8_change_34 : decode cX8_change 34 = .ok (.getfield 19, 3) := by decide +kernel
theorem dX8_change_37 : decode cX8_change 37 = .ok (.invokevirtual 170, 3) := by decide +kernel
theorem dX8_change_40 : decode cX8_change 40 = .ok (.aload_n 0, 1) := by decide +kernel
theorem dX8_change_41 : decode cX8_change 41 = .ok (.getfield 19, 3) := by decide +kernel
theorem dX8_change_44 : decode cX8_change 44 = .ok (.iload_n 1, 1) := by decide +kernel
theorem dX8_change_45 : decode cX8_change 45 = .ok (.iload_n 2, 1) := by decide +kernel
theorem dX8_change_46 : decode cX8_change 46 = .ok (.invokevirtual 174, 3) := by decide +kernel
theorem dX8_change_49 : decode cX8_change 49 = .ok (.aload_n 0, 1) := by decide +kernel
theorem dX8_change_50 : decode cX8_change 50 = .ok (.invokevirtual 155, 3) := by decide +kernel
theorem dX8_change_53 : decode cX8_change 53 = .ok (.aload_n 0, 1) := by decide +kernel
theorem dX8_change_54 : decode cX8_change 54 = .ok (.getfield 79, 3) := by decide +kernel
theorem dX8_change_57 : decode cX8_change 57 = .ok (.aload_n 0, 1) := by decide +kernel
theorem dX8_change_58 : decode cX8_change 58 = .ok (.getfield 63, 3) := by decide +kernel
theorem dX8_change_61 : decode cX8_change 61 = .ok (.invokevirtual 158, 3) := by decide +kernel
theorem dX8_change_64 : decode cX8_change 64 = .ok (.ireturn, 1) := by decide +kernel
theorem dX8_alter_0 : decode cX8_alter 0 = .ok (.aload_n 0, 1) := by decide +kernel
theorem dX8_alter_1 : decode cX8_alter 1 = .ok (.getfield 79, 3) := by decide +kernel
theorem dX8_alter_4 : decode cX8_alter 4 = .ok (.iload_n 1, 1) := by decide +kernel
theorem dX8_alter_5 : decode cX8_alter 5 = .ok (.invokevirtual 125, 3) := by decide +kernel
theorem dX8_alter_8 : decode cX8_alter 8 = .ok (.ifCond .eq 15, 3) := by decide +kernel
theorem dX8_alter_11 : decode cX8_alter 11 = .ok (.iload_n 2, 1) := by decide +kernel
theorem dX8_alter_12 : decode cX8_alter 12 = .ok (.bipush (-9), 2) := by decide +kernel
theorem dX8_alter_14 : decode cX8_alter 14 = .ok (.if_icmp .lt 9, 3) := by decide +kernel
theorem dX8_alter_17 : decode cX8_alter 17 = .ok (.iload_n 2, 1) := by decide +kernel
theorem dX8_alter_18 : decode cX8_alter 18 = .ok (.bipush 9, 2) := by decide +kernel
theorem dX8_alter_20 : decode cX8_alter 20 = .ok (.if_icmp .le 5, 3) := by decide +kernel
theorem dX8_alter_23 : decode cX8_alter 23 = .ok (.iconst (-1), 1) := by decide +kernel
theorem dX8_alter_24 : decode cX8_alter 24 = .ok (.ireturn, 1) := by decide +kernel
theorem dX8_alter_25 : decode cX8_alter 25 = .ok (.aload_n 0, 1) := by decide +kernel
theorem dX8_alter_26 : decode cX8_alter 26 = .ok (.iload_n 1, 1) := by decide +kernel
theorem dX8_alter_27 : decode cX8_alter 27 = .ok (.invokevirtual 149, 3) := by decide +kernel
theorem dX8_alter_30 : decode cX8_alter 30 = .ok (.iload_n 2, 1) := by decide +kernel
theorem dX8_alter_31 : decode cX8_alter 31 = .ok (.iadd, 1) := by decide +kernel
theorem dX8_alter_32 : decode cX8_alter 32 = .ok (.istore_n 3, 1) := by decide +kernel
theorem dX8_alter_33 : decode cX8_alter 33 = .ok (.iload_n 3, 1) := by decide +kernel
theorem dX8_alter_34 : decode cX8_alter 34 = .ok (.iconst 1, 1) := by decide +kernel
theorem dX8_alter_35 : decode cX8_alter 35 = .ok (.if_icmp .lt 10, 3) := by decide +kernel
theorem dX8_alter_38 : decode cX8_alter 38 = .ok (.iload_n 3, 1) := by decide +kernel
theorem dX8_alter_39 : decode cX8_alter 39 = .ok (.sipush 299, 3) := by decide +kernel
theorem dX8_alter_42 : decode cX8_alter 42 = .ok (.if_icmp .le 6, 3) := by decide +kernel
theorem dX8_alter_45 : decode cX8_alter 45 = .ok (.bipush (-2), 2) := by decide +kernel
theorem dX8_alter_47 : decode cX8_alter 47 = .ok (.ireturn, 1) := by decide +kernel
theorem dX8_alter_48 : decode cX8_alter 48 = .ok (.aload_n 0, 1) := by decide +kernel
theorem dX8_alter_49 : decode cX8_alter 49 = .ok (.getfield 28, 3) := by decide +kernel
theorem dX8_alter_52 : decode cX8_alter 52 = .ok (.aload_n 0, 1) := by decide +kernel
theorem dX8_alter_53 : decode cX8_alter 53 = .ok (.getfield 19, 3) := by decide +kernel
theorem dX8_alter_56 : decode cX8_alter 56 = .ok (.invokevirtual 170, 3) := by decide +kernel
theorem dX8_alter_59 : decode cX8_alter 59 = .ok (.aload_n 0, 1) := by decide +kernel
theorem dX8_alter_60 : decode cX8_alter 60 = .ok (.getfield 19, 3) := by decide +kernel
theorem dX8_alter_63 : decode cX8_alter 63 = .ok (.getfield 178, 3) := by decide +kernel
theorem dX8_alter_66 : decode cX8_alter 66 = .ok (.iload_n 1, 1) := by decide +kernel
theorem dX8_alter_67 : decode cX8_alter 67 = .ok (.dup2, 1) := by decide +kernel
theorem dX8_alter_68 : decode cX8_alter 68 = .ok (.iaload, 1) := by decide +kernel
theorem dX8_alter_69 : decode cX8_alter 69 = .ok (.iload_n 2, 1) := by decide +kernel
theorem dX8_alter_70 : decode cX8_alter 70 = .ok (.iadd, 1) := by decide +kernel
theorem dX8_alter_71 : decode cX8_alter 71 = .ok (.iastore, 1) := by decide +kernel
theorem dX8_alter_72 : decode cX8_alter 72 = .ok (.iload_n 3, 1) := by decide +kernel
theorem dX8_alter_73 : decode cX8_alter 73 = .ok (.ireturn, 1) := by decide +kernel
theorem dX8_undo_0 : decode cX8_undo 0 = .ok (.aload_n 0, 1) := by decide +kernel
theorem dX8_undo_1 : decode cX8_undo 1 = .ok (.getfield 28, 3) := by decide +kernel
theorem dX8_undo_4 : decode cX8_undo 4 = .ok (.getfield 181, 3) := by decide +kernel
theorem dX8_undo_7 : decode cX8_undo 7 = .ok (.ifCond .ne 6, 3) := by decide +kernel
theorem dX8_undo_10 : decode cX8_undo 10 = .ok (.bipush (-2), 2) := by decide +kernel
theorem dX8_undo_12 : decode cX8_undo 12 = .ok (.ireturn, 1) := by decide +kernel
theorem dX8_undo_13 : decode cX8_undo 13 = .ok (.aload_n 0, 1) := by decide +kernel
theorem dX8_undo_14 : decode cX8_undo 14 = .ok (.getfield 28, 3) := by decide +kernel
theorem dX8_undo_17 : decode cX8_undo 17 = .ok (.aload_n 0, 1) := by decide +kernel
theorem dX8_undo_18 : decode cX8_undo 18 = .ok (.getfield 19, 3) := by decide +kernel
theorem dX8_undo_21 : decode cX8_undo 21 = .ok (.invokevirtual 182, 3) := by decide +kernel
theorem dX8_undo_24 : decode cX8_undo 24 = .ok (.aload_n 0, 1) := by decide +kernel
theorem dX8_undo_25 : decode cX8_undo 25 = .ok (.getfield 28, 3) := by decide +kernel
theorem dX8_undo_28 : decode cX8_undo 28 = .ok (.getfield 181, 3) := by decide +kernel
theorem dX8_undo_31 : decode cX8_undo 31 = .ok (.ireturn, 1) := by decide +kernel
theorem dX8_order_0 : decode cX8_order 0 = .ok (.iload_n 1, 1) := by decide +kernel
theorem dX8_order_1 : decode cX8_order 1 = .ok (.iconst (-1), 1) := by decide +kernel
theorem dX8_order_2 : decode cX8_order 2 = .ok (.if_icmp .eq 16, 3) := by decide +kernel
theorem dX8_order_5 : decode cX8_order 5 = .ok (.aload_n 0, 1) := by decide +kernel
theorem dX8_order_6 : decode cX8_order 6 = .ok (.getfield 79, 3) := by decide +kernel
theorem dX8_order_9 : decode cX8_order 9 = .ok (.iload_n 1, 1) := by decide +kernel
theorem dX8_order_10 : decode cX8_order 10 = .ok (.invokevirtual 125, 3) := by decide +kernel
theorem dX8_order_13 : decode cX8_order 13 = .ok (.ifCond .ne 5, 3) := by decide +kernel
theorem dX8_order_16 : decode cX8_order 16 = .ok (.iconst (-1), 1) := by decide +kernel
theorem dX8_order_17 : decode cX8_order 17 = .ok (.ireturn, 1) := by decide +kernel
theorem dX8_order_18 : decode cX8_order 18 = .ok (.aload_n 0, 1) := by decide +kernel
theorem dX8_order_19 : decode cX8_order 19 = .ok (.getfield 52, 3) := by decide +kernel
theorem dX8_order_22 : decode cX8_order 22 = .ok (.getfield 121, 3) := by decide +kernel
theorem dX8_order_25 : decode cX8_order 25 = .ok (.ifCond .ne 14, 3) := by decide +kernel
theorem dX8_order_28 : decode cX8_order 28 = .ok (.aload_n 0, 1) := by decide +kernel
theorem dX8_order_29 : decode cX8_order 29 = .ok (.getfield 52, 3) := by decide +kernel
theorem dX8_order_32 : decode cX8_order 32 = .ok (.aload_n 0, 1) := by decide +kernel
theorem dX8_order_33 : decode cX8_order 33 = .ok (.getfield 79, 3) := by decide +kernel
theorem dX8_order_36 : decode cX8_order 36 = .ok (.invokevirtual 185, 3) := by decide +kernel
theorem dX8_order_39 : decode cX8_order 39 = .ok (.iload_n 1, 1) := by decide +kernel
theorem dX8_order_40 : decode cX8_order 40 = .ok (.iconst (-1), 1) := by decide +kernel
theorem dX8_order_41 : decode cX8_order 41 = .ok (.if_icmp .ne 13, 3) := by decide +kernel
theorem dX8_order_44 : decode cX8_order 44 = .ok (.aload_n 0, 1) := by decide +kernel
theorem dX8_order_45 : decode cX8_order 45 = .ok (.getfield 52, 3) := by decide +kernel
theorem dX8_order_48 : decode cX8_order 48 = .ok (.getfield 189, 3) := by decide +kernel
theorem dX8_order_51 : decode cX8_order 51 = .ok (.goto 12, 3) := by decide +kernel
theorem dX8_order_54 : decode cX8_order 54 = .ok (.aload_n 0, 1) := by decide +kernel
theorem dX8_order_55 : decode cX8_order 55 = .ok (.getfield 52, 3) := by decide +kernel
theorem dX8_order_58 : decode cX8_order 58 = .ok (.getfield 192, 3) := by decide +kernel
theorem dX8_order_61 : decode cX8_order 61 = .ok (.iload_n 1, 1) := by decide +kernel
theorem dX8_order_62 : decode cX8_order 62 = .ok (.iaload, 1) := by decide +kernel
theorem dX8_order_63 : decode cX8_order 63 = .ok (.ireturn, 1) := by decide +kernel
theorem dX8_bribes_0 : decode cX8_bribes 0 = .ok (.iload_n 1, 1) := by decide +kernel
theorem dX8_bribes_1 : decode cX8_bribes 1 = .ok (.ifCond .eq 10, 3) := by decide +kernel
theorem dX8_bribes_4 : decode cX8_bribes 4 = .ok (.iload_n 1, 1) := by decide +kernel
theorem dX8_bribes_5 : decode cX8_bribes 5 = .ok (.iconst 1, 1) := by decide +kernel
theorem dX8_bribes_6 : decode cX8_bribes 6 = .ok (.if_icmp .eq 5, 3) := by decide +kernel
theorem dX8_bribes_9 : decode cX8_bribes 9 = .ok (.iconst (-1), 1) := by decide +kernel
theorem dX8_bribes_10 : decode cX8_bribes 10 = .ok (.ireturn, 1) := by decide +kernel
theorem dX8_bribes_11 : decode cX8_bribes 11 = .ok (.iconst 0, 1) := by decide +kernel
theorem dX8_bribes_12 : decode cX8_bribes 12 = .ok (.istore_n 2, 1) := by decide +kernel
theorem dX8_bribes_13 : decode cX8_bribes 13 = .ok (.iload_n 2, 1) := by decide +kernel
theorem dX8_bribes_14 : decode cX8_bribes 14 = .ok (.aload_n 0, 1) := by decide +kernel
theorem dX8_bribes_15 : decode cX8_bribes 15 = .ok (.getfield 79, 3) := by decide +kernel
theorem dX8_bribes_18 : decode cX8_bribes 18 = .ok (.getfield 108, 3) := by decide +kernel
theorem dX8_bribes_21 : decode cX8_bribes 21 = .ok (.if_icmp .ge 43, 3) := by decide +kernel
theorem dX8_bribes_24 : decode cX8_bribes 24 = .ok (.aload_n 0, 1) := by decide +kernel
theorem dX8_bribes_25 : decode cX8_bribes 25 = .ok (.getfield 67, 3) := by decide +kernel
theorem dX8_bribes_28 : decode cX8_bribes 28 = .ok (.iload_n 2, 1) := by decide +kernel
theorem dX8_bribes_29 : decode cX8_bribes 29 = .ok (.aload_n 0, 1) := by decide +kernel
theorem dX8_bribes_30 : decode cX8_bribes 30 = .ok (.getfield 79, 3) := by decide +kernel
theorem dX8_bribes_33 : decode cX8_bribes 33 = .ok (.iload_n 2, 1) := by decide +kernel
theorem dX8_bribes_34 : decode cX8_bribes 34 = .ok (.iconst 0, 1) := by decide +kernel
theorem dX8_bribes_35 : decode cX8_bribes 35 = .ok (.invokevirtual 145, 3) := by decide +kernel
theorem dX8_bribes_38 : decode cX8_bribes 38 = .ok (.iastore, 1) := by decide +kernel
theorem dX8_bribes_39 : decode cX8_bribes 39 = .ok (.aload_n 0, 1) := by decide +kernel
theorem dX8_bribes_40 : decode cX8_bribes 40 = .ok (.getfield 70, 3) := by decide +kernel
theorem dX8_bribes_43 : decode cX8_bribes 43 = .ok (.iload_n 2, 1) := by decide +kernel
theorem dX8_bribes_44 : decode cX8_bribes 44 = .ok (.aload_n 0, 1) := by decide +kernel
theorem dX8_bribes_45 : decode cX8_bribes 45 = .ok (.getfield 79, 3) := by decide +kernel
theorem dX8_bribes_48 : decode cX8_bribes 48 = .ok (.iload_n 2, 1) := by decide +kernel
theorem dX8_bribes_49 : decode cX8_bribes 49 = .ok (.aload_n 0, 1) := by decide +kernel
theorem dX8_bribes_50 : decode cX8_bribes 50 = .ok (.iload_n 2, 1) := by decide +kernel
theorem dX8_bribes_51 : decode cX8_bribes 51 = .ok (.invokevirtual 142, 3) := by decide +kernel
theorem dX8_bribes_54 : decode cX8_bribes 54 = .ok (.invokevirtual 145, 3) := by decide +kernel
theorem dX8_bribes_57 : decode cX8_bribes 57 = .ok (.iastore, 1) := by decide +kernel
theorem dX8_bribes_58 : decode cX8_bribes 58 = .ok (.iinc 2 1, 3) := by decide +kernel
theorem dX8_bribes_61 : decode cX8_bribes 61 = .ok (.goto (-48), 3) := by decide +kernel
theorem dX8_bribes_64 : decode cX8_bribes 64 = .ok (.bipush (-4), 2) := by decide +kernel
theorem dX8_bribes_66 : decode cX8_bribes 66 = .ok (.istore_n 2, 1) := by decide +kernel
theorem dX8_bribes_67 : decode cX8_bribes 67 = .ok (.bipush (-4), 2) := by decide +kernel
theorem dX8_bribes_69 : decode cX8_bribes 69 = .ok (.istore_n 3, 1) := by decide +kernel
theorem dX8_bribes_70 : decode cX8_bribes 70 = .ok (.iconst 0, 1) := by decide +kernel
theorem dX8_bribes_71 : decode cX8_bribes 71 = .ok (.istore 4, 2) := by decide +kernel
theorem dX8_bribes_73 : decode cX8_bribes 73 = .ok (.iload 4, 2) := by decide +kernel
theorem dX8_bribes_75 : decode cX8_bribes 75 = .ok (.iconst 1, 1) := by decide +kernel
theorem dX8_bribes_76 : decode cX8_bribes 76 = .ok (.aload_n 0, 1) := by decide +kernel
theorem dX8_bribes_77 : decode cX8_bribes 77 = .ok (.getfield 79, 3) := by decide +kernel
theorem dX8_bribes_80 : decode cX8_bribes 80 = .ok (.getfield 108, 3) := by decide +kernel
theorem dX8_bribes_83 : decode cX8_bribes 83 = .ok (.ishl, 1) := by decide +kernel
theorem dX8_bribes_84 : decode cX8_bribes 84 = .ok (.if_icmp .ge 54, 3) := by decide +kernel
theorem dX8_bribes_87 : decode cX8_bribes 87 = .ok (.aload_n 0, 1) := by decide +kernel
theorem dX8_bribes_88 : decode cX8_bribes 88 = .ok (.getfield 79, 3) := by decide +kernel
theorem dX8_bribes_91 : decode cX8_bribes 91 = .ok (.aload_n 0, 1) := by decide +kernel
theorem dX8_bribes_92 : decode cX8_bribes 92 = .ok (.getfield 79, 3) := by decide +kernel
theorem dX8_bribes_95 : decode cX8_bribes 95 = .ok (.getfield 135, 3) := by decide +kernel
theorem dX8_bribes_98 : decode cX8_bribes 98 = .ok (.iload 4, 2) := by decide +kernel
theorem dX8_bribes_100 : decode cX8_bribes 100 = .ok (.invokevirtual 195, 3) := by decide +kernel
theorem dX8_bribes_103 : decode cX8_bribes 103 = .ok (.istore 5, 2) := by decide +kernel
theorem dX8_bribes_105 : decode cX8_bribes 105 = .ok (.iload_n 2, 1) := by decide +kernel
theorem dX8_bribes_106 : decode cX8_bribes 106 = .ok (.bipush (-4), 2) := by decide +kernel
theorem dX8_bribes_108 : decode cX8_bribes 108 = .ok (.if_icmp .eq 9, 3) := by decide +kernel
theorem dX8_bribes_111 : decode cX8_bribes 111 = .ok (.iload 5, 2) := by decide +kernel
theorem dX8_bribes_113 : decode cX8_bribes 113 = .ok (.iload_n 3, 1) := by decide +kernel
theorem dX8_bribes_114 : decode cX8_bribes 114 = .ok (.if_icmp .ge 18, 3) := by decide +kernel
theorem dX8_bribes_117 : decode cX8_bribes 117 = .ok (.aload_n 0, 1) := by decide +kernel
theorem dX8_bribes_118 : decode cX8_bribes 118 = .ok (.iload 4, 2) := by decide +kernel
theorem dX8_bribes_120 : decode cX8_bribes 120 = .ok (.invokevirtual 199, 3) := by decide +kernel
theorem dX8_bribes_123 : decode cX8_bribes 123 = .ok (.ifCond .eq 9, 3) := by decide +kernel
theorem dX8_bribes_126 : decode cX8_bribes 126 = .ok (.iload 4, 2) := by decide +kernel
theorem dX8_bribes_128 : decode cX8_bribes 128 = .ok (.istore_n 2, 1) := by decide +kernel
theorem dX8_bribes_129 : decode cX8_bribes 129 = .ok (.iload 5, 2) := by decide +kernel
theorem dX8_bribes_131 : decode cX8_bribes 131 = .ok (.istore_n 3, 1) := by decide +kernel
theorem dX8_bribes_132 : decode cX8_bribes 132 = .ok (.iinc 4 1, 3) := by decide +kernel
theorem dX8_bribes_135 : decode cX8_bribes 135 = .ok (.goto (-62), 3) := by decide +kernel
theorem dX8_bribes_138 : decode cX8_bribes 138 = .ok (.iload_n 1, 1) := by decide +kernel
theorem dX8_bribes_139 : decode cX8_bribes 139 = .ok (.ifCond .ne 7, 3) := by decide +kernel
theorem dX8_bribes_142 : decode cX8_bribes 142 = .ok (.iload_n 3, 1) := by decide +kernel
theorem dX8_bribes_143 : decode cX8_bribes 143 = .ok (.goto 4, 3) := by decide +kernel
theorem dX8_bribes_146 : decode cX8_bribes 146 = .ok (.iload_n 2, 1) := by decide +kernel
theorem dX8_bribes_147 : decode cX8_bribes 147 = .ok (.ireturn, 1) := by decide +kernel
theorem dX8_closed_0 : decode cX8_closed 0 = .ok (.iload_n 1, 1) := by decide +kernel
theorem dX8_closed_1 : decode cX8_closed 1 = .ok (.iconst (-1), 1) := by decide +kernel
theorem dX8_closed_2 : decode cX8_closed 2 = .ok (.if_icmp .eq 16, 3) := by decide +kernel
theorem dX8_closed_5 : decode cX8_closed 5 = .ok (.aload_n 0, 1) := by decide +kernel
theorem dX8_closed_6 : decode cX8_closed 6 = .ok (.getfield 79, 3) := by decide +kernel
theorem dX8_closed_9 : decode cX8_closed 9 = .ok (.iload_n 1, 1) := by decide +kernel
theorem dX8_closed_10 : decode cX8_closed 10 = .ok (.invokevirtual 125, 3) := by decide +kernel
theorem dX8_closed_13 : decode cX8_closed 13 = .ok (.ifCond .ne 5, 3) := by decide +kernel
theorem dX8_closed_16 : decode cX8_closed 16 = .ok (.iconst (-1), 1) := by decide +kernel
theorem dX8_closed_17 : decode cX8_closed 17 = .ok (.ireturn, 1) := by decide +kernel
theorem dX8_closed_18 : decode cX8_closed 18 = .ok (.aload_n 0, 1) := by decide +kernel
theorem dX8_closed_19 : decode cX8_closed 19 = .ok (.invokevirtual 155, 3) := by decide +kernel
theorem dX8_closed_22 : decode cX8_closed 22 = .ok (.aload_n 0, 1) := by decide +kernel
theorem dX8_closed_23 : decode cX8_closed 23 = .ok (.invokevirtual 202, 3) := by decide +kernel
theorem dX8_closed_26 : decode cX8_closed 26 = .ok (.iload_n 1, 1) := by decide +kernel
theorem dX8_closed_27 : decode cX8_closed 27 = .ok (.iconst (-1), 1) := by decide +kernel
theorem dX8_closed_28 : decode cX8_closed 28 = .ok (.if_icmp .eq 17, 3) := by decide +kernel
theorem dX8_closed_31 : decode cX8_closed 31 = .ok (.aload_n 0, 1) := by decide +kernel
theorem dX8_closed_32 : decode cX8_closed 32 = .ok (.getfield 63, 3) := by decide +kernel
theorem dX8_closed_35 : decode cX8_closed 35 = .ok (.iload_n 1, 1) := by decide +kernel
theorem dX8_closed_36 : decode cX8_closed 36 = .ok (.iaload, 1) := by decide +kernel
theorem dX8_closed_37 : decode cX8_closed 37 = .ok (.aload_n 0, 1) := by decide +kernel
theorem dX8_closed_38 : decode cX8_closed 38 = .ok (.getfield 73, 3) := by decide +kernel
theorem dX8_closed_41 : decode cX8_closed 41 = .ok (.iload_n 1, 1) := by decide +kernel
theorem dX8_closed_42 : decode cX8_closed 42 = .ok (.iaload, 1) := by decide +kernel
theorem dX8_closed_43 : decode cX8_closed 43 = .ok (.isub, 1) := by decide +kernel
theorem dX8_closed_44 : decode cX8_closed 44 = .ok (.ireturn, 1) := by decide +kernel
theorem dX8_closed_45 : decode cX8_closed 45 = .ok (.iconst 0, 1) := by decide +kernel
theorem dX8_closed_46 : decode cX8_closed 46 = .ok (.istore_n 2, 1) := by decide +kernel
theorem dX8_closed_47 : decode cX8_closed 47 = .ok (.iconst 0, 1) := by decide +kernel
theorem dX8_closed_48 : decode cX8_closed 48 = .ok (.istore_n 3, 1) := by decide +kernel
theorem dX8_closed_49 : decode cX8_closed 49 = .ok (.iload_n 3, 1) := by decide +kernel
theorem dX8_closed_50 : decode cX8_closed 50 = .ok (.aload_n 0, 1) := by decide +kernel
theorem dX8_closed_51 : decode cX8_closed 51 = .ok (.getfield 79, 3) := by decide +kernel
theorem dX8_closed_54 : decode cX8_closed 54 = .ok (.getfield 108, 3) := by decide +kernel
theorem dX8_closed_57 : decode cX8_closed 57 = .ok (.if_icmp .ge 25, 3) := by decide +kernel
theorem dX8_closed_60 : decode cX8_closed 60 = .ok (.iload_n 2, 1) := by decide +kernel
theorem dX8_closed_61 : decode cX8_closed 61 = .ok (.aload_n 0, 1) := by decide +kernel
theorem dX8_closed_62 : decode cX8_closed 62 = .ok (.getfield 63, 3) := by decide +kernel
theorem dX8_closed_65 : decode cX8_closed 65 = .ok (.iload_n 3, 1) := by decide +kernel
theorem dX8_closed_66 : decode cX8_closed 66 = .ok (.iaload, 1) := by decide +kernel
theorem dX8_closed_67 : decode cX8_closed 67 = .ok (.aload_n 0, 1) := by decide +kernel
theorem dX8_closed_68 : decode cX8_closed 68 = .ok (.getfield 73, 3) := by decide +kernel
theorem dX8_closed_71 : decode cX8_closed 71 = .ok (.iload_n 3, 1) := by decide +kernel
theorem dX8_closed_72 : decode cX8_closed 72 = .ok (.iaload, 1) := by decide +kernel
theorem dX8_closed_73 : decode cX8_closed 73 = .ok (.isub, 1) := by decide +kernel
theorem dX8_closed_74 : decode cX8_closed 74 = .ok (.iadd, 1) := by decide +kernel
theorem dX8_closed_75 : decode cX8_closed 75 = .ok (.istore_n 2, 1) := by decide +kernel
theorem dX8_closed_76 : decode cX8_closed 76 = .ok (.iinc 3 1, 3) := by decide +kernel
theorem dX8_closed_79 : decode cX8_closed 79 = .ok (.goto (-30), 3) := by decide +kernel
theorem dX8_closed_82 : decode cX8_closed 82 = .ok (.iload_n 2, 1) := by decide +kernel
theorem dX8_closed_83 : decode cX8_closed 83 = .ok (.ireturn, 1) := by decide +kernel
theorem dX8_seen_0 : decode cX8_seen 0 = .ok (.aload_n 0, 1) := by decide +kernel
theorem dX8_seen_1 : decode cX8_seen 1 = .ok (.getfield 79, 3) := by decide +kernel
theorem dX8_seen_4 : decode cX8_seen 4 = .ok (.iload_n 1, 1) := by decide +kernel
theorem dX8_seen_5 : decode cX8_seen 5 = .ok (.invokevirtual 205, 3) := by decide +kernel
theorem dX8_seen_8 : decode cX8_seen 8 = .ok (.ifCond .eq 23, 3) := by decide +kernel
theorem dX8_seen_11 : decode cX8_seen 11 = .ok (.iload_n 2, 1) := by decide +kernel
theorem dX8_seen_12 : decode cX8_seen 12 = .ok (.bipush 10, 2) := by decide +kernel
theorem dX8_seen_14 : decode cX8_seen 14 = .ok (.if_icmp .lt 17, 3) := by decide +kernel
theorem dX8_seen_17 : decode cX8_seen 17 = .ok (.iload_n 2, 1) := by decide +kernel
theorem dX8_seen_18 : decode cX8_seen 18 = .ok (.sipush 199, 3) := by decide +kernel
theorem dX8_seen_21 : decode cX8_seen 21 = .ok (.if_icmp .gt 10, 3) := by decide +kernel
theorem dX8_seen_24 : decode cX8_seen 24 = .ok (.iload_n 3, 1) := by decide +kernel
theorem dX8_seen_25 : decode cX8_seen 25 = .ok (.invokestatic 208, 3) := by decide +kernel
theorem dX8_seen_28 : decode cX8_seen 28 = .ok (.ifCond .ne 5, 3) := by decide +kernel
theorem dX8_seen_31 : decode cX8_seen 31 = .ok (.iconst (-1), 1) := by decide +kernel
theorem dX8_seen_32 : decode cX8_seen 32 = .ok (.ireturn, 1) := by decide +kernel
theorem dX8_seen_33 : decode cX8_seen 33 = .ok (.aload_n 0, 1) := by decide +kernel
theorem dX8_seen_34 : decode cX8_seen 34 = .ok (.getfield 38, 3) := by decide +kernel
theorem dX8_seen_37 : decode cX8_seen 37 = .ok (.getfield 117, 3) := by decide +kernel
theorem dX8_seen_40 : decode cX8_seen 40 = .ok (.bipush 10, 2) := by decide +kernel
theorem dX8_seen_42 : decode cX8_seen 42 = .ok (.if_icmp .lt 6, 3) := by decide +kernel
theorem dX8_seen_45 : decode cX8_seen 45 = .ok (.bipush (-3), 2) := by decide +kernel
theorem dX8_seen_47 : decode cX8_seen 47 = .ok (.ireturn, 1) := by decide +kernel
theorem dX8_seen_48 : decode cX8_seen 48 = .ok (.aload_n 0, 1) := by decide +kernel
theorem dX8_seen_49 : decode cX8_seen 49 = .ok (.getfield 38, 3) := by decide +kernel
theorem dX8_seen_52 : decode cX8_seen 52 = .ok (.iload_n 1, 1) := by decide +kernel
theorem dX8_seen_53 : decode cX8_seen 53 = .ok (.iload_n 2, 1) := by decide +kernel
theorem dX8_seen_54 : decode cX8_seen 54 = .ok (.iload_n 3, 1) := by decide +kernel
theorem dX8_seen_55 : decode cX8_seen 55 = .ok (.invokevirtual 211, 3) := by decide +kernel
theorem dX8_seen_58 : decode cX8_seen 58 = .ok (.aload_n 0, 1) := by decide +kernel
theorem dX8_seen_59 : decode cX8_seen 59 = .ok (.getfield 38, 3) := by decide +kernel
theorem dX8_seen_62 : decode cX8_seen 62 = .ok (.getfield 117, 3) := by decide +kernel
theorem dX8_seen_65 : decode cX8_seen 65 = .ok (.ireturn, 1) := by decide +kernel
theorem dX8_forget_0 : decode cX8_forget 0 = .ok (.aload_n 0, 1) := by decide +kernel
theorem dX8_forget_1 : decode cX8_forget 1 = .ok (.getfield 38, 3) := by decide +kernel
theorem dX8_forget_4 : decode cX8_forget 4 = .ok (.getfield 117, 3) := by decide +kernel
theorem dX8_forget_7 : decode cX8_forget 7 = .ok (.istore_n 1, 1) := by decide +kernel
theorem dX8_forget_8 : decode cX8_forget 8 = .ok (.aload_n 0, 1) := by decide +kernel
theorem dX8_forget_9 : decode cX8_forget 9 = .ok (.getfield 38, 3) := by decide +kernel
theorem dX8_forget_12 : decode cX8_forget 12 = .ok (.iconst 0, 1) := by decide +kernel
theorem dX8_forget_13 : decode cX8_forget 13 = .ok (.putfield 117, 3) := by decide +kernel
theorem dX8_forget_16 : decode cX8_forget 16 = .ok (.iload_n 1, 1) := by decide +kernel
theorem dX8_forget_17 : decode cX8_forget 17 = .ok (.ireturn, 1) := by decide +kernel
theorem dX8_inch_0 : decode cX8_inch 0 = .ok (.aload_n 0, 1) := by decide +kernel
theorem dX8_inch_1 : decode cX8_inch 1 = .ok (.getfield 79, 3) := by decide +kernel
theorem dX8_inch_4 : decode cX8_inch 4 = .ok (.iload_n 1, 1) := by decide +kernel
theorem dX8_inch_5 : decode cX8_inch 5 = .ok (.invokevirtual 205, 3) := by decide +kernel
theorem dX8_inch_8 : decode cX8_inch 8 = .ok (.ifCond .eq 12, 3) := by decide +kernel
theorem dX8_inch_11 : decode cX8_inch 11 = .ok (.iload_n 2, 1) := by decide +kernel
theorem dX8_inch_12 : decode cX8_inch 12 = .ok (.ifCond .eq 10, 3) := by decide +kernel
theorem dX8_inch_15 : decode cX8_inch 15 = .ok (.iload_n 2, 1) := by decide +kernel
theorem dX8_inch_16 : decode cX8_inch 16 = .ok (.iconst 1, 1) := by decide +kernel
theorem dX8_inch_17 : decode cX8_inch 17 = .ok (.if_icmp .eq 5, 3) := by decide +kernel
theorem dX8_inch_20 : decode cX8_inch 20 = .ok (.iconst (-1), 1) := by decide +kernel
theorem dX8_inch_21 : decode cX8_inch 21 = .ok (.ireturn, 1) := by decide +kernel
theorem dX8_inch_22 : decode cX8_inch 22 = .ok (.iconst 0, 1) := by decide +kernel
theorem dX8_inch_23 : decode cX8_inch 23 = .ok (.istore_n 3, 1) := by decide +kernel
theorem dX8_inch_24 : decode cX8_inch 24 = .ok (.bipush (-4), 2) := by decide +kernel
theorem dX8_inch_26 : decode cX8_inch 26 = .ok (.istore 4, 2) := by decide +kernel
theorem dX8_inch_28 : decode cX8_inch 28 = .ok (.bipush 120, 2) := by decide +kernel
theorem dX8_inch_30 : decode cX8_inch 30 = .ok (.istore 5, 2) := by decide +kernel
theorem dX8_inch_32 : decode cX8_inch 32 = .ok (.iload 5, 2) := by decide +kernel
theorem dX8_inch_34 : decode cX8_inch 34 = .ok (.bipush 80, 2) := by decide +kernel
theorem dX8_inch_36 : decode cX8_inch 36 = .ok (.if_icmp .lt 29, 3) := by decide +kernel
theorem dX8_inch_39 : decode cX8_inch 39 = .ok (.aload_n 0, 1) := by decide +kernel
theorem dX8_inch_40 : decode cX8_inch 40 = .ok (.getfield 38, 3) := by decide +kernel
theorem dX8_inch_43 : decode cX8_inch 43 = .ok (.iload_n 1, 1) := by decide +kernel
theorem dX8_inch_44 : decode cX8_inch 44 = .ok (.iload 5, 2) := by decide +kernel
theorem dX8_inch_46 : decode cX8_inch 46 = .ok (.invokevirtual 215, 3) := by decide +kernel
theorem dX8_inch_49 : decode cX8_inch 49 = .ok (.ifCond .eq 10, 3) := by decide +kernel
theorem dX8_inch_52 : decode cX8_inch 52 = .ok (.iinc 3 1, 3) := by decide +kernel
theorem dX8_inch_55 : decode cX8_inch 55 = .ok (.iload 5, 2) := by decide +kernel
theorem dX8_inch_57 : decode cX8_inch 57 = .ok (.istore 4, 2) := by decide +kernel
theorem dX8_inch_59 : decode cX8_inch 59 = .ok (.iinc 5 (-1), 3) := by decide +kernel
theorem dX8_inch_62 : decode cX8_inch 62 = .ok (.goto (-30), 3) := by decide +kernel
theorem dX8_inch_65 : decode cX8_inch 65 = .ok (.iload_n 2, 1) := by decide +kernel
theorem dX8_inch_66 : decode cX8_inch 66 = .ok (.ifCond .ne 7, 3) := by decide +kernel
theorem dX8_inch_69 : decode cX8_inch 69 = .ok (.iload_n 3, 1) := by decide +kernel
theorem dX8_inch_70 : decode cX8_inch 70 = .ok (.goto 5, 3) := by decide +kernel
theorem dX8_inch_73 : decode cX8_inch 73 = .ok (.iload 4, 2) := by decide +kernel
theorem dX8_inch_75 : decode cX8_inch 75 = .ok (.ireturn, 1) := by decide +kernel
theorem dX8_added_0 : decode cX8_added 0 = .ok (.aload_n 0, 1) := by decide +kernel
theorem dX8_added_1 : decode cX8_added 1 = .ok (.getfield 79, 3) := by decide +kernel
theorem dX8_added_4 : decode cX8_added 4 = .ok (.iload_n 1, 1) := by decide +kernel
theorem dX8_added_5 : decode cX8_added 5 = .ok (.invokevirtual 125, 3) := by decide +kernel
theorem dX8_added_8 : decode cX8_added 8 = .ok (.ifCond .eq 10, 3) := by decide +kernel
theorem dX8_added_11 : decode cX8_added 11 = .ok (.iload_n 2, 1) := by decide +kernel
theorem dX8_added_12 : decode cX8_added 12 = .ok (.invokestatic 208, 3) := by decide +kernel
theorem dX8_added_15 : decode cX8_added 15 = .ok (.ifCond .ne 5, 3) := by decide +kernel
theorem dX8_added_18 : decode cX8_added 18 = .ok (.iconst (-1), 1) := by decide +kernel
theorem dX8_added_19 : decode cX8_added 19 = .ok (.ireturn, 1) := by decide +kernel
theorem dX8_added_20 : decode cX8_added 20 = .ok (.iconst 0, 1) := by decide +kernel
theorem dX8_added_21 : decode cX8_added 21 = .ok (.istore_n 3, 1) := by decide +kernel
theorem dX8_added_22 : decode cX8_added 22 = .ok (.iload_n 3, 1) := by decide +kernel
theorem dX8_added_23 : decode cX8_added 23 = .ok (.bipush 9, 2) := by decide +kernel
theorem dX8_added_25 : decode cX8_added 25 = .ok (.if_icmp .gt 46, 3) := by decide +kernel
theorem dX8_added_28 : decode cX8_added 28 = .ok (.aload_n 0, 1) := by decide +kernel
theorem dX8_added_29 : decode cX8_added 29 = .ok (.getfield 79, 3) := by decide +kernel
theorem dX8_added_32 : decode cX8_added 32 = .ok (.iload_n 1, 1) := by decide +kernel
theorem dX8_added_33 : decode cX8_added 33 = .ok (.iload_n 3, 1) := by decide +kernel
theorem dX8_added_34 : decode cX8_added 34 = .ok (.ineg, 1) := by decide +kernel
theorem dX8_added_35 : decode cX8_added 35 = .ok (.invokevirtual 145, 3) := by decide +kernel
theorem dX8_added_38 : decode cX8_added 38 = .ok (.iload_n 2, 1) := by decide +kernel
theorem dX8_added_39 : decode cX8_added 39 = .ok (.if_icmp .ne 8, 3) := by decide +kernel
theorem dX8_added_42 : decode cX8_added 42 = .ok (.bipush 100, 2) := by decide +kernel
theorem dX8_added_44 : decode cX8_added 44 = .ok (.iload_n 3, 1) := by decide +kernel
theorem dX8_added_45 : decode cX8_added 45 = .ok (.isub, 1) := by decide +kernel
theorem dX8_added_46 : decode cX8_added 46 = .ok (.ireturn, 1) := by decide +kernel
theorem dX8_added_47 : decode cX8_added 47 = .ok (.aload_n 0, 1) := by decide +kernel
theorem dX8_added_48 : decode cX8_added 48 = .ok (.getfield 79, 3) := by decide +kernel
theorem dX8_added_51 : decode cX8_added 51 = .ok (.iload_n 1, 1) := by decide +kernel
theorem dX8_added_52 : decode cX8_added 52 = .ok (.iload_n 3, 1) := by decide +kernel
theorem dX8_added_53 : decode cX8_added 53 = .ok (.invokevirtual 145, 3) := by decide +kernel
theorem dX8_added_56 : decode cX8_added 56 = .ok (.iload_n 2, 1) := by decide +kernel
theorem dX8_added_57 : decode cX8_added 57 = .ok (.if_icmp .ne 8, 3) := by decide +kernel
theorem dX8_added_60 : decode cX8_added 60 = .ok (.bipush 100, 2) := by decide +kernel
theorem dX8_added_62 : decode cX8_added 62 = .ok (.iload_n 3, 1) := by decide +kernel
theorem dX8_added_63 : decode cX8_added 63 = .ok (.iadd, 1) := by decide +kernel
theorem dX8_added_64 : decode cX8_added 64 = .ok (.ireturn, 1) := by decide +kernel
theorem dX8_added_65 : decode cX8_added 65 = .ok (.iinc 3 1, 3) := by decide +kernel
theorem dX8_added_68 : decode cX8_added 68 = .ok (.goto (-46), 3) := by decide +kernel
theorem dX8_added_71 : decode cX8_added 71 = .ok (.bipush (-4), 2) := by decide +kernel
theorem dX8_added_73 : decode cX8_added 73 = .ok (.ireturn, 1) := by decide +kernel
theorem dX8_bolts_0 : decode cX8_bolts 0 = .ok (.iload_n 1, 1) := by decide +kernel
theorem dX8_bolts_1 : decode cX8_bolts 1 = .ok (.iconst (-1), 1) := by decide +kernel
theorem dX8_bolts_2 : decode cX8_bolts 2 = .ok (.if_icmp .eq 16, 3) := by decide +kernel
theorem dX8_bolts_5 : decode cX8_bolts 5 = .ok (.aload_n 0, 1) := by decide +kernel
theorem dX8_bolts_6 : decode cX8_bolts 6 = .ok (.getfield 79, 3) := by decide +kernel
theorem dX8_bolts_9 : decode cX8_bolts 9 = .ok (.iload_n 1, 1) := by decide +kernel
theorem dX8_bolts_10 : decode cX8_bolts 10 = .ok (.invokevirtual 125, 3) := by decide +kernel
theorem dX8_bolts_13 : decode cX8_bolts 13 = .ok (.ifCond .ne 5, 3) := by decide +kernel
theorem dX8_bolts_16 : decode cX8_bolts 16 = .ok (.iconst (-1), 1) := by decide +kernel
theorem dX8_bolts_17 : decode cX8_bolts 17 = .ok (.ireturn, 1) := by decide +kernel
theorem dX8_bolts_18 : decode cX8_bolts 18 = .ok (.aload_n 0, 1) := by decide +kernel
theorem dX8_bolts_19 : decode cX8_bolts 19 = .ok (.invokevirtual 155, 3) := by decide +kernel
theorem dX8_bolts_22 : decode cX8_bolts 22 = .ok (.aload_n 0, 1) := by decide +kernel
theorem dX8_bolts_23 : decode cX8_bolts 23 = .ok (.getfield 59, 3) := by decide +kernel
theorem dX8_bolts_26 : decode cX8_bolts 26 = .ok (.aload_n 0, 1) := by decide +kernel
theorem dX8_bolts_27 : decode cX8_bolts 27 = .ok (.getfield 79, 3) := by decide +kernel
theorem dX8_bolts_30 : decode cX8_bolts 30 = .ok (.aload_n 0, 1) := by decide +kernel
theorem dX8_bolts_31 : decode cX8_bolts 31 = .ok (.getfield 63, 3) := by decide +kernel
theorem dX8_bolts_34 : decode cX8_bolts 34 = .ok (.invokevirtual 219, 3) := by decide +kernel
theorem dX8_bolts_37 : decode cX8_bolts 37 = .ok (.istore_n 2, 1) := by decide +kernel
theorem dX8_bolts_38 : decode cX8_bolts 38 = .ok (.iload_n 1, 1) := by decide +kernel
theorem dX8_bolts_39 : decode cX8_bolts 39 = .ok (.iconst (-1), 1) := by decide +kernel
theorem dX8_bolts_40 : decode cX8_bolts 40 = .ok (.if_icmp .eq 9, 3) := by decide +kernel
theorem dX8_bolts_43 : decode cX8_bolts 43 = .ok (.iload_n 2, 1) := by decide +kernel
theorem dX8_bolts_44 : decode cX8_bolts 44 = .ok (.bipush (-4), 2) := by decide +kernel
theorem dX8_bolts_46 : decode cX8_bolts 46 = .ok (.if_icmp .ne 7, 3) := by decide +kernel
theorem dX8_bolts_49 : decode cX8_bolts 49 = .ok (.iload_n 2, 1) := by decide +kernel
theorem dX8_bolts_50 : decode cX8_bolts 50 = .ok (.goto 12, 3) := by decide +kernel
theorem dX8_bolts_53 : decode cX8_bolts 53 = .ok (.aload_n 0, 1) := by decide +kernel
theorem dX8_bolts_54 : decode cX8_bolts 54 = .ok (.getfield 59, 3) := by decide +kernel
theorem dX8_bolts_57 : decode cX8_bolts 57 = .ok (.getfield 222, 3) := by decide +kernel
theorem dX8_bolts_60 : decode cX8_bolts 60 = .ok (.iload_n 1, 1) := by decide +kernel
theorem dX8_bolts_61 : decode cX8_bolts 61 = .ok (.iaload, 1) := by decide +kernel
theorem dX8_bolts_62 : decode cX8_bolts 62 = .ok (.ireturn, 1) := by decide +kernel
theorem dX8_coat_0 : decode cX8_coat 0 = .ok (.iload_n 1, 1) := by decide +kernel
theorem dX8_coat_1 : decode cX8_coat 1 = .ok (.ifCond .eq 10, 3) := by decide +kernel
theorem dX8_coat_4 : decode cX8_coat 4 = .ok (.iload_n 1, 1) := by decide +kernel
theorem dX8_coat_5 : decode cX8_coat 5 = .ok (.iconst 1, 1) := by decide +kernel
theorem dX8_coat_6 : decode cX8_coat 6 = .ok (.if_icmp .eq 5, 3) := by decide +kernel
theorem dX8_coat_9 : decode cX8_coat 9 = .ok (.iconst (-1), 1) := by decide +kernel
theorem dX8_coat_10 : decode cX8_coat 10 = .ok (.ireturn, 1) := by decide +kernel
theorem dX8_coat_11 : decode cX8_coat 11 = .ok (.aload_n 0, 1) := by decide +kernel
theorem dX8_coat_12 : decode cX8_coat 12 = .ok (.invokevirtual 155, 3) := by decide +kernel
theorem dX8_coat_15 : decode cX8_coat 15 = .ok (.iconst 1, 1) := by decide +kernel
theorem dX8_coat_16 : decode cX8_coat 16 = .ok (.aload_n 0, 1) := by decide +kernel
theorem dX8_coat_17 : decode cX8_coat 17 = .ok (.getfield 79, 3) := by decide +kernel
theorem dX8_coat_20 : decode cX8_coat 20 = .ok (.getfield 108, 3) := by decide +kernel
theorem dX8_coat_23 : decode cX8_coat 23 = .ok (.ishl, 1) := by decide +kernel
theorem dX8_coat_24 : decode cX8_coat 24 = .ok (.iconst 1, 1) := by decide +kernel
theorem dX8_coat_25 : decode cX8_coat 25 = .ok (.isub, 1) := by decide +kernel
theorem dX8_coat_26 : decode cX8_coat 26 = .ok (.istore_n 2, 1) := by decide +kernel
theorem dX8_coat_27 : decode cX8_coat 27 = .ok (.aload_n 0, 1) := by decide +kernel
theorem dX8_coat_28 : decode cX8_coat 28 = .ok (.getfield 79, 3) := by decide +kernel
theorem dX8_coat_31 : decode cX8_coat 31 = .ok (.aload_n 0, 1) := by decide +kernel
theorem dX8_coat_32 : decode cX8_coat 32 = .ok (.getfield 63, 3) := by decide +kernel
theorem dX8_coat_35 : decode cX8_coat 35 = .ok (.iload_n 2, 1) := by decide +kernel
theorem dX8_coat_36 : decode cX8_coat 36 = .ok (.invokevirtual 195, 3) := by decide +kernel
theorem dX8_coat_39 : decode cX8_coat 39 = .ok (.istore_n 3, 1) := by decide +kernel
theorem dX8_coat_40 : decode cX8_coat 40 = .ok (.iconst 0, 1) := by decide +kernel
theorem dX8_coat_41 : decode cX8_coat 41 = .ok (.istore 4, 2) := by decide +kernel
theorem dX8_coat_43 : decode cX8_coat 43 = .ok (.iload_n 3, 1) := by decide +kernel
theorem dX8_coat_44 : decode cX8_coat 44 = .ok (.istore 5, 2) := by decide +kernel
theorem dX8_coat_46 : decode cX8_coat 46 = .ok (.iconst 1, 1) := by decide +kernel
theorem dX8_coat_47 : decode cX8_coat 47 = .ok (.istore 6, 2) := by decide +kernel
theorem dX8_coat_49 : decode cX8_coat 49 = .ok (.iload 6, 2) := by decide +kernel
theorem dX8_coat_51 : decode cX8_coat 51 = .ok (.iload_n 2, 1) := by decide +kernel
theorem dX8_coat_52 : decode cX8_coat 52 = .ok (.if_icmp .gt 51, 3) := by decide +kernel
theorem dX8_coat_55 : decode cX8_coat 55 = .ok (.aload_n 0, 1) := by decide +kernel
theorem dX8_coat_56 : decode cX8_coat 56 = .ok (.getfield 79, 3) := by decide +kernel
theorem dX8_coat_59 : decode cX8_coat 59 = .ok (.aload_n 0, 1) := by decide +kernel
theorem dX8_coat_60 : decode cX8_coat 60 = .ok (.getfield 63, 3) := by decide +kernel
theorem dX8_coat_63 : decode cX8_coat 63 = .ok (.iload 6, 2) := by decide +kernel
theorem dX8_coat_65 : decode cX8_coat 65 = .ok (.invokevirtual 195, 3) := by decide +kernel
theorem dX8_coat_68 : decode cX8_coat 68 = .ok (.istore 7, 2) := by decide +kernel
theorem dX8_coat_70 : decode cX8_coat 70 = .ok (.iload_n 3, 1) := by decide +kernel
theorem dX8_coat_71 : decode cX8_coat 71 = .ok (.iload 7, 2) := by decide +kernel
theorem dX8_coat_73 : decode cX8_coat 73 = .ok (.isub, 1) := by decide +kernel
theorem dX8_coat_74 : decode cX8_coat 74 = .ok (.iload 7, 2) := by decide +kernel
theorem dX8_coat_76 : decode cX8_coat 76 = .ok (.isub, 1) := by decide +kernel
theorem dX8_coat_77 : decode cX8_coat 77 = .ok (.invokestatic 225, 3) := by decide +kernel
theorem dX8_coat_80 : decode cX8_coat 80 = .ok (.istore 8, 2) := by decide +kernel
theorem dX8_coat_82 : decode cX8_coat 82 = .ok (.iload 8, 2) := by decide +kernel
theorem dX8_coat_84 : decode cX8_coat 84 = .ok (.iload 5, 2) := by decide +kernel
theorem dX8_coat_86 : decode cX8_coat 86 = .ok (.if_icmp .ge 11, 3) := by decide +kernel
theorem dX8_coat_89 : decode cX8_coat 89 = .ok (.iload 6, 2) := by decide +kernel
theorem dX8_coat_91 : decode cX8_coat 91 = .ok (.istore 4, 2) := by decide +kernel
theorem dX8_coat_93 : decode cX8_coat 93 = .ok (.iload 8, 2) := by decide +kernel
theorem dX8_coat_95 : decode cX8_coat 95 = .ok (.istore 5, 2) := by decide +kernel
theorem dX8_coat_97 : decode cX8_coat 97 = .ok (.iinc 6 1, 3) := by decide +kernel
theorem dX8_coat_100 : decode cX8_coat 100 = .ok (.goto (-51), 3) := by decide +kernel
theorem dX8_coat_103 : decode cX8_coat 103 = .ok (.iload_n 1, 1) := by decide +kernel
theorem dX8_coat_104 : decode cX8_coat 104 = .ok (.ifCond .ne 8, 3) := by decide +kernel
theorem dX8_coat_107 : decode cX8_coat 107 = .ok (.iload 4, 2) := by decide +kernel
theorem dX8_coat_109 : decode cX8_coat 109 = .ok (.goto 5, 3) := by decide +kernel
theorem dX8_coat_112 : decode cX8_coat 112 = .ok (.iload 5, 2) := by decide +kernel
theorem dX8_coat_114 : decode cX8_coat 114 = .ok (.ireturn, 1) := by decide +kernel
theorem dX8_pin_0 : decode cX8_pin 0 = .ok (.aload_n 0, 1) := by decide +kernel
theorem dX8_pin_1 : decode cX8_pin 1 = .ok (.getfield 79, 3) := by decide +kernel
theorem dX8_pin_4 : decode cX8_pin 4 = .ok (.iload_n 1, 1) := by decide +kernel
theorem dX8_pin_5 : decode cX8_pin 5 = .ok (.invokevirtual 152, 3) := by decide +kernel
theorem dX8_pin_8 : decode cX8_pin 8 = .ok (.ifCond .ne 5, 3) := by decide +kernel
theorem dX8_pin_11 : decode cX8_pin 11 = .ok (.iconst (-1), 1) := by decide +kernel
theorem dX8_pin_12 : decode cX8_pin 12 = .ok (.ireturn, 1) := by decide +kernel
theorem dX8_pin_13 : decode cX8_pin 13 = .ok (.aload_n 0, 1) := by decide +kernel
theorem dX8_pin_14 : decode cX8_pin 14 = .ok (.getfield 79, 3) := by decide +kernel
theorem dX8_pin_17 : decode cX8_pin 17 = .ok (.getfield 129, 3) := by decide +kernel
theorem dX8_pin_20 : decode cX8_pin 20 = .ok (.aload_n 0, 1) := by decide +kernel
theorem dX8_pin_21 : decode cX8_pin 21 = .ok (.getfield 79, 3) := by decide +kernel
theorem dX8_pin_24 : decode cX8_pin 24 = .ok (.getfield 230, 3) := by decide +kernel
theorem dX8_pin_27 : decode cX8_pin 27 = .ok (.iload_n 1, 1) := by decide +kernel
theorem dX8_pin_28 : decode cX8_pin 28 = .ok (.iaload, 1) := by decide +kernel
theorem dX8_pin_29 : decode cX8_pin 29 = .ok (.iaload, 1) := by decide +kernel
theorem dX8_pin_30 : decode cX8_pin 30 = .ok (.istore_n 2, 1) := by decide +kernel
theorem dX8_pin_31 : decode cX8_pin 31 = .ok (.aload_n 0, 1) := by decide +kernel
theorem dX8_pin_32 : decode cX8_pin 32 = .ok (.getfield 79, 3) := by decide +kernel
theorem dX8_pin_35 : decode cX8_pin 35 = .ok (.getfield 129, 3) := by decide +kernel
theorem dX8_pin_38 : decode cX8_pin 38 = .ok (.aload_n 0, 1) := by decide +kernel
theorem dX8_pin_39 : decode cX8_pin 39 = .ok (.getfield 79, 3) := by decide +kernel
theorem dX8_pin_42 : decode cX8_pin 42 = .ok (.getfield 233, 3) := by decide +kernel
theorem dX8_pin_45 : decode cX8_pin 45 = .ok (.iload_n 1, 1) := by decide +kernel
theorem dX8_pin_46 : decode cX8_pin 46 = .ok (.iaload, 1) := by decide +kernel
theorem dX8_pin_47 : decode cX8_pin 47 = .ok (.iaload, 1) := by decide +kernel
theorem dX8_pin_48 : decode cX8_pin 48 = .ok (.istore_n 3, 1) := by decide +kernel
theorem dX8_pin_49 : decode cX8_pin 49 = .ok (.iload_n 2, 1) := by decide +kernel
theorem dX8_pin_50 : decode cX8_pin 50 = .ok (.iload_n 3, 1) := by decide +kernel
theorem dX8_pin_51 : decode cX8_pin 51 = .ok (.if_icmp .ne 6, 3) := by decide +kernel
theorem dX8_pin_54 : decode cX8_pin 54 = .ok (.bipush (-2), 2) := by decide +kernel
theorem dX8_pin_56 : decode cX8_pin 56 = .ok (.ireturn, 1) := by decide +kernel
theorem dX8_pin_57 : decode cX8_pin 57 = .ok (.aload_n 0, 1) := by decide +kernel
theorem dX8_pin_58 : decode cX8_pin 58 = .ok (.getfield 45, 3) := by decide +kernel
theorem dX8_pin_61 : decode cX8_pin 61 = .ok (.getfield 120, 3) := by decide +kernel
theorem dX8_pin_64 : decode cX8_pin 64 = .ok (.bipush 12, 2) := by decide +kernel
theorem dX8_pin_66 : decode cX8_pin 66 = .ok (.if_icmp .lt 6, 3) := by decide +kernel
theorem dX8_pin_69 : decode cX8_pin 69 = .ok (.bipush (-3), 2) := by decide +kernel
theorem dX8_pin_71 : decode cX8_pin 71 = .ok (.ireturn, 1) := by decide +kernel
theorem dX8_pin_72 : decode cX8_pin 72 = .ok (.aload_n 0, 1) := by decide +kernel
theorem dX8_pin_73 : decode cX8_pin 73 = .ok (.getfield 45, 3) := by decide +kernel
theorem dX8_pin_76 : decode cX8_pin 76 = .ok (.iload_n 1, 1) := by decide +kernel
theorem dX8_pin_77 : decode cX8_pin 77 = .ok (.aload_n 0, 1) := by decide +kernel
theorem dX8_pin_78 : decode cX8_pin 78 = .ok (.getfield 45, 3) := by decide +kernel
theorem dX8_pin_81 : decode cX8_pin 81 = .ok (.iload_n 1, 1) := by decide +kernel
theorem dX8_pin_82 : decode cX8_pin 82 = .ok (.invokevirtual 236, 3) := by decide +kernel
theorem dX8_pin_85 : decode cX8_pin 85 = .ok (.iconst 2, 1) := by decide +kernel
theorem dX8_pin_86 : decode cX8_pin 86 = .ok (.irem, 1) := by decide +kernel
theorem dX8_pin_87 : decode cX8_pin 87 = .ok (.ifCond .ne 7, 3) := by decide +kernel
theorem dX8_pin_90 : decode cX8_pin 90 = .ok (.iload_n 2, 1) := by decide +kernel
theorem dX8_pin_91 : decode cX8_pin 91 = .ok (.goto 4, 3) := by decide +kernel
theorem dX8_pin_94 : decode cX8_pin 94 = .ok (.iload_n 3, 1) := by decide +kernel
theorem dX8_pin_95 : decode cX8_pin 95 = .ok (.invokevirtual 239, 3) := by decide +kernel
theorem dX8_pin_98 : decode cX8_pin 98 = .ok (.aload_n 0, 1) := by decide +kernel
theorem dX8_pin_99 : decode cX8_pin 99 = .ok (.getfield 45, 3) := by decide +kernel
theorem dX8_pin_102 : decode cX8_pin 102 = .ok (.getfield 120, 3) := by decide +kernel
theorem dX8_pin_105 : decode cX8_pin 105 = .ok (.ireturn, 1) := by decide +kernel
theorem dX8_noPins_0 : decode cX8_noPins 0 = .ok (.aload_n 0, 1) := by decide +kernel
theorem dX8_noPins_1 : decode cX8_noPins 1 = .ok (.getfield 45, 3) := by decide +kernel
theorem dX8_noPins_4 : decode cX8_noPins 4 = .ok (.getfield 120, 3) := by decide +kernel
theorem dX8_noPins_7 : decode cX8_noPins 7 = .ok (.istore_n 1, 1) := by decide +kernel
theorem dX8_noPins_8 : decode cX8_noPins 8 = .ok (.aload_n 0, 1) := by decide +kernel
theorem dX8_noPins_9 : decode cX8_noPins 9 = .ok (.getfield 45, 3) := by decide +kernel
theorem dX8_noPins_12 : decode cX8_noPins 12 = .ok (.iconst 0, 1) := by decide +kernel
theorem dX8_noPins_13 : decode cX8_noPins 13 = .ok (.putfield 120, 3) := by decide +kernel
theorem dX8_noPins_16 : decode cX8_noPins 16 = .ok (.iload_n 1, 1) := by decide +kernel
theorem dX8_noPins_17 : decode cX8_noPins 17 = .ok (.ireturn, 1) := by decide +kernel
theorem dX8_thumb_0 : decode cX8_thumb 0 = .ok (.iload_n 1, 1) := by decide +kernel
theorem dX8_thumb_1 : decode cX8_thumb 1 = .ok (.ifCond .ge 5, 3) := by decide +kernel
theorem dX8_thumb_4 : decode cX8_thumb 4 = .ok (.iconst (-1), 1) := by decide +kernel
theorem dX8_thumb_5 : decode cX8_thumb 5 = .ok (.ireturn, 1) := by decide +kernel
theorem dX8_thumb_6 : decode cX8_thumb 6 = .ok (.iload_n 1, 1) := by decide +kernel
theorem dX8_thumb_7 : decode cX8_thumb 7 = .ok (.aload_n 0, 1) := by decide +kernel
theorem dX8_thumb_8 : decode cX8_thumb 8 = .ok (.getfield 45, 3) := by decide +kernel
theorem dX8_thumb_11 : decode cX8_thumb 11 = .ok (.getfield 120, 3) := by decide +kernel
theorem dX8_thumb_14 : decode cX8_thumb 14 = .ok (.if_icmp .ge 15, 3) := by decide +kernel
theorem dX8_thumb_17 : decode cX8_thumb 17 = .ok (.aload_n 0, 1) := by decide +kernel
theorem dX8_thumb_18 : decode cX8_thumb 18 = .ok (.getfield 45, 3) := by decide +kernel
theorem dX8_thumb_21 : decode cX8_thumb 21 = .ok (.getfield 241, 3) := by decide +kernel
theorem dX8_thumb_24 : decode cX8_thumb 24 = .ok (.iload_n 1, 1) := by decide +kernel
theorem dX8_thumb_25 : decode cX8_thumb 25 = .ok (.iaload, 1) := by decide +kernel
theorem dX8_thumb_26 : decode cX8_thumb 26 = .ok (.goto 5, 3) := by decide +kernel
theorem dX8_thumb_29 : decode cX8_thumb 29 = .ok (.bipush (-4), 2) := by decide +kernel
theorem dX8_thumb_31 : decode cX8_thumb 31 = .ok (.ireturn, 1) := by decide +kernel
theorem dX8_year_0 : decode cX8_year 0 = .ok (.iload_n 1, 1) := by decide +kernel
theorem dX8_year_1 : decode cX8_year 1 = .ok (.ifCond .lt 30, 3) := by decide +kernel
theorem dX8_year_4 : decode cX8_year 4 = .ok (.iload_n 1, 1) := by decide +kernel
theorem dX8_year_5 : decode cX8_year 5 = .ok (.sipush 1000, 3) := by decide +kernel
theorem dX8_year_8 : decode cX8_year 8 = .ok (.if_icmp .ge 23, 3) := by decide +kernel
theorem dX8_year_11 : decode cX8_year 11 = .ok (.iload_n 2, 1) := by decide +kernel
theorem dX8_year_12 : decode cX8_year 12 = .ok (.iconst 1, 1) := by decide +kernel
theorem dX8_year_13 : decode cX8_year 13 = .ok (.if_icmp .lt 18, 3) := by decide +kernel
theorem dX8_year_16 : decode cX8_year 16 = .ok (.iload_n 2, 1) := by decide +kernel
theorem dX8_year_17 : decode cX8_year 17 = .ok (.bipush 100, 2) := by decide +kernel
theorem dX8_year_19 : decode cX8_year 19 = .ok (.if_icmp .gt 12, 3) := by decide +kernel
theorem dX8_year_22 : decode cX8_year 22 = .ok (.iload_n 3, 1) := by decide +kernel
theorem dX8_year_23 : decode cX8_year 23 = .ok (.ifCond .eq 10, 3) := by decide +kernel
theorem dX8_year_26 : decode cX8_year 26 = .ok (.iload_n 3, 1) := by decide +kernel
theorem dX8_year_27 : decode cX8_year 27 = .ok (.iconst 1, 1) := by decide +kernel
theorem dX8_year_28 : decode cX8_year 28 = .ok (.if_icmp .eq 5, 3) := by decide +kernel
theorem dX8_year_31 : decode cX8_year 31 = .ok (.iconst (-1), 1) := by decide +kernel
theorem dX8_year_32 : decode cX8_year 32 = .ok (.ireturn, 1) := by decide +kernel
theorem dX8_year_33 : decode cX8_year 33 = .ok (.iconst 0, 1) := by decide +kernel
theorem dX8_year_34 : decode cX8_year 34 = .ok (.istore 4, 2) := by decide +kernel
theorem dX8_year_36 : decode cX8_year 36 = .ok (.iconst 0, 1) := by decide +kernel
theorem dX8_year_37 : decode cX8_year 37 = .ok (.istore 5, 2) := by decide +kernel
theorem dX8_year_39 : decode cX8_year 39 = .ok (.iload_n 1, 1) := by decide +kernel
theorem dX8_year_40 : decode cX8_year 40 = .ok (.istore 6, 2) := by decide +kernel
theorem dX8_year_42 : decode cX8_year 42 = .ok (.iload 6, 2) := by decide +kernel
theorem dX8_year_44 : decode cX8_year 44 = .ok (.iload_n 1, 1) := by decide +kernel
theorem dX8_year_45 : decode cX8_year 45 = .ok (.iload_n 2, 1) := by decide +kernel
theorem dX8_year_46 : decode cX8_year 46 = .ok (.iadd, 1) := by decide +kernel
theorem dX8_year_47 : decode cX8_year 47 = .ok (.if_icmp .ge 59, 3) := by decide +kernel
theorem dX8_year_50 : decode cX8_year 50 = .ok (.aload_n 0, 1) := by decide +kernel
theorem dX8_year_51 : decode cX8_year 51 = .ok (.iload 6, 2) := by decide +kernel
theorem dX8_year_53 : decode cX8_year 53 = .ok (.sipush 1000, 3) := by decide +kernel
theorem dX8_year_56 : decode cX8_year 56 = .ok (.irem, 1) := by decide +kernel
theorem dX8_year_57 : decode cX8_year 57 = .ok (.invokevirtual 242, 3) := by decide +kernel
theorem dX8_year_60 : decode cX8_year 60 = .ok (.iload 4, 2) := by decide +kernel
theorem dX8_year_62 : decode cX8_year 62 = .ok (.aload_n 0, 1) := by decide +kernel
theorem dX8_year_63 : decode cX8_year 63 = .ok (.getfield 79, 3) := by decide +kernel
theorem dX8_year_66 : decode cX8_year 66 = .ok (.aload_n 0, 1) := by decide +kernel
theorem dX8_year_67 : decode cX8_year 67 = .ok (.getfield 70, 3) := by decide +kernel
theorem dX8_year_70 : decode cX8_year 70 = .ok (.invokevirtual 166, 3) := by decide +kernel
theorem dX8_year_73 : decode cX8_year 73 = .ok (.ifCond .eq 7, 3) := by decide +kernel
theorem dX8_year_76 : decode cX8_year 76 = .ok (.iconst 1, 1) := by decide +kernel
theorem dX8_year_77 : decode cX8_year 77 = .ok (.goto 4, 3) := by decide +kernel
theorem dX8_year_80 : decode cX8_year 80 = .ok (.iconst 0, 1) := by decide +kernel
theorem dX8_year_81 : decode cX8_year 81 = .ok (.iadd, 1) := by decide +kernel
theorem dX8_year_82 : decode cX8_year 82 = .ok (.istore 4, 2) := by decide +kernel
theorem dX8_year_84 : decode cX8_year 84 = .ok (.iload 5, 2) := by decide +kernel
theorem dX8_year_86 : decode cX8_year 86 = .ok (.aload_n 0, 1) := by decide +kernel
theorem dX8_year_87 : decode cX8_year 87 = .ok (.getfield 79, 3) := by decide +kernel
theorem dX8_year_90 : decode cX8_year 90 = .ok (.aload_n 0, 1) := by decide +kernel
theorem dX8_year_91 : decode cX8_year 91 = .ok (.getfield 70, 3) := by decide +kernel
theorem dX8_year_94 : decode cX8_year 94 = .ok (.invokevirtual 158, 3) := by decide +kernel
theorem dX8_year_97 : decode cX8_year 97 = .ok (.iadd, 1) := by decide +kernel
theorem dX8_year_98 : decode cX8_year 98 = .ok (.istore 5, 2) := by decide +kernel
theorem dX8_year_100 : decode cX8_year 100 = .ok (.iinc 6 1, 3) := by decide +kernel
theorem dX8_year_103 : decode cX8_year 103 = .ok (.goto (-61), 3) := by decide +kernel
theorem dX8_year_106 : decode cX8_year 106 = .ok (.iload_n 3, 1) := by decide +kernel
theorem dX8_year_107 : decode cX8_year 107 = .ok (.ifCond .ne 8, 3) := by decide +kernel
theorem dX8_year_110 : decode cX8_year 110 = .ok (.iload 4, 2) := by decide +kernel
theorem dX8_year_112 : decode cX8_year 112 = .ok (.goto 5, 3) := by decide +kernel
theorem dX8_year_115 : decode cX8_year 115 = .ok (.iload 5, 2) := by decide +kernel
theorem dX8_year_117 : decode cX8_year 117 = .ok (.ireturn, 1) := by decide +kernel
theorem dX8_keep_0 : decode cX8_keep 0 = .ok (.aload_n 0, 1) := by decide +kernel
theorem dX8_keep_1 : decode cX8_keep 1 = .ok (.getfield 32, 3) := by decide +kernel
theorem dX8_keep_4 : decode cX8_keep 4 = .ok (.getfield 181, 3) := by decide +kernel
theorem dX8_keep_7 : decode cX8_keep 7 = .ok (.iconst 2, 1) := by decide +kernel
theorem dX8_keep_8 : decode cX8_keep 8 = .ok (.if_icmp .lt 6, 3) := by decide +kernel
theorem dX8_keep_11 : decode cX8_keep 11 = .ok (.bipush (-3), 2) := by decide +kernel
theorem dX8_keep_13 : decode cX8_keep 13 = .ok (.ireturn, 1) := by decide +kernel
theorem dX8_keep_14 : decode cX8_keep 14 = .ok (.aload_n 0, 1) := by decide +kernel
theorem dX8_keep_15 : decode cX8_keep 15 = .ok (.getfield 32, 3) := by decide +kernel
theorem dX8_keep_18 : decode cX8_keep 18 = .ok (.aload_n 0, 1) := by decide +kernel
theorem dX8_keep_19 : decode cX8_keep 19 = .ok (.getfield 19, 3) := by decide +kernel
theorem dX8_keep_22 : decode cX8_keep 22 = .ok (.invokevirtual 170, 3) := by decide +kernel
theorem dX8_keep_25 : decode cX8_keep 25 = .ok (.aload_n 0, 1) := by decide +kernel
theorem dX8_keep_26 : decode cX8_keep 26 = .ok (.getfield 32, 3) := by decide +kernel
theorem dX8_keep_29 : decode cX8_keep 29 = .ok (.getfield 181, 3) := by decide +kernel
theorem dX8_keep_32 : decode cX8_keep 32 = .ok (.ireturn, 1) := by decide +kernel
theorem dX8_back_0 : decode cX8_back 0 = .ok (.aload_n 0, 1) := by decide +kernel
theorem dX8_back_1 : decode cX8_back 1 = .ok (.getfield 32, 3) := by decide +kernel
theorem dX8_back_4 : decode cX8_back 4 = .ok (.getfield 181, 3) := by decide +kernel
theorem dX8_back_7 : decode cX8_back 7 = .ok (.ifCond .ne 6, 3) := by decide +kernel
theorem dX8_back_10 : decode cX8_back 10 = .ok (.bipush (-2), 2) := by decide +kernel
theorem dX8_back_12 : decode cX8_back 12 = .ok (.ireturn, 1) := by decide +kernel
theorem dX8_back_13 : decode cX8_back 13 = .ok (.aload_n 0, 1) := by decide +kernel
theorem dX8_back_14 : decode cX8_back 14 = .ok (.getfield 32, 3) := by decide +kernel
theorem dX8_back_17 : decode cX8_back 17 = .ok (.aload_n 0, 1) := by decide +kernel
theorem dX8_back_18 : decode cX8_back 18 = .ok (.getfield 19, 3) := by decide +kernel
theorem dX8_back_21 : decode cX8_back 21 = .ok (.invokevirtual 182, 3) := by decide +kernel
theorem dX8_back_24 : decode cX8_back 24 = .ok (.aload_n 0, 1) := by decide +kernel
theorem dX8_back_25 : decode cX8_back 25 = .ok (.getfield 28, 3) := by decide +kernel
theorem dX8_back_28 : decode cX8_back 28 = .ok (.invokevirtual 114, 3) := by decide +kernel
theorem dX8_back_31 : decode cX8_back 31 = .ok (.aload_n 0, 1) := by decide +kernel
theorem dX8_back_32 : decode cX8_back 32 = .ok (.getfield 32, 3) := by decide +kernel
theorem dX8_back_35 : decode cX8_back 35 = .ok (.getfield 181, 3) := by decide +kernel
theorem dX8_back_38 : decode cX8_back 38 = .ok (.ireturn, 1) := by decide +kernel
theorem dX8_count_0 : decode cX8_count 0 = .ok (.iload_n 1, 1) := by decide +kernel
theorem dX8_count_1 : decode cX8_count 1 = .ok (.tableswitch 111 0 7 #[47, 55, 63, 71, 79, 87, 95, 103], 47) := by decide +kernel
theorem dX8_count_48 : decode cX8_count 48 = .ok (.aload_n 0, 1) := by decide +kernel
theorem dX8_count_49 : decode cX8_count 49 = .ok (.getfield 79, 3) := by decide +kernel
theorem dX8_count_52 : decode cX8_count 52 = .ok (.getfield 245, 3) := by decide +kernel
theorem dX8_count_55 : decode cX8_count 55 = .ok (.ireturn, 1) := by decide +kernel
theorem dX8_count_56 : decode cX8_count 56 = .ok (.aload_n 0, 1) := by decide +kernel
theorem dX8_count_57 : decode cX8_count 57 = .ok (.getfield 79, 3) := by decide +kernel
theorem dX8_count_60 : decode cX8_count 60 = .ok (.getfield 108, 3) := by decide +kernel
theorem dX8_count_63 : decode cX8_count 63 = .ok (.ireturn, 1) := by decide +kernel
theorem dX8_count_64 : decode cX8_count 64 = .ok (.aload_n 0, 1) := by decide +kernel
theorem dX8_count_65 : decode cX8_count 65 = .ok (.getfield 79, 3) := by decide +kernel
theorem dX8_count_68 : decode cX8_count 68 = .ok (.getfield 248, 3) := by decide +kernel
theorem dX8_count_71 : decode cX8_count 71 = .ok (.ireturn, 1) := by decide +kernel
theorem dX8_count_72 : decode cX8_count 72 = .ok (.aload_n 0, 1) := by decide +kernel
theorem dX8_count_73 : decode cX8_count 73 = .ok (.getfield 38, 3) := by decide +kernel
theorem dX8_count_76 : decode cX8_count 76 = .ok (.getfield 117, 3) := by decide +kernel
theorem dX8_count_79 : decode cX8_count 79 = .ok (.ireturn, 1) := by decide +kernel
theorem dX8_count_80 : decode cX8_count 80 = .ok (.aload_n 0, 1) := by decide +kernel
theorem dX8_count_81 : decode cX8_count 81 = .ok (.getfield 45, 3) := by decide +kernel
theorem dX8_count_84 : decode cX8_count 84 = .ok (.getfield 120, 3) := by decide +kernel
theorem dX8_count_87 : decode cX8_count 87 = .ok (.ireturn, 1) := by decide +kernel
theorem dX8_count_88 : decode cX8_count 88 = .ok (.aload_n 0, 1) := by decide +kernel
theorem dX8_count_89 : decode cX8_count 89 = .ok (.getfield 28, 3) := by decide +kernel
theorem dX8_count_92 : decode cX8_count 92 = .ok (.getfield 181, 3) := by decide +kernel
theorem dX8_count_95 : decode cX8_count 95 = .ok (.ireturn, 1) := by decide +kernel
theorem dX8_count_96 : decode cX8_count 96 = .ok (.aload_n 0, 1) := by decide +kernel
theorem dX8_count_97 : decode cX8_count 97 = .ok (.getfield 32, 3) := by decide +kernel
theorem dX8_count_100 : decode cX8_count 100 = .ok (.getfield 181, 3) := by decide +kernel
theorem dX8_count_103 : decode cX8_count 103 = .ok (.ireturn, 1) := by decide +kernel
theorem dX8_count_104 : decode cX8_count 104 = .ok (.aload_n 0, 1) := by decide +kernel
theorem dX8_count_105 : decode cX8_count 105 = .ok (.getfield 10, 3) := by decide +kernel
theorem dX8_count_108 : decode cX8_count 108 = .ok (.getfield 105, 3) := by decide +kernel
theorem dX8_count_111 : decode cX8_count 111 = .ok (.ireturn, 1) := by decide +kernel
theorem dX8_count_112 : decode cX8_count 112 = .ok (.iconst (-1), 1) := by decide +kernel
theorem dX8_count_113 : decode cX8_count 113 = .ok (.ireturn, 1) := by decide +kernel
theorem dX8_isLength_0 : decode cX8_isLength 0 = .ok (.iload_n 0, 1) := by decide +kernel
theorem dX8_isLength_1 : decode cX8_isLength 1 = .ok (.iconst 1, 1) := by decide +kernel
theorem dX8_isLength_2 : decode cX8_isLength 2 = .ok (.if_icmp .lt 14, 3) := by decide +kernel
theorem dX8_isLength_5 : decode cX8_isLength 5 = .ok (.iload_n 0, 1) := by decide +kernel
theorem dX8_isLength_6 : decode cX8_isLength 6 = .ok (.sipush 299, 3) := by decide +kernel
theorem dX8_isLength_9 : decode cX8_isLength 9 = .ok (.if_icmp .gt 7, 3) := by decide +kernel
theorem dX8_isLength_12 : decode cX8_isLength 12 = .ok (.iconst 1, 1) := by decide +kernel
theorem dX8_isLength_13 : decode cX8_isLength 13 = .ok (.goto 4, 3) := by decide +kernel
theorem dX8_isLength_16 : decode cX8_isLength 16 = .ok (.iconst 0, 1) := by decide +kernel
theorem dX8_isLength_17 : decode cX8_isLength 17 = .ok (.ireturn, 1) := by decide +kernel
theorem dX8_slipNow_0 : decode cX8_slipNow 0 = .ok (.iload_n 1, 1) := by decide +kernel
theorem dX8_slipNow_1 : decode cX8_slipNow 1 = .ok (.aload_n 0, 1) := by decide +kernel
theorem dX8_slipNow_2 : decode cX8_slipNow 2 = .ok (.getfield 19, 3) := by decide +kernel
theorem dX8_slipNow_5 : decode cX8_slipNow 5 = .ok (.iload_n 1, 1) := by decide +kernel
theorem dX8_slipNow_6 : decode cX8_slipNow 6 = .ok (.invokevirtual 138, 3) := by decide +kernel
theorem dX8_slipNow_9 : decode cX8_slipNow 9 = .ok (.aload_n 0, 1) := by decide +kernel
theorem dX8_slipNow_10 : decode cX8_slipNow 10 = .ok (.getfield 79, 3) := by decide +kernel
theorem dX8_slipNow_13 : decode cX8_slipNow 13 = .ok (.getfield 251, 3) := by decide +kernel
theorem dX8_slipNow_16 : decode cX8_slipNow 16 = .ok (.invokestatic 254, 3) := by decide +kernel
theorem dX8_slipNow_19 : decode cX8_slipNow 19 = .ok (.ireturn, 1) := by decide +kernel
theorem dX8_lengthNow_0 : decode cX8_lengthNow 0 = .ok (.aload_n 0, 1) := by decide +kernel
theorem dX8_lengthNow_1 : decode cX8_lengthNow 1 = .ok (.getfield 79, 3) := by decide +kernel
theorem dX8_lengthNow_4 : decode cX8_lengthNow 4 = .ok (.iload_n 1, 1) := by decide +kernel
theorem dX8_lengthNow_5 : decode cX8_lengthNow 5 = .ok (.aload_n 0, 1) := by decide +kernel
theorem dX8_lengthNow_6 : decode cX8_lengthNow 6 = .ok (.iload_n 1, 1) := by decide +kernel
theorem dX8_lengthNow_7 : decode cX8_lengthNow 7 = .ok (.invokevirtual 142, 3) := by decide +kernel
theorem dX8_lengthNow_10 : decode cX8_lengthNow 10 = .ok (.invokevirtual 145, 3) := by decide +kernel
theorem dX8_lengthNow_13 : decode cX8_lengthNow 13 = .ok (.aload_n 0, 1) := by decide +kernel
theorem dX8_lengthNow_14 : decode cX8_lengthNow 14 = .ok (.getfield 19, 3) := by decide +kernel
theorem dX8_lengthNow_17 : decode cX8_lengthNow 17 = .ok (.getfield 178, 3) := by decide +kernel
theorem dX8_lengthNow_20 : decode cX8_lengthNow 20 = .ok (.iload_n 1, 1) := by decide +kernel
theorem dX8_lengthNow_21 : decode cX8_lengthNow 21 = .ok (.iaload, 1) := by decide +kernel
theorem dX8_lengthNow_22 : decode cX8_lengthNow 22 = .ok (.iadd, 1) := by decide +kernel
theorem dX8_lengthNow_23 : decode cX8_lengthNow 23 = .ok (.ireturn, 1) := by decide +kernel
theorem dX8_measureNow_0 : decode cX8_measureNow 0 = .ok (.iconst 0, 1) := by decide +kernel
theorem dX8_measureNow_1 : decode cX8_measureNow 1 = .ok (.istore_n 1, 1) := by decide +kernel
theorem dX8_measureNow_2 : decode cX8_measureNow 2 = .ok (.iload_n 1, 1) := by decide +kernel
theorem dX8_measureNow_3 : decode cX8_measureNow 3 = .ok (.aload_n 0, 1) := by decide +kernel
theorem dX8_measureNow_4 : decode cX8_measureNow 4 = .ok (.getfield 79, 3) := by decide +kernel
theorem dX8_measureNow_7 : decode cX8_measureNow 7 = .ok (.getfield 108, 3) := by decide +kernel
theorem dX8_measureNow_10 : decode cX8_measureNow 10 = .ok (.if_icmp .ge 20, 3) := by decide +kernel
theorem dX8_measureNow_13 : decode cX8_measureNow 13 = .ok (.aload_n 0, 1) := by decide +kernel
theorem dX8_measureNow_14 : decode cX8_measureNow 14 = .ok (.getfield 63, 3) := by decide +kernel
theorem dX8_measureNow_17 : decode cX8_measureNow 17 = .ok (.iload_n 1, 1) := by decide +kernel
theorem dX8_measureNow_18 : decode cX8_measureNow 18 = .ok (.aload_n 0, 1) := by decide +kernel
theorem dX8_measureNow_19 : decode cX8_measureNow 19 = .ok (.iload_n 1, 1) := by decide +kernel
theorem dX8_measureNow_20 : decode cX8_measureNow 20 = .ok (.invokevirtual 149, 3) := by decide +kernel
theorem dX8_measureNow_23 : decode cX8_measureNow 23 = .ok (.iastore, 1) := by decide +kernel
theorem dX8_measureNow_24 : decode cX8_measureNow 24 = .ok (.iinc 1 1, 3) := by decide +kernel
theorem dX8_measureNow_27 : decode cX8_measureNow 27 = .ok (.goto (-25), 3) := by decide +kernel
theorem dX8_measureNow_30 : decode cX8_measureNow 30 = .ok (.return_, 1) := by decide +kernel
theorem dX8_cutByBoy_0 : decode cX8_cutByBoy 0 = .ok (.iconst 0, 1) := by decide +kernel
theorem dX8_cutByBoy_1 : decode cX8_cutByBoy 1 = .ok (.istore_n 2, 1) := by decide +kernel
theorem dX8_cutByBoy_2 : decode cX8_cutByBoy 2 = .ok (.iload_n 2, 1) := by decide +kernel
theorem dX8_cutByBoy_3 : decode cX8_cutByBoy 3 = .ok (.aload_n 0, 1) := by decide +kernel
theorem dX8_cutByBoy_4 : decode cX8_cutByBoy 4 = .ok (.getfield 79, 3) := by decide +kernel
theorem dX8_cutByBoy_7 : decode cX8_cutByBoy 7 = .ok (.getfield 108, 3) := by decide +kernel
theorem dX8_cutByBoy_10 : decode cX8_cutByBoy 10 = .ok (.if_icmp .ge 36, 3) := by decide +kernel
theorem dX8_cutByBoy_13 : decode cX8_cutByBoy 13 = .ok (.aload_n 0, 1) := by decide +kernel
theorem dX8_cutByBoy_14 : decode cX8_cutByBoy 14 = .ok (.getfield 70, 3) := by decide +kernel
theorem dX8_cutByBoy_17 : decode cX8_cutByBoy 17 = .ok (.iload_n 2, 1) := by decide +kernel
theorem dX8_cutByBoy_18 : decode cX8_cutByBoy 18 = .ok (.aload_n 0, 1) := by decide +kernel
theorem dX8_cutByBoy_19 : decode cX8_cutByBoy 19 = .ok (.getfield 79, 3) := by decide +kernel
theorem dX8_cutByBoy_22 : decode cX8_cutByBoy 22 = .ok (.iload_n 2, 1) := by decide +kernel
theorem dX8_cutByBoy_23 : decode cX8_cutByBoy 23 = .ok (.iload_n 2, 1) := by decide +kernel
theorem dX8_cutByBoy_24 : decode cX8_cutByBoy 24 = .ok (.aload_n 0, 1) := by decide +kernel
theorem dX8_cutByBoy_25 : decode cX8_cutByBoy 25 = .ok (.getfield 19, 3) := by decide +kernel
theorem dX8_cutByBoy_28 : decode cX8_cutByBoy 28 = .ok (.iload_n 2, 1) := by decide +kernel
theorem dX8_cutByBoy_29 : decode cX8_cutByBoy 29 = .ok (.invokevirtual 138, 3) := by decide +kernel
theorem dX8_cutByBoy_32 : decode cX8_cutByBoy 32 = .ok (.iload_n 1, 1) := by decide +kernel
theorem dX8_cutByBoy_33 : decode cX8_cutByBoy 33 = .ok (.invokestatic 254, 3) := by decide +kernel
theorem dX8_cutByBoy_36 : decode cX8_cutByBoy 36 = .ok (.invokevirtual 145, 3) := by decide +kernel
theorem dX8_cutByBoy_39 : decode cX8_cutByBoy 39 = .ok (.iastore, 1) := by decide +kernel
theorem dX8_cutByBoy_40 : decode cX8_cutByBoy 40 = .ok (.iinc 2 1, 3) := by decide +kernel
theorem dX8_cutByBoy_43 : decode cX8_cutByBoy 43 = .ok (.goto (-41), 3) := by decide +kernel
theorem dX8_cutByBoy_46 : decode cX8_cutByBoy 46 = .ok (.return_, 1) := by decide +kernel
theorem dX8_isClosedByBribing_0 : decode cX8_isClosedByBribing 0 = .ok (.iconst 0, 1) := by decide +kernel
theorem dX8_isClosedByBribing_1 : decode cX8_isClosedByBribing 1 = .ok (.istore_n 2, 1) := by decide +kernel
theorem dX8_isClosedByBribing_2 : decode cX8_isClosedByBribing 2 = .ok (.iload_n 2, 1) := by decide +kernel
theorem dX8_isClosedByBribing_3 : decode cX8_isClosedByBribing 3 = .ok (.aload_n 0, 1) := by decide +kernel
theorem dX8_isClosedByBribing_4 : decode cX8_isClosedByBribing 4 = .ok (.getfield 79, 3) := by decide +kernel
theorem dX8_isClosedByBribing_7 : decode cX8_isClosedByBribing 7 = .ok (.getfield 108, 3) := by decide +kernel
theorem dX8_isClosedByBribing_10 : decode cX8_isClosedByBribing 10 = .ok (.if_icmp .ge 39, 3) := by decide +kernel
theorem dX8_isClosedByBribing_13 : decode cX8_isClosedByBribing 13 = .ok (.aload_n 0, 1) := by decide +kernel
theorem dX8_isClosedByBribing_14 : decode cX8_isClosedByBribing 14 = .ok (.getfield 63, 3) := by decide +kernel
theorem dX8_isClosedByBribing_17 : decode cX8_isClosedByBribing 17 = .ok (.iload_n 2, 1) := by decide +kernel
theorem dX8_isClosedByBribing_18 : decode cX8_isClosedByBribing 18 = .ok (.iload_n 1, 1) := by decide +kernel
theorem dX8_isClosedByBribing_19 : decode cX8_isClosedByBribing 19 = .ok (.iload_n 2, 1) := by decide +kernel
theorem dX8_isClosedByBribing_20 : decode cX8_isClosedByBribing 20 = .ok (.ishr, 1) := by decide +kernel
theorem dX8_isClosedByBribing_21 : decode cX8_isClosedByBribing 21 = .ok (.iconst 1, 1) := by decide +kernel
theorem dX8_isClosedByBribing_22 : decode cX8_isClosedByBribing 22 = .ok (.iand, 1) := by decide +kernel
theorem dX8_isClosedByBribing_23 : decode cX8_isClosedByBribing 23 = .ok (.iconst 1, 1) := by decide +kernel
theorem dX8_isClosedByBribing_24 : decode cX8_isClosedByBribing 24 = .ok (.if_icmp .ne 12, 3) := by decide +kernel
theorem dX8_isClosedByBribing_27 : decode cX8_isClosedByBribing 27 = .ok (.aload_n 0, 1) := by decide +kernel
theorem dX8_isClosedByBribing_28 : decode cX8_isClosedByBribing 28 = .ok (.getfield 67, 3) := by decide +kernel
theorem dX8_isClosedByBribing_31 : decode cX8_isClosedByBribing 31 = .ok (.iload_n 2, 1) := by decide +kernel
theorem dX8_isClosedByBribing_32 : decode cX8_isClosedByBribing 32 = .ok (.iaload, 1) := by decide +kernel
theorem dX8_isClosedByBribing_33 : decode cX8_isClosedByBribing 33 = .ok (.goto 9, 3) := by decide +kernel
theorem dX8_isClosedByBribing_36 : decode cX8_isClosedByBribing 36 = .ok (.aload_n 0, 1) := by decide +kernel
theorem dX8_isClosedByBribing_37 : decode cX8_isClosedByBribing 37 = .ok (.getfield 70, 3) := by decide +kernel
theorem dX8_isClosedByBribing_40 : decode cX8_isClosedByBribing 40 = .ok (.iload_n 2, 1) := by decide +kernel
theorem dX8_isClosedByBribing_41 : decode cX8_isClosedByBribing 41 = .ok (.iaload, 1) := by decide +kernel
theorem dX8_isClosedByBribing_42 : decode cX8_isClosedByBribing 42 = .ok (.iastore, 1) := by decide +kernel
theorem dX8_isClosedByBribing_43 : decode cX8_isClosedByBribing 43 = .ok (.iinc 2 1, 3) := by decide +kernel
theorem dX8_isClosedByBribing_46 : decode cX8_isClosedByBribing 46 = .ok (.goto (-44), 3) := by decide +kernel
theorem dX8_isClosedByBribing_49 : decode cX8_isClosedByBribing 49 = .ok (.aload_n 0, 1) := by decide +kernel
theorem dX8_isClosedByBribing_50 : decode cX8_isClosedByBribing 50 = .ok (.getfield 79, 3) := by decide +kernel
theorem dX8_isClosedByBribing_53 : decode cX8_isClosedByBribing 53 = .ok (.aload_n 0, 1) := by decide +kernel
theorem dX8_isClosedByBribing_54 : decode cX8_isClosedByBribing 54 = .ok (.getfield 63, 3) := by decide +kernel
theorem dX8_isClosedByBribing_57 : decode cX8_isClosedByBribing 57 = .ok (.invokevirtual 166, 3) := by decide +kernel
theorem dX8_isClosedByBribing_60 : decode cX8_isClosedByBribing 60 = .ok (.ireturn, 1) := by decide +kernel
theorem dX8_levelSeams_0 : decode cX8_levelSeams 0 = .ok (.iconst 0, 1) := by decide +kernel
theorem dX8_levelSeams_1 : decode cX8_levelSeams 1 = .ok (.istore_n 1, 1) := by decide +kernel
theorem dX8_levelSeams_2 : decode cX8_levelSeams 2 = .ok (.iload_n 1, 1) := by decide +kernel
theorem dX8_levelSeams_3 : decode cX8_levelSeams 3 = .ok (.aload_n 0, 1) := by decide +kernel
theorem dX8_levelSeams_4 : decode cX8_levelSeams 4 = .ok (.getfield 79, 3) := by decide +kernel
theorem dX8_levelSeams_7 : decode cX8_levelSeams 7 = .ok (.getfield 108, 3) := by decide +kernel
theorem dX8_levelSeams_10 : decode cX8_levelSeams 10 = .ok (.if_icmp .ge 21, 3) := by decide +kernel
theorem dX8_levelSeams_13 : decode cX8_levelSeams 13 = .ok (.aload_n 0, 1) := by decide +kernel
theorem dX8_levelSeams_14 : decode cX8_levelSeams 14 = .ok (.getfield 73, 3) := by decide +kernel
theorem dX8_levelSeams_17 : decode cX8_levelSeams 17 = .ok (.iload_n 1, 1) := by decide +kernel
theorem dX8_levelSeams_18 : decode cX8_levelSeams 18 = .ok (.aload_n 0, 1) := by decide +kernel
theorem dX8_levelSeams_19 : decode cX8_levelSeams 19 = .ok (.getfield 63, 3) := by decide +kernel
theorem dX8_levelSeams_22 : decode cX8_levelSeams 22 = .ok (.iload_n 1, 1) := by decide +kernel
theorem dX8_levelSeams_23 : decode cX8_levelSeams 23 = .ok (.iaload, 1) := by decide +kernel
theorem dX8_levelSeams_24 : decode cX8_levelSeams 24 = .ok (.iastore, 1) := by decide +kernel
theorem dX8_levelSeams_25 : decode cX8_levelSeams 25 = .ok (.iinc 1 1, 3) := by decide +kernel
theorem dX8_levelSeams_28 : decode cX8_levelSeams 28 = .ok (.goto (-26), 3) := by decide +kernel
theorem dX8_levelSeams_31 : decode cX8_levelSeams 31 = .ok (.iconst 1, 1) := by decide +kernel
theorem dX8_levelSeams_32 : decode cX8_levelSeams 32 = .ok (.istore_n 1, 1) := by decide +kernel
theorem dX8_levelSeams_33 : decode cX8_levelSeams 33 = .ok (.iload_n 1, 1) := by decide +kernel
theorem dX8_levelSeams_34 : decode cX8_levelSeams 34 = .ok (.aload_n 0, 1) := by decide +kernel
theorem dX8_levelSeams_35 : decode cX8_levelSeams 35 = .ok (.getfield 79, 3) := by decide +kernel
theorem dX8_levelSeams_38 : decode cX8_levelSeams 38 = .ok (.getfield 108, 3) := by decide +kernel
theorem dX8_levelSeams_41 : decode cX8_levelSeams 41 = .ok (.if_icmp .ge 90, 3) := by decide +kernel
theorem dX8_levelSeams_44 : decode cX8_levelSeams 44 = .ok (.iconst 0, 1) := by decide +kernel
theorem dX8_levelSeams_45 : decode cX8_levelSeams 45 = .ok (.istore_n 2, 1) := by decide +kernel
theorem dX8_levelSeams_46 : decode cX8_levelSeams 46 = .ok (.iload_n 2, 1) := by decide +kernel
theorem dX8_levelSeams_47 : decode cX8_levelSeams 47 = .ok (.aload_n 0, 1) := by decide +kernel
theorem dX8_levelSeams_48 : decode cX8_levelSeams 48 = .ok (.getfield 79, 3) := by decide +kernel
theorem dX8_levelSeams_51 : decode cX8_levelSeams 51 = .ok (.getfield 248, 3) := by decide +kernel
theorem dX8_levelSeams_54 : decode cX8_levelSeams 54 = .ok (.if_icmp .ge 71, 3) := by decide +kernel
theorem dX8_levelSeams_57 : decode cX8_levelSeams 57 = .ok (.aload_n 0, 1) := by decide +kernel
theorem dX8_levelSeams_58 : decode cX8_levelSeams 58 = .ok (.getfield 73, 3) := by decide +kernel
theorem dX8_levelSeams_61 : decode cX8_levelSeams 61 = .ok (.aload_n 0, 1) := by decide +kernel
theorem dX8_levelSeams_62 : decode cX8_levelSeams 62 = .ok (.getfield 79, 3) := by decide +kernel
theorem dX8_levelSeams_65 : decode cX8_levelSeams 65 = .ok (.getfield 230, 3) := by decide +kernel
theorem dX8_levelSeams_68 : decode cX8_levelSeams 68 = .ok (.iload_n 2, 1) := by decide +kernel
theorem dX8_levelSeams_69 : decode cX8_levelSeams 69 = .ok (.iaload, 1) := by decide +kernel
theorem dX8_levelSeams_70 : decode cX8_levelSeams 70 = .ok (.iaload, 1) := by decide +kernel
theorem dX8_levelSeams_71 : decode cX8_levelSeams 71 = .ok (.aload_n 0, 1) := by decide +kernel
theorem dX8_levelSeams_72 : decode cX8_levelSeams 72 = .ok (.getfield 73, 3) := by decide +kernel
theorem dX8_levelSeams_75 : decode cX8_levelSeams 75 = .ok (.aload_n 0, 1) := by decide +kernel
theorem dX8_levelSeams_76 : decode cX8_levelSeams 76 = .ok (.getfield 79, 3) := by decide +kernel
theorem dX8_levelSeams_79 : decode cX8_levelSeams 79 = .ok (.getfield 233, 3) := by decide +kernel
theorem dX8_levelSeams_82 : decode cX8_levelSeams 82 = .ok (.iload_n 2, 1) := by decide +kernel
theorem dX8_levelSeams_83 : decode cX8_levelSeams 83 = .ok (.iaload, 1) := by decide +kernel
theorem dX8_levelSeams_84 : decode cX8_levelSeams 84 = .ok (.iaload, 1) := by decide +kernel
theorem dX8_levelSeams_85 : decode cX8_levelSeams 85 = .ok (.invokestatic 258, 3) := by decide +kernel
theorem dX8_levelSeams_88 : decode cX8_levelSeams 88 = .ok (.istore_n 3, 1) := by decide +kernel
theorem dX8_levelSeams_89 : decode cX8_levelSeams 89 = .ok (.aload_n 0, 1) := by decide +kernel
theorem dX8_levelSeams_90 : decode cX8_levelSeams 90 = .ok (.getfield 73, 3) := by decide +kernel
theorem dX8_levelSeams_93 : decode cX8_levelSeams 93 = .ok (.aload_n 0, 1) := by decide +kernel
theorem dX8_levelSeams_94 : decode cX8_levelSeams 94 = .ok (.getfield 79, 3) := by decide +kernel
theorem dX8_levelSeams_97 : decode cX8_levelSeams 97 = .ok (.getfield 230, 3) := by decide +kernel
theorem dX8_levelSeams_100 : decode cX8_levelSeams 100 = .ok (.iload_n 2, 1) := by decide +kernel
theorem dX8_levelSeams_101 : decode cX8_levelSeams 101 = .ok (.iaload, 1) := by decide +kernel
theorem dX8_levelSeams_102 : decode cX8_levelSeams 102 = .ok (.iload_n 3, 1) := by decide +kernel
theorem dX8_levelSeams_103 : decode cX8_levelSeams 103 = .ok (.iastore, 1) := by decide +kernel
theorem dX8_levelSeams_104 : decode cX8_levelSeams 104 = .ok (.aload_n 0, 1) := by decide +kernel
theorem dX8_levelSeams_105 : decode cX8_levelSeams 105 = .ok (.getfield 73, 3) := by decide +kernel
theorem dX8_levelSeams_108 : decode cX8_levelSeams 108 = .ok (.aload_n 0, 1) := by decide +kernel
theorem dX8_levelSeams_109 : decode cX8_levelSeams 109 = .ok (.getfield 79, 3) := by decide +kernel
theorem dX8_levelSeams_112 : decode cX8_levelSeams 112 = .ok (.getfield 233, 3) := by decide +kernel
theorem dX8_levelSeams_115 : decode cX8_levelSeams 115 = .ok (.iload_n 2, 1) := by decide +kernel
theorem dX8_levelSeams_116 : decode cX8_levelSeams 116 = .ok (.iaload, 1) := by decide +kernel
theorem dX8_levelSeams_117 : decode cX8_levelSeams 117 = .ok (.iload_n 3, 1) := by decide +kernel
theorem dX8_levelSeams_118 : decode cX8_levelSeams 118 = .ok (.iastore, 1) := by decide +kernel
theorem dX8_levelSeams_119 : decode cX8_levelSeams 119 = .ok (.iinc 2 1, 3) := by decide +kernel
theorem dX8_levelSeams_122 : decode cX8_levelSeams 122 = .ok (.goto (-76), 3) := by decide +kernel
theorem dX8_levelSeams_125 : decode cX8_levelSeams 125 = .ok (.iinc 1 1, 3) := by decide +kernel
theorem dX8_levelSeams_128 : decode cX8_levelSeams 128 = .ok (.goto (-95), 3) := by decide +kernel
theorem dX8_levelSeams_131 : decode cX8_levelSeams 131 = .ok (.return_, 1) := by decide +kernel
