/-! decode rows, part 3 (of the printed names) -/
theorem dX10_product_53 : decode cX10_product 53 = .ok (.bipush 42, 2) := by decide +kernel
theorem dX10_product_55 : decode cX10_product 55 = .ok (.if_icmp .ne 9, 3) := by decide +kernel
theorem dX10_product_58 : decode cX10_product 58 = .ok (.iload_n 1, 1) := by decide +kernel
theorem dX10_product_59 : decode cX10_product 59 = .ok (.iload_n 3, 1) := by decide +kernel
theorem dX10_product_60 : decode cX10_product 60 = .ok (.imul, 1) := by decide +kernel
theorem dX10_product_61 : decode cX10_product 61 = .ok (.goto 26, 3) := by decide +kernel
theorem dX10_product_64 : decode cX10_product 64 = .ok (.iload_n 3, 1) := by decide +kernel
theorem dX10_product_65 : decode cX10_product 65 = .ok (.ifCond .ne 7, 3) := by decide +kernel
theorem dX10_product_68 : decode cX10_product 68 = .ok (.iconst 0, 1) := by decide +kernel
theorem dX10_product_69 : decode cX10_product 69 = .ok (.goto 18, 3) := by decide +kernel
theorem dX10_product_72 : decode cX10_product 72 = .ok (.iload_n 2, 1) := by decide +kernel
theorem dX10_product_73 : decode cX10_product 73 = .ok (.bipush 47, 2) := by decide +kernel
theorem dX10_product_75 : decode cX10_product 75 = .ok (.if_icmp .ne 9, 3) := by decide +kernel
theorem dX10_product_78 : decode cX10_product 78 = .ok (.iload_n 1, 1) := by decide +kernel
theorem dX10_product_79 : decode cX10_product 79 = .ok (.iload_n 3, 1) := by decide +kernel
theorem dX10_product_80 : decode cX10_product 80 = .ok (.idiv, 1) := by decide +kernel
theorem dX10_product_81 : decode cX10_product 81 = .ok (.goto 6, 3) := by decide +kernel
theorem dX10_product_84 : decode cX10_product 84 = .ok (.iload_n 1, 1) := by decide +kernel
theorem dX10_product_85 : decode cX10_product 85 = .ok (.iload_n 3, 1) := by decide +kernel
theorem dX10_product_86 : decode cX10_product 86 = .ok (.irem, 1) := by decide +kernel
theorem dX10_product_87 : decode cX10_product 87 = .ok (.istore_n 1, 1) := by decide +kernel
theorem dX10_product_88 : decode cX10_product 88 = .ok (.goto (-83), 3) := by decide +kernel
theorem dX10_product_91 : decode cX10_product 91 = .ok (.iload_n 1, 1) := by decide +kernel
theorem dX10_product_92 : decode cX10_product 92 = .ok (.ireturn, 1) := by decide +kernel
theorem dX10_unit_0 : decode cX10_unit 0 = .ok (.aload_n 0, 1) := by decide +kernel
theorem dX10_unit_1 : decode cX10_unit 1 = .ok (.invokevirtual 58, 3) := by decide +kernel
theorem dX10_unit_4 : decode cX10_unit 4 = .ok (.istore_n 1, 1) := by decide +kernel
theorem dX10_unit_5 : decode cX10_unit 5 = .ok (.iload_n 1, 1) := by decide +kernel
theorem dX10_unit_6 : decode cX10_unit 6 = .ok (.bipush 33, 2) := by decide +kernel
theorem dX10_unit_8 : decode cX10_unit 8 = .ok (.if_icmp .eq 9, 3) := by decide +kernel
theorem dX10_unit_11 : decode cX10_unit 11 = .ok (.iload_n 1, 1) := by decide +kernel
theorem dX10_unit_12 : decode cX10_unit 12 = .ok (.bipush 40, 2) := by decide +kernel
theorem dX10_unit_14 : decode cX10_unit 14 = .ok (.if_icmp .ne 104, 3) := by decide +kernel
theorem dX10_unit_17 : decode cX10_unit 17 = .ok (.aload_n 0, 1) := by decide +kernel
theorem dX10_unit_18 : decode cX10_unit 18 = .ok (.getfield 85, 3) := by decide +kernel
theorem dX10_unit_21 : decode cX10_unit 21 = .ok (.iconst 5, 1) := by decide +kernel
theorem dX10_unit_22 : decode cX10_unit 22 = .ok (.if_icmp .ne 8, 3) := by decide +kernel
theorem dX10_unit_25 : decode cX10_unit 25 = .ok (.aload_n 0, 1) := by decide +kernel
theorem dX10_unit_26 : decode cX10_unit 26 = .ok (.invokevirtual 88, 3) := by decide +kernel
theorem dX10_unit_29 : decode cX10_unit 29 = .ok (.ireturn, 1) := by decide +kernel
theorem dX10_unit_30 : decode cX10_unit 30 = .ok (.aload_n 0, 1) := by decide +kernel
theorem dX10_unit_31 : decode cX10_unit 31 = .ok (.dup, 1) := by decide +kernel
theorem dX10_unit_32 : decode cX10_unit 32 = .ok (.getfield 85, 3) := by decide +kernel
theorem dX10_unit_35 : decode cX10_unit 35 = .ok (.iconst 1, 1) := by decide +kernel
theorem dX10_unit_36 : decode cX10_unit 36 = .ok (.iadd, 1) := by decide +kernel
theorem dX10_unit_37 : decode cX10_unit 37 = .ok (.putfield 85, 3) := by decide +kernel
theorem dX10_unit_40 : decode cX10_unit 40 = .ok (.aload_n 0, 1) := by decide +kernel
theorem dX10_unit_41 : decode cX10_unit 41 = .ok (.dup, 1) := by decide +kernel
theorem dX10_unit_42 : decode cX10_unit 42 = .ok (.getfield 45, 3) := by decide +kernel
theorem dX10_unit_45 : decode cX10_unit 45 = .ok (.iconst 1, 1) := by decide +kernel
theorem dX10_unit_46 : decode cX10_unit 46 = .ok (.iadd, 1) := by decide +kernel
theorem dX10_unit_47 : decode cX10_unit 47 = .ok (.putfield 45, 3) := by decide +kernel
theorem dX10_unit_50 : decode cX10_unit 50 = .ok (.iload_n 1, 1) := by decide +kernel
theorem dX10_unit_51 : decode cX10_unit 51 = .ok (.bipush 40, 2) := by decide +kernel
theorem dX10_unit_53 : decode cX10_unit 53 = .ok (.if_icmp .ne 10, 3) := by decide +kernel
theorem dX10_unit_56 : decode cX10_unit 56 = .ok (.aload_n 0, 1) := by decide +kernel
theorem dX10_unit_57 : decode cX10_unit 57 = .ok (.invokevirtual 91, 3) := by decide +kernel
theorem dX10_unit_60 : decode cX10_unit 60 = .ok (.goto 7, 3) := by decide +kernel
theorem dX10_unit_63 : decode cX10_unit 63 = .ok (.aload_n 0, 1) := by decide +kernel
theorem dX10_unit_64 : decode cX10_unit 64 = .ok (.invokevirtual 82, 3) := by decide +kernel
theorem dX10_unit_67 : decode cX10_unit 67 = .ok (.istore_n 2, 1) := by decide +kernel
theorem dX10_unit_68 : decode cX10_unit 68 = .ok (.iload_n 1, 1) := by decide +kernel
theorem dX10_unit_69 : decode cX10_unit 69 = .ok (.bipush 40, 2) := by decide +kernel
theorem dX10_unit_71 : decode cX10_unit 71 = .ok (.if_icmp .ne 17, 3) := by decide +kernel
theorem dX10_unit_74 : decode cX10_unit 74 = .ok (.aload_n 0, 1) := by decide +kernel
theorem dX10_unit_75 : decode cX10_unit 75 = .ok (.bipush 41, 2) := by decide +kernel
theorem dX10_unit_77 : decode cX10_unit 77 = .ok (.invokevirtual 69, 3) := by decide +kernel
theorem dX10_unit_80 : decode cX10_unit 80 = .ok (.ifCond .ne 8, 3) := by decide +kernel
theorem dX10_unit_83 : decode cX10_unit 83 = .ok (.aload_n 0, 1) := by decide +kernel
theorem dX10_unit_84 : decode cX10_unit 84 = .ok (.invokevirtual 88, 3) := by decide +kernel
theorem dX10_unit_87 : decode cX10_unit 87 = .ok (.ireturn, 1) := by decide +kernel
theorem dX10_unit_88 : decode cX10_unit 88 = .ok (.aload_n 0, 1) := by decide +kernel
theorem dX10_unit_89 : decode cX10_unit 89 = .ok (.dup, 1) := by decide +kernel
theorem dX10_unit_90 : decode cX10_unit 90 = .ok (.getfield 85, 3) := by decide +kernel
theorem dX10_unit_93 : decode cX10_unit 93 = .ok (.iconst 1, 1) := by decide +kernel
theorem dX10_unit_94 : decode cX10_unit 94 = .ok (.isub, 1) := by decide +kernel
theorem dX10_unit_95 : decode cX10_unit 95 = .ok (.putfield 85, 3) := by decide +kernel
theorem dX10_unit_98 : decode cX10_unit 98 = .ok (.iload_n 1, 1) := by decide +kernel
theorem dX10_unit_99 : decode cX10_unit 99 = .ok (.bipush 40, 2) := by decide +kernel
theorem dX10_unit_101 : decode cX10_unit 101 = .ok (.if_icmp .ne 7, 3) := by decide +kernel
theorem dX10_unit_104 : decode cX10_unit 104 = .ok (.iload_n 2, 1) := by decide +kernel
theorem dX10_unit_105 : decode cX10_unit 105 = .ok (.goto 12, 3) := by decide +kernel
theorem dX10_unit_108 : decode cX10_unit 108 = .ok (.iload_n 2, 1) := by decide +kernel
theorem dX10_unit_109 : decode cX10_unit 109 = .ok (.ifCond .ne 7, 3) := by decide +kernel
theorem dX10_unit_112 : decode cX10_unit 112 = .ok (.iconst 1, 1) := by decide +kernel
theorem dX10_unit_113 : decode cX10_unit 113 = .ok (.goto 4, 3) := by decide +kernel
theorem dX10_unit_116 : decode cX10_unit 116 = .ok (.iconst 0, 1) := by decide +kernel
theorem dX10_unit_117 : decode cX10_unit 117 = .ok (.ireturn, 1) := by decide +kernel
theorem dX10_unit_118 : decode cX10_unit 118 = .ok (.aload_n 0, 1) := by decide +kernel
theorem dX10_unit_119 : decode cX10_unit 119 = .ok (.iload_n 1, 1) := by decide +kernel
theorem dX10_unit_120 : decode cX10_unit 120 = .ok (.invokevirtual 94, 3) := by decide +kernel
theorem dX10_unit_123 : decode cX10_unit 123 = .ok (.istore_n 2, 1) := by decide +kernel
theorem dX10_unit_124 : decode cX10_unit 124 = .ok (.iload_n 2, 1) := by decide +kernel
theorem dX10_unit_125 : decode cX10_unit 125 = .ok (.ifCond .lt 20, 3) := by decide +kernel
theorem dX10_unit_128 : decode cX10_unit 128 = .ok (.aload_n 0, 1) := by decide +kernel
theorem dX10_unit_129 : decode cX10_unit 129 = .ok (.dup, 1) := by decide +kernel
theorem dX10_unit_130 : decode cX10_unit 130 = .ok (.getfield 45, 3) := by decide +kernel
theorem dX10_unit_133 : decode cX10_unit 133 = .ok (.iconst 1, 1) := by decide +kernel
theorem dX10_unit_134 : decode cX10_unit 134 = .ok (.iadd, 1) := by decide +kernel
theorem dX10_unit_135 : decode cX10_unit 135 = .ok (.putfield 45, 3) := by decide +kernel
theorem dX10_unit_138 : decode cX10_unit 138 = .ok (.aload_n 0, 1) := by decide +kernel
theorem dX10_unit_139 : decode cX10_unit 139 = .ok (.getfield 22, 3) := by decide +kernel
theorem dX10_unit_142 : decode cX10_unit 142 = .ok (.iload_n 2, 1) := by decide +kernel
theorem dX10_unit_143 : decode cX10_unit 143 = .ok (.iaload, 1) := by decide +kernel
theorem dX10_unit_144 : decode cX10_unit 144 = .ok (.ireturn, 1) := by decide +kernel
theorem dX10_unit_145 : decode cX10_unit 145 = .ok (.iconst 0, 1) := by decide +kernel
theorem dX10_unit_146 : decode cX10_unit 146 = .ok (.istore_n 3, 1) := by decide +kernel
theorem dX10_unit_147 : decode cX10_unit 147 = .ok (.iconst 0, 1) := by decide +kernel
theorem dX10_unit_148 : decode cX10_unit 148 = .ok (.istore 4, 2) := by decide +kernel
theorem dX10_unit_150 : decode cX10_unit 150 = .ok (.iload 4, 2) := by decide +kernel
theorem dX10_unit_152 : decode cX10_unit 152 = .ok (.iconst 4, 1) := by decide +kernel
theorem dX10_unit_153 : decode cX10_unit 153 = .ok (.if_icmp .ge 49, 3) := by decide +kernel
theorem dX10_unit_156 : decode cX10_unit 156 = .ok (.aload_n 0, 1) := by decide +kernel
theorem dX10_unit_157 : decode cX10_unit 157 = .ok (.invokevirtual 58, 3) := by decide +kernel
theorem dX10_unit_160 : decode cX10_unit 160 = .ok (.i2l, 1) := by decide +kernel
theorem dX10_unit_161 : decode cX10_unit 161 = .ok (.ldc2_w 98, 3) := by decide +kernel
theorem dX10_unit_164 : decode cX10_unit 164 = .ok (.ldc2_w 100, 3) := by decide +kernel
theorem dX10_unit_167 : decode cX10_unit 167 = .ok (.invokestatic 41, 3) := by decide +kernel
theorem dX10_unit_170 : decode cX10_unit 170 = .ok (.ifCond .eq 32, 3) := by decide +kernel
theorem dX10_unit_173 : decode cX10_unit 173 = .ok (.bipush 10, 2) := by decide +kernel
theorem dX10_unit_175 : decode cX10_unit 175 = .ok (.iload_n 3, 1) := by decide +kernel
theorem dX10_unit_176 : decode cX10_unit 176 = .ok (.imul, 1) := by decide +kernel
theorem dX10_unit_177 : decode cX10_unit 177 = .ok (.aload_n 0, 1) := by decide +kernel
theorem dX10_unit_178 : decode cX10_unit 178 = .ok (.invokevirtual 58, 3) := by decide +kernel
theorem dX10_unit_181 : decode cX10_unit 181 = .ok (.iadd, 1) := by decide +kernel
theorem dX10_unit_182 : decode cX10_unit 182 = .ok (.bipush 48, 2) := by decide +kernel
theorem dX10_unit_184 : decode cX10_unit 184 = .ok (.isub, 1) := by decide +kernel
theorem dX10_unit_185 : decode cX10_unit 185 = .ok (.istore_n 3, 1) := by decide +kernel
theorem dX10_unit_186 : decode cX10_unit 186 = .ok (.aload_n 0, 1) := by decide +kernel
theorem dX10_unit_187 : decode cX10_unit 187 = .ok (.dup, 1) := by decide +kernel
theorem dX10_unit_188 : decode cX10_unit 188 = .ok (.getfield 45, 3) := by decide +kernel
theorem dX10_unit_191 : decode cX10_unit 191 = .ok (.iconst 1, 1) := by decide +kernel
theorem dX10_unit_192 : decode cX10_unit 192 = .ok (.iadd, 1) := by decide +kernel
theorem dX10_unit_193 : decode cX10_unit 193 = .ok (.putfield 45, 3) := by decide +kernel
theorem dX10_unit_196 : decode cX10_unit 196 = .ok (.iinc 4 1, 3) := by decide +kernel
theorem dX10_unit_199 : decode cX10_unit 199 = .ok (.goto (-49), 3) := by decide +kernel
theorem dX10_unit_202 : decode cX10_unit 202 = .ok (.iload 4, 2) := by decide +kernel
theorem dX10_unit_204 : decode cX10_unit 204 = .ok (.ifCond .ne 10, 3) := by decide +kernel
theorem dX10_unit_207 : decode cX10_unit 207 = .ok (.aload_n 0, 1) := by decide +kernel
theorem dX10_unit_208 : decode cX10_unit 208 = .ok (.invokevirtual 88, 3) := by decide +kernel
theorem dX10_unit_211 : decode cX10_unit 211 = .ok (.goto 4, 3) := by decide +kernel
theorem dX10_unit_214 : decode cX10_unit 214 = .ok (.iload_n 3, 1) := by decide +kernel
theorem dX10_unit_215 : decode cX10_unit 215 = .ok (.ireturn, 1) := by decide +kernel
theorem dX10_worked_0 : decode cX10_worked 0 = .ok (.aload_n 0, 1) := by decide +kernel
theorem dX10_worked_1 : decode cX10_worked 1 = .ok (.iload_n 1, 1) := by decide +kernel
theorem dX10_worked_2 : decode cX10_worked 2 = .ok (.putfield 55, 3) := by decide +kernel
theorem dX10_worked_5 : decode cX10_worked 5 = .ok (.aload_n 0, 1) := by decide +kernel
theorem dX10_worked_6 : decode cX10_worked 6 = .ok (.iconst 0, 1) := by decide +kernel
theorem dX10_worked_7 : decode cX10_worked 7 = .ok (.putfield 45, 3) := by decide +kernel
theorem dX10_worked_10 : decode cX10_worked 10 = .ok (.aload_n 0, 1) := by decide +kernel
theorem dX10_worked_11 : decode cX10_worked 11 = .ok (.iload_n 2, 1) := by decide +kernel
theorem dX10_worked_12 : decode cX10_worked 12 = .ok (.putfield 49, 3) := by decide +kernel
theorem dX10_worked_15 : decode cX10_worked 15 = .ok (.aload_n 0, 1) := by decide +kernel
theorem dX10_worked_16 : decode cX10_worked 16 = .ok (.iconst (-1), 1) := by decide +kernel
theorem dX10_worked_17 : decode cX10_worked 17 = .ok (.putfield 52, 3) := by decide +kernel
theorem dX10_worked_20 : decode cX10_worked 20 = .ok (.aload_n 0, 1) := by decide +kernel
theorem dX10_worked_21 : decode cX10_worked 21 = .ok (.iconst 0, 1) := by decide +kernel
theorem dX10_worked_22 : decode cX10_worked 22 = .ok (.putfield 85, 3) := by decide +kernel
theorem dX10_worked_25 : decode cX10_worked 25 = .ok (.aload_n 0, 1) := by decide +kernel
theorem dX10_worked_26 : decode cX10_worked 26 = .ok (.iload_n 3, 1) := by decide +kernel
theorem dX10_worked_27 : decode cX10_worked 27 = .ok (.iconst 1, 1) := by decide +kernel
theorem dX10_worked_28 : decode cX10_worked 28 = .ok (.if_icmp .ne 7, 3) := by decide +kernel
theorem dX10_worked_31 : decode cX10_worked 31 = .ok (.iconst 1, 1) := by decide +kernel
theorem dX10_worked_32 : decode cX10_worked 32 = .ok (.goto 4, 3) := by decide +kernel
theorem dX10_worked_35 : decode cX10_worked 35 = .ok (.iconst 0, 1) := by decide +kernel
theorem dX10_worked_36 : decode cX10_worked 36 = .ok (.putfield 62, 3) := by decide +kernel
theorem dX10_worked_39 : decode cX10_worked 39 = .ok (.aload_n 0, 1) := by decide +kernel
theorem dX10_worked_40 : decode cX10_worked 40 = .ok (.invokevirtual 91, 3) := by decide +kernel
theorem dX10_worked_43 : decode cX10_worked 43 = .ok (.istore 4, 2) := by decide +kernel
theorem dX10_worked_45 : decode cX10_worked 45 = .ok (.aload_n 0, 1) := by decide +kernel
theorem dX10_worked_46 : decode cX10_worked 46 = .ok (.getfield 52, 3) := by decide +kernel
theorem dX10_worked_49 : decode cX10_worked 49 = .ok (.ifCond .ge 19, 3) := by decide +kernel
theorem dX10_worked_52 : decode cX10_worked 52 = .ok (.aload_n 0, 1) := by decide +kernel
theorem dX10_worked_53 : decode cX10_worked 53 = .ok (.getfield 45, 3) := by decide +kernel
theorem dX10_worked_56 : decode cX10_worked 56 = .ok (.aload_n 0, 1) := by decide +kernel
theorem dX10_worked_57 : decode cX10_worked 57 = .ok (.getfield 49, 3) := by decide +kernel
theorem dX10_worked_60 : decode cX10_worked 60 = .ok (.if_icmp .ge 8, 3) := by decide +kernel
theorem dX10_worked_63 : decode cX10_worked 63 = .ok (.aload_n 0, 1) := by decide +kernel
theorem dX10_worked_64 : decode cX10_worked 64 = .ok (.invokevirtual 88, 3) := by decide +kernel
theorem dX10_worked_67 : decode cX10_worked 67 = .ok (.ireturn, 1) := by decide +kernel
theorem dX10_worked_68 : decode cX10_worked 68 = .ok (.iload 4, 2) := by decide +kernel
theorem dX10_worked_70 : decode cX10_worked 70 = .ok (.ireturn, 1) := by decide +kernel
theorem dX10_feed_0 : decode cX10_feed 0 = .ok (.iload_n 3, 1) := by decide +kernel
theorem dX10_feed_1 : decode cX10_feed 1 = .ok (.i2l, 1) := by decide +kernel
theorem dX10_feed_2 : decode cX10_feed 2 = .ok (.lconst 1, 1) := by decide +kernel
theorem dX10_feed_3 : decode cX10_feed 3 = .ok (.ldc2_w 102, 3) := by decide +kernel
theorem dX10_feed_6 : decode cX10_feed 6 = .ok (.invokestatic 41, 3) := by decide +kernel
theorem dX10_feed_9 : decode cX10_feed 9 = .ok (.ifCond .ne 9, 3) := by decide +kernel
theorem dX10_feed_12 : decode cX10_feed 12 = .ok (.aload_n 0, 1) := by decide +kernel
theorem dX10_feed_13 : decode cX10_feed 13 = .ok (.iconst 1, 1) := by decide +kernel
theorem dX10_feed_14 : decode cX10_feed 14 = .ok (.invokevirtual 104, 3) := by decide +kernel
theorem dX10_feed_17 : decode cX10_feed 17 = .ok (.ireturn, 1) := by decide +kernel
theorem dX10_feed_18 : decode cX10_feed 18 = .ok (.aload_n 0, 1) := by decide +kernel
theorem dX10_feed_19 : decode cX10_feed 19 = .ok (.getfield 7, 3) := by decide +kernel
theorem dX10_feed_22 : decode cX10_feed 22 = .ok (.bipush 14, 2) := by decide +kernel
theorem dX10_feed_24 : decode cX10_feed 24 = .ok (.iaload, 1) := by decide +kernel
theorem dX10_feed_25 : decode cX10_feed 25 = .ok (.iload_n 3, 1) := by decide +kernel
theorem dX10_feed_26 : decode cX10_feed 26 = .ok (.iadd, 1) := by decide +kernel
theorem dX10_feed_27 : decode cX10_feed 27 = .ok (.bipush 50, 2) := by decide +kernel
theorem dX10_feed_29 : decode cX10_feed 29 = .ok (.if_icmp .le 9, 3) := by decide +kernel
theorem dX10_feed_32 : decode cX10_feed 32 = .ok (.aload_n 0, 1) := by decide +kernel
theorem dX10_feed_33 : decode cX10_feed 33 = .ok (.iconst 4, 1) := by decide +kernel
theorem dX10_feed_34 : decode cX10_feed 34 = .ok (.invokevirtual 104, 3) := by decide +kernel
theorem dX10_feed_37 : decode cX10_feed 37 = .ok (.ireturn, 1) := by decide +kernel
theorem dX10_feed_38 : decode cX10_feed 38 = .ok (.iconst 0, 1) := by decide +kernel
theorem dX10_feed_39 : decode cX10_feed 39 = .ok (.istore 4, 2) := by decide +kernel
theorem dX10_feed_41 : decode cX10_feed 41 = .ok (.iload 4, 2) := by decide +kernel
theorem dX10_feed_43 : decode cX10_feed 43 = .ok (.iload_n 3, 1) := by decide +kernel
theorem dX10_feed_44 : decode cX10_feed 44 = .ok (.if_icmp .ge 48, 3) := by decide +kernel
theorem dX10_feed_47 : decode cX10_feed 47 = .ok (.aload_n 0, 1) := by decide +kernel
theorem dX10_feed_48 : decode cX10_feed 48 = .ok (.getfield 7, 3) := by decide +kernel
theorem dX10_feed_51 : decode cX10_feed 51 = .ok (.sipush 284, 3) := by decide +kernel
theorem dX10_feed_54 : decode cX10_feed 54 = .ok (.aload_n 0, 1) := by decide +kernel
theorem dX10_feed_55 : decode cX10_feed 55 = .ok (.getfield 7, 3) := by decide +kernel
theorem dX10_feed_58 : decode cX10_feed 58 = .ok (.bipush 14, 2) := by decide +kernel
theorem dX10_feed_60 : decode cX10_feed 60 = .ok (.iaload, 1) := by decide +kernel
theorem dX10_feed_61 : decode cX10_feed 61 = .ok (.iadd, 1) := by decide +kernel
theorem dX10_feed_62 : decode cX10_feed 62 = .ok (.lload_n 1, 1) := by decide +kernel
theorem dX10_feed_63 : decode cX10_feed 63 = .ok (.bipush 8, 2) := by decide +kernel
theorem dX10_feed_65 : decode cX10_feed 65 = .ok (.iload 4, 2) := by decide +kernel
theorem dX10_feed_67 : decode cX10_feed 67 = .ok (.imul, 1) := by decide +kernel
theorem dX10_feed_68 : decode cX10_feed 68 = .ok (.lshr, 1) := by decide +kernel
theorem dX10_feed_69 : decode cX10_feed 69 = .ok (.ldc2_w 107, 3) := by decide +kernel
theorem dX10_feed_72 : decode cX10_feed 72 = .ok (.land, 1) := by decide +kernel
theorem dX10_feed_73 : decode cX10_feed 73 = .ok (.l2i, 1) := by decide +kernel
theorem dX10_feed_74 : decode cX10_feed 74 = .ok (.iastore, 1) := by decide +kernel
theorem dX10_feed_75 : decode cX10_feed 75 = .ok (.aload_n 0, 1) := by decide +kernel
theorem dX10_feed_76 : decode cX10_feed 76 = .ok (.getfield 7, 3) := by decide +kernel
theorem dX10_feed_79 : decode cX10_feed 79 = .ok (.bipush 14, 2) := by decide +kernel
theorem dX10_feed_81 : decode cX10_feed 81 = .ok (.dup2, 1) := by decide +kernel
theorem dX10_feed_82 : decode cX10_feed 82 = .ok (.iaload, 1) := by decide +kernel
theorem dX10_feed_83 : decode cX10_feed 83 = .ok (.iconst 1, 1) := by decide +kernel
theorem dX10_feed_84 : decode cX10_feed 84 = .ok (.iadd, 1) := by decide +kernel
theorem dX10_feed_85 : decode cX10_feed 85 = .ok (.iastore, 1) := by decide +kernel
theorem dX10_feed_86 : decode cX10_feed 86 = .ok (.iinc 4 1, 3) := by decide +kernel
theorem dX10_feed_89 : decode cX10_feed 89 = .ok (.goto (-48), 3) := by decide +kernel
theorem dX10_feed_92 : decode cX10_feed 92 = .ok (.aload_n 0, 1) := by decide +kernel
theorem dX10_feed_93 : decode cX10_feed 93 = .ok (.getfield 7, 3) := by decide +kernel
theorem dX10_feed_96 : decode cX10_feed 96 = .ok (.bipush 14, 2) := by decide +kernel
theorem dX10_feed_98 : decode cX10_feed 98 = .ok (.iaload, 1) := by decide +kernel
theorem dX10_feed_99 : decode cX10_feed 99 = .ok (.ireturn, 1) := by decide +kernel
theorem dX10_text_0 : decode cX10_text 0 = .ok (.iload_n 1, 1) := by decide +kernel
theorem dX10_text_1 : decode cX10_text 1 = .ok (.i2l, 1) := by decide +kernel
theorem dX10_text_2 : decode cX10_text 2 = .ok (.lconst 0, 1) := by decide +kernel
theorem dX10_text_3 : decode cX10_text 3 = .ok (.lconst 1, 1) := by decide +kernel
theorem dX10_text_4 : decode cX10_text 4 = .ok (.invokestatic 41, 3) := by decide +kernel
theorem dX10_text_7 : decode cX10_text 7 = .ok (.ifCond .ne 9, 3) := by decide +kernel
theorem dX10_text_10 : decode cX10_text 10 = .ok (.aload_n 0, 1) := by decide +kernel
theorem dX10_text_11 : decode cX10_text 11 = .ok (.iconst 1, 1) := by decide +kernel
theorem dX10_text_12 : decode cX10_text 12 = .ok (.invokevirtual 104, 3) := by decide +kernel
theorem dX10_text_15 : decode cX10_text 15 = .ok (.ireturn, 1) := by decide +kernel
theorem dX10_text_16 : decode cX10_text 16 = .ok (.aload_n 0, 1) := by decide +kernel
theorem dX10_text_17 : decode cX10_text 17 = .ok (.getfield 7, 3) := by decide +kernel
theorem dX10_text_20 : decode cX10_text 20 = .ok (.bipush 14, 2) := by decide +kernel
theorem dX10_text_22 : decode cX10_text 22 = .ok (.iaload, 1) := by decide +kernel
theorem dX10_text_23 : decode cX10_text 23 = .ok (.istore_n 2, 1) := by decide +kernel
theorem dX10_text_24 : decode cX10_text 24 = .ok (.aload_n 0, 1) := by decide +kernel
theorem dX10_text_25 : decode cX10_text 25 = .ok (.getfield 7, 3) := by decide +kernel
theorem dX10_text_28 : decode cX10_text 28 = .ok (.bipush 14, 2) := by decide +kernel
theorem dX10_text_30 : decode cX10_text 30 = .ok (.iconst 0, 1) := by decide +kernel
theorem dX10_text_31 : decode cX10_text 31 = .ok (.iastore, 1) := by decide +kernel
theorem dX10_text_32 : decode cX10_text 32 = .ok (.aload_n 0, 1) := by decide +kernel
theorem dX10_text_33 : decode cX10_text 33 = .ok (.sipush 284, 3) := by decide +kernel
theorem dX10_text_36 : decode cX10_text 36 = .ok (.iload_n 2, 1) := by decide +kernel
theorem dX10_text_37 : decode cX10_text 37 = .ok (.iload_n 1, 1) := by decide +kernel
theorem dX10_text_38 : decode cX10_text 38 = .ok (.invokevirtual 109, 3) := by decide +kernel
theorem dX10_text_41 : decode cX10_text 41 = .ok (.istore_n 3, 1) := by decide +kernel
theorem dX10_text_42 : decode cX10_text 42 = .ok (.aload_n 0, 1) := by decide +kernel
theorem dX10_text_43 : decode cX10_text 43 = .ok (.getfield 52, 3) := by decide +kernel
theorem dX10_text_46 : decode cX10_text 46 = .ok (.ifCond .lt 11, 3) := by decide +kernel
theorem dX10_text_49 : decode cX10_text 49 = .ok (.bipush (-10), 2) := by decide +kernel
theorem dX10_text_51 : decode cX10_text 51 = .ok (.aload_n 0, 1) := by decide +kernel
theorem dX10_text_52 : decode cX10_text 52 = .ok (.getfield 52, 3) := by decide +kernel
theorem dX10_text_55 : decode cX10_text 55 = .ok (.isub, 1) := by decide +kernel
theorem dX10_text_56 : decode cX10_text 56 = .ok (.ireturn, 1) := by decide +kernel
theorem dX10_text_57 : decode cX10_text 57 = .ok (.aload_n 0, 1) := by decide +kernel
theorem dX10_text_58 : decode cX10_text 58 = .ok (.getfield 7, 3) := by decide +kernel
theorem dX10_text_61 : decode cX10_text 61 = .ok (.sipush 162, 3) := by decide +kernel
theorem dX10_text_64 : decode cX10_text 64 = .ok (.iload_n 1, 1) := by decide +kernel
theorem dX10_text_65 : decode cX10_text 65 = .ok (.iadd, 1) := by decide +kernel
theorem dX10_text_66 : decode cX10_text 66 = .ok (.iload_n 2, 1) := by decide +kernel
theorem dX10_text_67 : decode cX10_text 67 = .ok (.iastore, 1) := by decide +kernel
theorem dX10_text_68 : decode cX10_text 68 = .ok (.iconst 0, 1) := by decide +kernel
theorem dX10_text_69 : decode cX10_text 69 = .ok (.istore 4, 2) := by decide +kernel
theorem dX10_text_71 : decode cX10_text 71 = .ok (.iload 4, 2) := by decide +kernel
theorem dX10_text_73 : decode cX10_text 73 = .ok (.iload_n 2, 1) := by decide +kernel
theorem dX10_text_74 : decode cX10_text 74 = .ok (.if_icmp .ge 36, 3) := by decide +kernel
theorem dX10_text_77 : decode cX10_text 77 = .ok (.aload_n 0, 1) := by decide +kernel
theorem dX10_text_78 : decode cX10_text 78 = .ok (.getfield 7, 3) := by decide +kernel
theorem dX10_text_81 : decode cX10_text 81 = .ok (.sipush 184, 3) := by decide +kernel
theorem dX10_text_84 : decode cX10_text 84 = .ok (.bipush 50, 2) := by decide +kernel
theorem dX10_text_86 : decode cX10_text 86 = .ok (.iload_n 1, 1) := by decide +kernel
theorem dX10_text_87 : decode cX10_text 87 = .ok (.imul, 1) := by decide +kernel
theorem dX10_text_88 : decode cX10_text 88 = .ok (.iadd, 1) := by decide +kernel
theorem dX10_text_89 : decode cX10_text 89 = .ok (.iload 4, 2) := by decide +kernel
theorem dX10_text_91 : decode cX10_text 91 = .ok (.iadd, 1) := by decide +kernel
theorem dX10_text_92 : decode cX10_text 92 = .ok (.aload_n 0, 1) := by decide +kernel
theorem dX10_text_93 : decode cX10_text 93 = .ok (.getfield 7, 3) := by decide +kernel
theorem dX10_text_96 : decode cX10_text 96 = .ok (.sipush 284, 3) := by decide +kernel
theorem dX10_text_99 : decode cX10_text 99 = .ok (.iload 4, 2) := by decide +kernel
theorem dX10_text_101 : decode cX10_text 101 = .ok (.iadd, 1) := by decide +kernel
theorem dX10_text_102 : decode cX10_text 102 = .ok (.iaload, 1) := by decide +kernel
theorem dX10_text_103 : decode cX10_text 103 = .ok (.iastore, 1) := by decide +kernel
theorem dX10_text_104 : decode cX10_text 104 = .ok (.iinc 4 1, 3) := by decide +kernel
theorem dX10_text_107 : decode cX10_text 107 = .ok (.goto (-36), 3) := by decide +kernel
theorem dX10_text_110 : decode cX10_text 110 = .ok (.iconst 1, 1) := by decide +kernel
theorem dX10_text_111 : decode cX10_text 111 = .ok (.ireturn, 1) := by decide +kernel
theorem dX10_gives_0 : decode cX10_gives 0 = .ok (.iload_n 1, 1) := by decide +kernel
theorem dX10_gives_1 : decode cX10_gives 1 = .ok (.ifCond .ne 14, 3) := by decide +kernel
theorem dX10_gives_4 : decode cX10_gives 4 = .ok (.iload_n 2, 1) := by decide +kernel
theorem dX10_gives_5 : decode cX10_gives 5 = .ok (.iconst 4, 1) := by decide +kernel
theorem dX10_gives_6 : decode cX10_gives 6 = .ok (.isub, 1) := by decide +kernel
theorem dX10_gives_7 : decode cX10_gives 7 = .ok (.iload_n 3, 1) := by decide +kernel
theorem dX10_gives_8 : decode cX10_gives 8 = .ok (.bipush 10, 2) := by decide +kernel
theorem dX10_gives_10 : decode cX10_gives 10 = .ok (.idiv, 1) := by decide +kernel
theorem dX10_gives_11 : decode cX10_gives 11 = .ok (.isub, 1) := by decide +kernel
theorem dX10_gives_12 : decode cX10_gives 12 = .ok (.goto 5, 3) := by decide +kernel
theorem dX10_gives_15 : decode cX10_gives 15 = .ok (.iload 4, 2) := by decide +kernel
theorem dX10_gives_17 : decode cX10_gives 17 = .ok (.istore 5, 2) := by decide +kernel
theorem dX10_gives_19 : decode cX10_gives 19 = .ok (.aload_n 0, 1) := by decide +kernel
theorem dX10_gives_20 : decode cX10_gives 20 = .ok (.getfield 7, 3) := by decide +kernel
theorem dX10_gives_23 : decode cX10_gives 23 = .ok (.sipush 162, 3) := by decide +kernel
theorem dX10_gives_26 : decode cX10_gives 26 = .ok (.iload_n 1, 1) := by decide +kernel
theorem dX10_gives_27 : decode cX10_gives 27 = .ok (.iadd, 1) := by decide +kernel
theorem dX10_gives_28 : decode cX10_gives 28 = .ok (.iaload, 1) := by decide +kernel
theorem dX10_gives_29 : decode cX10_gives 29 = .ok (.ifCond .le 50, 3) := by decide +kernel
theorem dX10_gives_32 : decode cX10_gives 32 = .ok (.aload_n 0, 1) := by decide +kernel
theorem dX10_gives_33 : decode cX10_gives 33 = .ok (.getfield 22, 3) := by decide +kernel
theorem dX10_gives_36 : decode cX10_gives 36 = .ok (.iconst 0, 1) := by decide +kernel
theorem dX10_gives_37 : decode cX10_gives 37 = .ok (.iload_n 2, 1) := by decide +kernel
theorem dX10_gives_38 : decode cX10_gives 38 = .ok (.iastore, 1) := by decide +kernel
theorem dX10_gives_39 : decode cX10_gives 39 = .ok (.aload_n 0, 1) := by decide +kernel
theorem dX10_gives_40 : decode cX10_gives 40 = .ok (.getfield 22, 3) := by decide +kernel
theorem dX10_gives_43 : decode cX10_gives 43 = .ok (.iconst 1, 1) := by decide +kernel
theorem dX10_gives_44 : decode cX10_gives 44 = .ok (.iload_n 3, 1) := by decide +kernel
theorem dX10_gives_45 : decode cX10_gives 45 = .ok (.iastore, 1) := by decide +kernel
theorem dX10_gives_46 : decode cX10_gives 46 = .ok (.aload_n 0, 1) := by decide +kernel
theorem dX10_gives_47 : decode cX10_gives 47 = .ok (.getfield 22, 3) := by decide +kernel
theorem dX10_gives_50 : decode cX10_gives 50 = .ok (.iconst 2, 1) := by decide +kernel
theorem dX10_gives_51 : decode cX10_gives 51 = .ok (.iload 4, 2) := by decide +kernel
theorem dX10_gives_53 : decode cX10_gives 53 = .ok (.iastore, 1) := by decide +kernel
theorem dX10_gives_54 : decode cX10_gives 54 = .ok (.aload_n 0, 1) := by decide +kernel
theorem dX10_gives_55 : decode cX10_gives 55 = .ok (.sipush 184, 3) := by decide +kernel
theorem dX10_gives_58 : decode cX10_gives 58 = .ok (.bipush 50, 2) := by decide +kernel
theorem dX10_gives_60 : decode cX10_gives 60 = .ok (.iload_n 1, 1) := by decide +kernel
theorem dX10_gives_61 : decode cX10_gives 61 = .ok (.imul, 1) := by decide +kernel
theorem dX10_gives_62 : decode cX10_gives 62 = .ok (.iadd, 1) := by decide +kernel
theorem dX10_gives_63 : decode cX10_gives 63 = .ok (.aload_n 0, 1) := by decide +kernel
theorem dX10_gives_64 : decode cX10_gives 64 = .ok (.getfield 7, 3) := by decide +kernel
theorem dX10_gives_67 : decode cX10_gives 67 = .ok (.sipush 162, 3) := by decide +kernel
theorem dX10_gives_70 : decode cX10_gives 70 = .ok (.iload_n 1, 1) := by decide +kernel
theorem dX10_gives_71 : decode cX10_gives 71 = .ok (.iadd, 1) := by decide +kernel
theorem dX10_gives_72 : decode cX10_gives 72 = .ok (.iaload, 1) := by decide +kernel
theorem dX10_gives_73 : decode cX10_gives 73 = .ok (.iload_n 1, 1) := by decide +kernel
theorem dX10_gives_74 : decode cX10_gives 74 = .ok (.invokevirtual 109, 3) := by decide +kernel
theorem dX10_gives_77 : decode cX10_gives 77 = .ok (.istore 5, 2) := by decide +kernel
theorem dX10_gives_79 : decode cX10_gives 79 = .ok (.iload_n 1, 1) := by decide +kernel
theorem dX10_gives_80 : decode cX10_gives 80 = .ok (.ifCond .ne 14, 3) := by decide +kernel
theorem dX10_gives_83 : decode cX10_gives 83 = .ok (.iload 5, 2) := by decide +kernel
theorem dX10_gives_85 : decode cX10_gives 85 = .ok (.iconst 0, 1) := by decide +kernel
theorem dX10_gives_86 : decode cX10_gives 86 = .ok (.bipush 20, 2) := by decide +kernel
theorem dX10_gives_88 : decode cX10_gives 88 = .ok (.invokestatic 113, 3) := by decide +kernel
theorem dX10_gives_91 : decode cX10_gives 91 = .ok (.goto 13, 3) := by decide +kernel
theorem dX10_gives_94 : decode cX10_gives 94 = .ok (.iconst 0, 1) := by decide +kernel
theorem dX10_gives_95 : decode cX10_gives 95 = .ok (.iload_n 2, 1) := by decide +kernel
theorem dX10_gives_96 : decode cX10_gives 96 = .ok (.iload 5, 2) := by decide +kernel
theorem dX10_gives_98 : decode cX10_gives 98 = .ok (.invokestatic 116, 3) := by decide +kernel
theorem dX10_gives_101 : decode cX10_gives 101 = .ok (.invokestatic 120, 3) := by decide +kernel
theorem dX10_gives_104 : decode cX10_gives 104 = .ok (.ireturn, 1) := by decide +kernel
theorem dX10_law_0 : decode cX10_law 0 = .ok (.iload_n 1, 1) := by decide +kernel
theorem dX10_law_1 : decode cX10_law 1 = .ok (.i2l, 1) := by decide +kernel
theorem dX10_law_2 : decode cX10_law 2 = .ok (.lconst 0, 1) := by decide +kernel
theorem dX10_law_3 : decode cX10_law 3 = .ok (.lconst 1, 1) := by decide +kernel
theorem dX10_law_4 : decode cX10_law 4 = .ok (.invokestatic 41, 3) := by decide +kernel
theorem dX10_law_7 : decode cX10_law 7 = .ok (.ifCond .eq 15, 3) := by decide +kernel
theorem dX10_law_10 : decode cX10_law 10 = .ok (.aload_n 0, 1) := by decide +kernel
theorem dX10_law_11 : decode cX10_law 11 = .ok (.iload_n 1, 1) := by decide +kernel
theorem dX10_law_12 : decode cX10_law 12 = .ok (.iload_n 2, 1) := by decide +kernel
theorem dX10_law_13 : decode cX10_law 13 = .ok (.iload_n 3, 1) := by decide +kernel
theorem dX10_law_14 : decode cX10_law 14 = .ok (.iload 4, 2) := by decide +kernel
theorem dX10_law_16 : decode cX10_law 16 = .ok (.invokevirtual 123, 3) := by decide +kernel
theorem dX10_law_19 : decode cX10_law 19 = .ok (.goto 8, 3) := by decide +kernel
theorem dX10_law_22 : decode cX10_law 22 = .ok (.aload_n 0, 1) := by decide +kernel
theorem dX10_law_23 : decode cX10_law 23 = .ok (.iconst 1, 1) := by decide +kernel
theorem dX10_law_24 : decode cX10_law 24 = .ok (.invokevirtual 104, 3) := by decide +kernel
theorem dX10_law_27 : decode cX10_law 27 = .ok (.ireturn, 1) := by decide +kernel
theorem dX10_rainAt_0 : decode cX10_rainAt 0 = .ok (.aload_n 0, 1) := by decide +kernel
theorem dX10_rainAt_1 : decode cX10_rainAt 1 = .ok (.getfield 7, 3) := by decide +kernel
theorem dX10_rainAt_4 : decode cX10_rainAt 4 = .ok (.bipush 16, 2) := by decide +kernel
theorem dX10_rainAt_6 : decode cX10_rainAt 6 = .ok (.bipush 24, 2) := by decide +kernel
theorem dX10_rainAt_8 : decode cX10_rainAt 8 = .ok (.iload_n 1, 1) := by decide +kernel
theorem dX10_rainAt_9 : decode cX10_rainAt 9 = .ok (.imul, 1) := by decide +kernel
theorem dX10_rainAt_10 : decode cX10_rainAt 10 = .ok (.iadd, 1) := by decide +kernel
theorem dX10_rainAt_11 : decode cX10_rainAt 11 = .ok (.iload_n 2, 1) := by decide +kernel
theorem dX10_rainAt_12 : decode cX10_rainAt 12 = .ok (.bipush 24, 2) := by decide +kernel
theorem dX10_rainAt_14 : decode cX10_rainAt 14 = .ok (.irem, 1) := by decide +kernel
theorem dX10_rainAt_15 : decode cX10_rainAt 15 = .ok (.iadd, 1) := by decide +kernel
theorem dX10_rainAt_16 : decode cX10_rainAt 16 = .ok (.iaload, 1) := by decide +kernel
theorem dX10_rainAt_17 : decode cX10_rainAt 17 = .ok (.ireturn, 1) := by decide +kernel
theorem dX10_flowAt_0 : decode cX10_flowAt 0 = .ok (.iconst 0, 1) := by decide +kernel
theorem dX10_flowAt_1 : decode cX10_flowAt 1 = .ok (.istore_n 2, 1) := by decide +kernel
theorem dX10_flowAt_2 : decode cX10_flowAt 2 = .ok (.iconst 0, 1) := by decide +kernel
theorem dX10_flowAt_3 : decode cX10_flowAt 3 = .ok (.istore_n 3, 1) := by decide +kernel
theorem dX10_flowAt_4 : decode cX10_flowAt 4 = .ok (.iload_n 3, 1) := by decide +kernel
theorem dX10_flowAt_5 : decode cX10_flowAt 5 = .ok (.iconst 3, 1) := by decide +kernel
theorem dX10_flowAt_6 : decode cX10_flowAt 6 = .ok (.if_icmp .ge 27, 3) := by decide +kernel
theorem dX10_flowAt_9 : decode cX10_flowAt 9 = .ok (.iload_n 2, 1) := by decide +kernel
theorem dX10_flowAt_10 : decode cX10_flowAt 10 = .ok (.aload_n 0, 1) := by decide +kernel
theorem dX10_flowAt_11 : decode cX10_flowAt 11 = .ok (.iload_n 3, 1) := by decide +kernel
theorem dX10_flowAt_12 : decode cX10_flowAt 12 = .ok (.iload_n 1, 1) := by decide +kernel
theorem dX10_flowAt_13 : decode cX10_flowAt 13 = .ok (.invokevirtual 127, 3) := by decide +kernel
theorem dX10_flowAt_16 : decode cX10_flowAt 16 = .ok (.aload_n 0, 1) := by decide +kernel
theorem dX10_flowAt_17 : decode cX10_flowAt 17 = .ok (.getfield 7, 3) := by decide +kernel
theorem dX10_flowAt_20 : decode cX10_flowAt 20 = .ok (.iconst 0, 1) := by decide +kernel
theorem dX10_flowAt_21 : decode cX10_flowAt 21 = .ok (.iload_n 3, 1) := by decide +kernel
theorem dX10_flowAt_22 : decode cX10_flowAt 22 = .ok (.iadd, 1) := by decide +kernel
theorem dX10_flowAt_23 : decode cX10_flowAt 23 = .ok (.iaload, 1) := by decide +kernel
theorem dX10_flowAt_24 : decode cX10_flowAt 24 = .ok (.imul, 1) := by decide +kernel
theorem dX10_flowAt_25 : decode cX10_flowAt 25 = .ok (.iadd, 1) := by decide +kernel
theorem dX10_flowAt_26 : decode cX10_flowAt 26 = .ok (.istore_n 2, 1) := by decide +kernel
theorem dX10_flowAt_27 : decode cX10_flowAt 27 = .ok (.iinc 3 1, 3) := by decide +kernel
theorem dX10_flowAt_30 : decode cX10_flowAt 30 = .ok (.goto (-26), 3) := by decide +kernel
theorem dX10_flowAt_33 : decode cX10_flowAt 33 = .ok (.iload_n 2, 1) := by decide +kernel
theorem dX10_flowAt_34 : decode cX10_flowAt 34 = .ok (.ireturn, 1) := by decide +kernel
theorem dX10_current_0 : decode cX10_current 0 = .ok (.iconst 0, 1) := by decide +kernel
theorem dX10_current_1 : decode cX10_current 1 = .ok (.aload_n 0, 1) := by decide +kernel
theorem dX10_current_2 : decode cX10_current 2 = .ok (.aload_n 0, 1) := by decide +kernel
theorem dX10_current_3 : decode cX10_current 3 = .ok (.getfield 7, 3) := by decide +kernel
theorem dX10_current_6 : decode cX10_current 6 = .ok (.bipush 11, 2) := by decide +kernel
theorem dX10_current_8 : decode cX10_current 8 = .ok (.iaload, 1) := by decide +kernel
theorem dX10_current_9 : decode cX10_current 9 = .ok (.invokevirtual 130, 3) := by decide +kernel
theorem dX10_current_12 : decode cX10_current 12 = .ok (.aload_n 0, 1) := by decide +kernel
theorem dX10_current_13 : decode cX10_current 13 = .ok (.getfield 7, 3) := by decide +kernel
theorem dX10_current_16 : decode cX10_current 16 = .ok (.iconst 3, 1) := by decide +kernel
theorem dX10_current_17 : decode cX10_current 17 = .ok (.iaload, 1) := by decide +kernel
theorem dX10_current_18 : decode cX10_current 18 = .ok (.bipush 60, 2) := by decide +kernel
theorem dX10_current_20 : decode cX10_current 20 = .ok (.idiv, 1) := by decide +kernel
theorem dX10_current_21 : decode cX10_current 21 = .ok (.isub, 1) := by decide +kernel
theorem dX10_current_22 : decode cX10_current 22 = .ok (.invokestatic 120, 3) := by decide +kernel
theorem dX10_current_25 : decode cX10_current 25 = .ok (.ireturn, 1) := by decide +kernel
theorem dX10_stands_0 : decode cX10_stands 0 = .ok (.aload_n 0, 1) := by decide +kernel
theorem dX10_stands_1 : decode cX10_stands 1 = .ok (.getfield 7, 3) := by decide +kernel
theorem dX10_stands_4 : decode cX10_stands 4 = .ok (.bipush 8, 2) := by decide +kernel
theorem dX10_stands_6 : decode cX10_stands 6 = .ok (.iaload, 1) := by decide +kernel
theorem dX10_stands_7 : decode cX10_stands 7 = .ok (.aload_n 0, 1) := by decide +kernel
theorem dX10_stands_8 : decode cX10_stands 8 = .ok (.getfield 7, 3) := by decide +kernel
theorem dX10_stands_11 : decode cX10_stands 11 = .ok (.bipush 7, 2) := by decide +kernel
theorem dX10_stands_13 : decode cX10_stands 13 = .ok (.iaload, 1) := by decide +kernel
theorem dX10_stands_14 : decode cX10_stands 14 = .ok (.if_icmp .ge 7, 3) := by decide +kernel
theorem dX10_stands_17 : decode cX10_stands 17 = .ok (.iconst 1, 1) := by decide +kernel
theorem dX10_stands_18 : decode cX10_stands 18 = .ok (.goto 4, 3) := by decide +kernel
theorem dX10_stands_21 : decode cX10_stands 21 = .ok (.iconst 0, 1) := by decide +kernel
theorem dX10_stands_22 : decode cX10_stands 22 = .ok (.ireturn, 1) := by decide +kernel
theorem dX10_strikes_0 : decode cX10_strikes 0 = .ok (.aload_n 0, 1) := by decide +kernel
theorem dX10_strikes_1 : decode cX10_strikes 1 = .ok (.getfield 7, 3) := by decide +kernel
theorem dX10_strikes_4 : decode cX10_strikes 4 = .ok (.bipush 6, 2) := by decide +kernel
theorem dX10_strikes_6 : decode cX10_strikes 6 = .ok (.iaload, 1) := by decide +kernel
theorem dX10_strikes_7 : decode cX10_strikes 7 = .ok (.iconst 1, 1) := by decide +kernel
theorem dX10_strikes_8 : decode cX10_strikes 8 = .ok (.if_icmp .eq 10, 3) := by decide +kernel
theorem dX10_strikes_11 : decode cX10_strikes 11 = .ok (.aload_n 0, 1) := by decide +kernel
theorem dX10_strikes_12 : decode cX10_strikes 12 = .ok (.invokevirtual 133, 3) := by decide +kernel
theorem dX10_strikes_15 : decode cX10_strikes 15 = .ok (.ifCond .ne 7, 3) := by decide +kernel
theorem dX10_strikes_18 : decode cX10_strikes 18 = .ok (.iconst 0, 1) := by decide +kernel
theorem dX10_strikes_19 : decode cX10_strikes 19 = .ok (.goto 24, 3) := by decide +kernel
theorem dX10_strikes_22 : decode cX10_strikes 22 = .ok (.aload_n 0, 1) := by decide +kernel
theorem dX10_strikes_23 : decode cX10_strikes 23 = .ok (.iconst 0, 1) := by decide +kernel
theorem dX10_strikes_24 : decode cX10_strikes 24 = .ok (.aload_n 0, 1) := by decide +kernel
theorem dX10_strikes_25 : decode cX10_strikes 25 = .ok (.invokevirtual 137, 3) := by decide +kernel
theorem dX10_strikes_28 : decode cX10_strikes 28 = .ok (.aload_n 0, 1) := by decide +kernel
theorem dX10_strikes_29 : decode cX10_strikes 29 = .ok (.getfield 7, 3) := by decide +kernel
theorem dX10_strikes_32 : decode cX10_strikes 32 = .ok (.iconst 5, 1) := by decide +kernel
theorem dX10_strikes_33 : decode cX10_strikes 33 = .ok (.iaload, 1) := by decide +kernel
theorem dX10_strikes_34 : decode cX10_strikes 34 = .ok (.aload_n 0, 1) := by decide +kernel
theorem dX10_strikes_35 : decode cX10_strikes 35 = .ok (.getfield 7, 3) := by decide +kernel
theorem dX10_strikes_38 : decode cX10_strikes 38 = .ok (.iconst 3, 1) := by decide +kernel
theorem dX10_strikes_39 : decode cX10_strikes 39 = .ok (.iaload, 1) := by decide +kernel
theorem dX10_strikes_40 : decode cX10_strikes 40 = .ok (.invokevirtual 123, 3) := by decide +kernel
theorem dX10_strikes_43 : decode cX10_strikes 43 = .ok (.ireturn, 1) := by decide +kernel
theorem dX10_note_0 : decode cX10_note 0 = .ok (.aload_n 0, 1) := by decide +kernel
theorem dX10_note_1 : decode cX10_note 1 = .ok (.invokevirtual 140, 3) := by decide +kernel
theorem dX10_note_4 : decode cX10_note 4 = .ok (.istore_n 1, 1) := by decide +kernel
theorem dX10_note_5 : decode cX10_note 5 = .ok (.iload_n 1, 1) := by decide +kernel
theorem dX10_note_6 : decode cX10_note 6 = .ok (.ifCond .ne 7, 3) := by decide +kernel
theorem dX10_note_9 : decode cX10_note 9 = .ok (.iconst 0, 1) := by decide +kernel
theorem dX10_note_10 : decode cX10_note 10 = .ok (.goto 19, 3) := by decide +kernel
theorem dX10_note_13 : decode cX10_note 13 = .ok (.iconst 1, 1) := by decide +kernel
theorem dX10_note_14 : decode cX10_note 14 = .ok (.aload_n 0, 1) := by decide +kernel
theorem dX10_note_15 : decode cX10_note 15 = .ok (.getfield 7, 3) := by decide +kernel
theorem dX10_note_18 : decode cX10_note 18 = .ok (.iconst 5, 1) := by decide +kernel
theorem dX10_note_19 : decode cX10_note 19 = .ok (.iaload, 1) := by decide +kernel
theorem dX10_note_20 : decode cX10_note 20 = .ok (.bipush 10, 2) := by decide +kernel
theorem dX10_note_22 : decode cX10_note 22 = .ok (.idiv, 1) := by decide +kernel
theorem dX10_note_23 : decode cX10_note 23 = .ok (.iload_n 1, 1) := by decide +kernel
theorem dX10_note_24 : decode cX10_note 24 = .ok (.iadd, 1) := by decide +kernel
theorem dX10_note_25 : decode cX10_note 25 = .ok (.bipush 9, 2) := by decide +kernel
theorem dX10_note_27 : decode cX10_note 27 = .ok (.irem, 1) := by decide +kernel
theorem dX10_note_28 : decode cX10_note 28 = .ok (.iadd, 1) := by decide +kernel
theorem dX10_note_29 : decode cX10_note 29 = .ok (.ireturn, 1) := by decide +kernel
theorem dX10_rain_0 : decode cX10_rain 0 = .ok (.iload_n 1, 1) := by decide +kernel
theorem dX10_rain_1 : decode cX10_rain 1 = .ok (.i2l, 1) := by decide +kernel
theorem dX10_rain_2 : decode cX10_rain 2 = .ok (.lconst 0, 1) := by decide +kernel
theorem dX10_rain_3 : decode cX10_rain 3 = .ok (.ldc2_w 143, 3) := by decide +kernel
theorem dX10_rain_6 : decode cX10_rain 6 = .ok (.invokestatic 41, 3) := by decide +kernel
theorem dX10_rain_9 : decode cX10_rain 9 = .ok (.ifCond .eq 27, 3) := by decide +kernel
theorem dX10_rain_12 : decode cX10_rain 12 = .ok (.iload_n 2, 1) := by decide +kernel
theorem dX10_rain_13 : decode cX10_rain 13 = .ok (.i2l, 1) := by decide +kernel
theorem dX10_rain_14 : decode cX10_rain 14 = .ok (.lconst 0, 1) := by decide +kernel
theorem dX10_rain_15 : decode cX10_rain 15 = .ok (.ldc2_w 145, 3) := by decide +kernel
theorem dX10_rain_18 : decode cX10_rain 18 = .ok (.invokestatic 41, 3) := by decide +kernel
theorem dX10_rain_21 : decode cX10_rain 21 = .ok (.ifCond .eq 15, 3) := by decide +kernel
theorem dX10_rain_24 : decode cX10_rain 24 = .ok (.iload_n 3, 1) := by decide +kernel
theorem dX10_rain_25 : decode cX10_rain 25 = .ok (.i2l, 1) := by decide +kernel
theorem dX10_rain_26 : decode cX10_rain 26 = .ok (.lconst 0, 1) := by decide +kernel
theorem dX10_rain_27 : decode cX10_rain 27 = .ok (.ldc2_w 147, 3) := by decide +kernel
theorem dX10_rain_30 : decode cX10_rain 30 = .ok (.invokestatic 41, 3) := by decide +kernel
theorem dX10_rain_33 : decode cX10_rain 33 = .ok (.ifCond .ne 9, 3) := by decide +kernel
theorem dX10_rain_36 : decode cX10_rain 36 = .ok (.aload_n 0, 1) := by decide +kernel
theorem dX10_rain_37 : decode cX10_rain 37 = .ok (.iconst 1, 1) := by decide +kernel
theorem dX10_rain_38 : decode cX10_rain 38 = .ok (.invokevirtual 104, 3) := by decide +kernel
theorem dX10_rain_41 : decode cX10_rain 41 = .ok (.ireturn, 1) := by decide +kernel
theorem dX10_rain_42 : decode cX10_rain 42 = .ok (.aload_n 0, 1) := by decide +kernel
theorem dX10_rain_43 : decode cX10_rain 43 = .ok (.iload_n 1, 1) := by decide +kernel
theorem dX10_rain_44 : decode cX10_rain 44 = .ok (.iload_n 2, 1) := by decide +kernel
theorem dX10_rain_45 : decode cX10_rain 45 = .ok (.invokevirtual 127, 3) := by decide +kernel
theorem dX10_rain_48 : decode cX10_rain 48 = .ok (.istore 4, 2) := by decide +kernel
theorem dX10_rain_50 : decode cX10_rain 50 = .ok (.aload_n 0, 1) := by decide +kernel
theorem dX10_rain_51 : decode cX10_rain 51 = .ok (.getfield 7, 3) := by decide +kernel
theorem dX10_rain_54 : decode cX10_rain 54 = .ok (.bipush 16, 2) := by decide +kernel
theorem dX10_rain_56 : decode cX10_rain 56 = .ok (.bipush 24, 2) := by decide +kernel
theorem dX10_rain_58 : decode cX10_rain 58 = .ok (.iload_n 1, 1) := by decide +kernel
theorem dX10_rain_59 : decode cX10_rain 59 = .ok (.imul, 1) := by decide +kernel
theorem dX10_rain_60 : decode cX10_rain 60 = .ok (.iadd, 1) := by decide +kernel
theorem dX10_rain_61 : decode cX10_rain 61 = .ok (.iload_n 2, 1) := by decide +kernel
theorem dX10_rain_62 : decode cX10_rain 62 = .ok (.iadd, 1) := by decide +kernel
theorem dX10_rain_63 : decode cX10_rain 63 = .ok (.iload_n 3, 1) := by decide +kernel
theorem dX10_rain_64 : decode cX10_rain 64 = .ok (.iastore, 1) := by decide +kernel
theorem dX10_rain_65 : decode cX10_rain 65 = .ok (.iload 4, 2) := by decide +kernel
theorem dX10_rain_67 : decode cX10_rain 67 = .ok (.ireturn, 1) := by decide +kernel
theorem dX10_set_0 : decode cX10_set 0 = .ok (.iload_n 1, 1) := by decide +kernel
theorem dX10_set_1 : decode cX10_set 1 = .ok (.i2l, 1) := by decide +kernel
theorem dX10_set_2 : decode cX10_set 2 = .ok (.lconst 0, 1) := by decide +kernel
theorem dX10_set_3 : decode cX10_set 3 = .ok (.ldc2_w 143, 3) := by decide +kernel
theorem dX10_set_6 : decode cX10_set 6 = .ok (.invokestatic 41, 3) := by decide +kernel
theorem dX10_set_9 : decode cX10_set 9 = .ok (.ifCond .eq 15, 3) := by decide +kernel
theorem dX10_set_12 : decode cX10_set 12 = .ok (.iload_n 2, 1) := by decide +kernel
theorem dX10_set_13 : decode cX10_set 13 = .ok (.i2l, 1) := by decide +kernel
theorem dX10_set_14 : decode cX10_set 14 = .ok (.lconst 1, 1) := by decide +kernel
theorem dX10_set_15 : decode cX10_set 15 = .ok (.ldc2_w 149, 3) := by decide +kernel
theorem dX10_set_18 : decode cX10_set 18 = .ok (.invokestatic 41, 3) := by decide +kernel
theorem dX10_set_21 : decode cX10_set 21 = .ok (.goto 81, 3) := by decide +kernel
theorem dX10_set_24 : decode cX10_set 24 = .ok (.iload_n 1, 1) := by decide +kernel
theorem dX10_set_25 : decode cX10_set 25 = .ok (.iconst 3, 1) := by decide +kernel
theorem dX10_set_26 : decode cX10_set 26 = .ok (.if_icmp .ne 15, 3) := by decide +kernel
theorem dX10_set_29 : decode cX10_set 29 = .ok (.iload_n 2, 1) := by decide +kernel
theorem dX10_set_30 : decode cX10_set 30 = .ok (.i2l, 1) := by decide +kernel
theorem dX10_set_31 : decode cX10_set 31 = .ok (.lconst 0, 1) := by decide +kernel
theorem dX10_set_32 : decode cX10_set 32 = .ok (.ldc2_w 151, 3) := by decide +kernel
theorem dX10_set_35 : decode cX10_set 35 = .ok (.invokestatic 41, 3) := by decide +kernel
theorem dX10_set_38 : decode cX10_set 38 = .ok (.goto 64, 3) := by decide +kernel
theorem dX10_set_41 : decode cX10_set 41 = .ok (.iload_n 1, 1) := by decide +kernel
theorem dX10_set_42 : decode cX10_set 42 = .ok (.iconst 4, 1) := by decide +kernel
theorem dX10_set_43 : decode cX10_set 43 = .ok (.if_icmp .eq 8, 3) := by decide +kernel
theorem dX10_set_46 : decode cX10_set 46 = .ok (.iload_n 1, 1) := by decide +kernel
theorem dX10_set_47 : decode cX10_set 47 = .ok (.iconst 5, 1) := by decide +kernel
theorem dX10_set_48 : decode cX10_set 48 = .ok (.if_icmp .ne 15, 3) := by decide +kernel
theorem dX10_set_51 : decode cX10_set 51 = .ok (.iload_n 2, 1) := by decide +kernel
theorem dX10_set_52 : decode cX10_set 52 = .ok (.i2l, 1) := by decide +kernel
theorem dX10_set_53 : decode cX10_set 53 = .ok (.lconst 0, 1) := by decide +kernel
theorem dX10_set_54 : decode cX10_set 54 = .ok (.ldc2_w 153, 3) := by decide +kernel
theorem dX10_set_57 : decode cX10_set 57 = .ok (.invokestatic 41, 3) := by decide +kernel
theorem dX10_set_60 : decode cX10_set 60 = .ok (.goto 42, 3) := by decide +kernel
theorem dX10_set_63 : decode cX10_set 63 = .ok (.iload_n 1, 1) := by decide +kernel
theorem dX10_set_64 : decode cX10_set 64 = .ok (.bipush 6, 2) := by decide +kernel
theorem dX10_set_66 : decode cX10_set 66 = .ok (.if_icmp .ne 13, 3) := by decide +kernel
theorem dX10_set_69 : decode cX10_set 69 = .ok (.iload_n 2, 1) := by decide +kernel
theorem dX10_set_70 : decode cX10_set 70 = .ok (.i2l, 1) := by decide +kernel
theorem dX10_set_71 : decode cX10_set 71 = .ok (.lconst 0, 1) := by decide +kernel
theorem dX10_set_72 : decode cX10_set 72 = .ok (.lconst 1, 1) := by decide +kernel
theorem dX10_set_73 : decode cX10_set 73 = .ok (.invokestatic 41, 3) := by decide +kernel
theorem dX10_set_76 : decode cX10_set 76 = .ok (.goto 26, 3) := by decide +kernel
theorem dX10_set_79 : decode cX10_set 79 = .ok (.iload_n 1, 1) := by decide +kernel
theorem dX10_set_80 : decode cX10_set 80 = .ok (.bipush 7, 2) := by decide +kernel
theorem dX10_set_82 : decode cX10_set 82 = .ok (.if_icmp .ne 19, 3) := by decide +kernel
theorem dX10_set_85 : decode cX10_set 85 = .ok (.iload_n 2, 1) := by decide +kernel
theorem dX10_set_86 : decode cX10_set 86 = .ok (.i2l, 1) := by decide +kernel
theorem dX10_set_87 : decode cX10_set 87 = .ok (.lconst 1, 1) := by decide +kernel
theorem dX10_set_88 : decode cX10_set 88 = .ok (.ldc2_w 155, 3) := by decide +kernel
theorem dX10_set_91 : decode cX10_set 91 = .ok (.invokestatic 41, 3) := by decide +kernel
theorem dX10_set_94 : decode cX10_set 94 = .ok (.ifCond .eq 7, 3) := by decide +kernel
theorem dX10_set_97 : decode cX10_set 97 = .ok (.iconst 1, 1) := by decide +kernel
theorem dX10_set_98 : decode cX10_set 98 = .ok (.goto 4, 3) := by decide +kernel
theorem dX10_set_101 : decode cX10_set 101 = .ok (.iconst 0, 1) := by decide +kernel
theorem dX10_set_102 : decode cX10_set 102 = .ok (.istore_n 3, 1) := by decide +kernel
theorem dX10_set_103 : decode cX10_set 103 = .ok (.iload_n 3, 1) := by decide +kernel
theorem dX10_set_104 : decode cX10_set 104 = .ok (.ifCond .ne 9, 3) := by decide +kernel
theorem dX10_set_107 : decode cX10_set 107 = .ok (.aload_n 0, 1) := by decide +kernel
theorem dX10_set_108 : decode cX10_set 108 = .ok (.iconst 1, 1) := by decide +kernel
theorem dX10_set_109 : decode cX10_set 109 = .ok (.invokevirtual 104, 3) := by decide +kernel
theorem dX10_set_112 : decode cX10_set 112 = .ok (.ireturn, 1) := by decide +kernel
theorem dX10_set_113 : decode cX10_set 113 = .ok (.aload_n 0, 1) := by decide +kernel
theorem dX10_set_114 : decode cX10_set 114 = .ok (.getfield 7, 3) := by decide +kernel
theorem dX10_set_117 : decode cX10_set 117 = .ok (.iload_n 1, 1) := by decide +kernel
theorem dX10_set_118 : decode cX10_set 118 = .ok (.iaload, 1) := by decide +kernel
theorem dX10_set_119 : decode cX10_set 119 = .ok (.istore 4, 2) := by decide +kernel
theorem dX10_set_121 : decode cX10_set 121 = .ok (.aload_n 0, 1) := by decide +kernel
theorem dX10_set_122 : decode cX10_set 122 = .ok (.getfield 7, 3) := by decide +kernel
theorem dX10_set_125 : decode cX10_set 125 = .ok (.iload_n 1, 1) := by decide +kernel
theorem dX10_set_126 : decode cX10_set 126 = .ok (.iload_n 2, 1) := by decide +kernel
theorem dX10_set_127 : decode cX10_set 127 = .ok (.iastore, 1) := by decide +kernel
theorem dX10_set_128 : decode cX10_set 128 = .ok (.iload 4, 2) := by decide +kernel
theorem dX10_set_130 : decode cX10_set 130 = .ok (.ireturn, 1) := by decide +kernel
theorem dX10_toldNow_0 : decode cX10_toldNow 0 = .ok (.iload_n 1, 1) := by decide +kernel
theorem dX10_toldNow_1 : decode cX10_toldNow 1 = .ok (.tableswitch 156 0 11 #[63, 75, 80, 85, 90, 97, 104, 111, 119, 132, 140, 148], 63) := by decide +kernel
theorem dX10_toldNow_64 : decode cX10_toldNow 64 = .ok (.aload_n 0, 1) := by decide +kernel
theorem dX10_toldNow_65 : decode cX10_toldNow 65 = .ok (.aload_n 0, 1) := by decide +kernel
theorem dX10_toldNow_66 : decode cX10_toldNow 66 = .ok (.getfield 7, 3) := by decide +kernel
theorem dX10_toldNow_69 : decode cX10_toldNow 69 = .ok (.bipush 11, 2) := by decide +kernel
theorem dX10_toldNow_71 : decode cX10_toldNow 71 = .ok (.iaload, 1) := by decide +kernel
theorem dX10_toldNow_72 : decode cX10_toldNow 72 = .ok (.invokevirtual 130, 3) := by decide +kernel
theorem dX10_toldNow_75 : decode cX10_toldNow 75 = .ok (.ireturn, 1) := by decide +kernel
theorem dX10_toldNow_76 : decode cX10_toldNow 76 = .ok (.aload_n 0, 1) := by decide +kernel
theorem dX10_toldNow_77 : decode cX10_toldNow 77 = .ok (.invokevirtual 137, 3) := by decide +kernel
theorem dX10_toldNow_80 : decode cX10_toldNow 80 = .ok (.ireturn, 1) := by decide +kernel
theorem dX10_toldNow_81 : decode cX10_toldNow 81 = .ok (.aload_n 0, 1) := by decide +kernel
theorem dX10_toldNow_82 : decode cX10_toldNow 82 = .ok (.invokevirtual 140, 3) := by decide +kernel
theorem dX10_toldNow_85 : decode cX10_toldNow 85 = .ok (.ireturn, 1) := by decide +kernel
theorem dX10_toldNow_86 : decode cX10_toldNow 86 = .ok (.aload_n 0, 1) := by decide +kernel
theorem dX10_toldNow_87 : decode cX10_toldNow 87 = .ok (.invokevirtual 157, 3) := by decide +kernel
theorem dX10_toldNow_90 : decode cX10_toldNow 90 = .ok (.ireturn, 1) := by decide +kernel
theorem dX10_toldNow_91 : decode cX10_toldNow 91 = .ok (.aload_n 0, 1) := by decide +kernel
theorem dX10_toldNow_92 : decode cX10_toldNow 92 = .ok (.getfield 7, 3) := by decide +kernel
theorem dX10_toldNow_95 : decode cX10_toldNow 95 = .ok (.iconst 3, 1) := by decide +kernel
theorem dX10_toldNow_96 : decode cX10_toldNow 96 = .ok (.iaload, 1) := by decide +kernel
theorem dX10_toldNow_97 : decode cX10_toldNow 97 = .ok (.ireturn, 1) := by decide +kernel
theorem dX10_toldNow_98 : decode cX10_toldNow 98 = .ok (.aload_n 0, 1) := by decide +kernel
theorem dX10_toldNow_99 : decode cX10_toldNow 99 = .ok (.getfield 7, 3) := by decide +kernel
theorem dX10_toldNow_102 : decode cX10_toldNow 102 = .ok (.iconst 4, 1) := by decide +kernel
theorem dX10_toldNow_103 : decode cX10_toldNow 103 = .ok (.iaload, 1) := by decide +kernel
theorem dX10_toldNow_104 : decode cX10_toldNow 104 = .ok (.ireturn, 1) := by decide +kernel
theorem dX10_toldNow_105 : decode cX10_toldNow 105 = .ok (.aload_n 0, 1) := by decide +kernel
theorem dX10_toldNow_106 : decode cX10_toldNow 106 = .ok (.getfield 7, 3) := by decide +kernel
theorem dX10_toldNow_109 : decode cX10_toldNow 109 = .ok (.iconst 5, 1) := by decide +kernel
theorem dX10_toldNow_110 : decode cX10_toldNow 110 = .ok (.iaload, 1) := by decide +kernel
theorem dX10_toldNow_111 : decode cX10_toldNow 111 = .ok (.ireturn, 1) := by decide +kernel
theorem dX10_toldNow_112 : decode cX10_toldNow 112 = .ok (.aload_n 0, 1) := by decide +kernel
theorem dX10_toldNow_113 : decode cX10_toldNow 113 = .ok (.getfield 7, 3) := by decide +kernel
theorem dX10_toldNow_116 : decode cX10_toldNow 116 = .ok (.bipush 8, 2) := by decide +kernel
theorem dX10_toldNow_118 : decode cX10_toldNow 118 = .ok (.iaload, 1) := by decide +kernel
theorem dX10_toldNow_119 : decode cX10_toldNow 119 = .ok (.ireturn, 1) := by decide +kernel
theorem dX10_toldNow_120 : decode cX10_toldNow 120 = .ok (.aload_n 0, 1) := by decide +kernel
theorem dX10_toldNow_121 : decode cX10_toldNow 121 = .ok (.invokevirtual 133, 3) := by decide +kernel
theorem dX10_toldNow_124 : decode cX10_toldNow 124 = .ok (.ifCond .eq 7, 3) := by decide +kernel
theorem dX10_toldNow_127 : decode cX10_toldNow 127 = .ok (.iconst 1, 1) := by decide +kernel
theorem dX10_toldNow_128 : decode cX10_toldNow 128 = .ok (.goto 4, 3) := by decide +kernel
theorem dX10_toldNow_131 : decode cX10_toldNow 131 = .ok (.iconst 0, 1) := by decide +kernel
theorem dX10_toldNow_132 : decode cX10_toldNow 132 = .ok (.ireturn, 1) := by decide +kernel
theorem dX10_toldNow_133 : decode cX10_toldNow 133 = .ok (.aload_n 0, 1) := by decide +kernel
theorem dX10_toldNow_134 : decode cX10_toldNow 134 = .ok (.getfield 7, 3) := by decide +kernel
theorem dX10_toldNow_137 : decode cX10_toldNow 137 = .ok (.bipush 9, 2) := by decide +kernel
theorem dX10_toldNow_139 : decode cX10_toldNow 139 = .ok (.iaload, 1) := by decide +kernel
theorem dX10_toldNow_140 : decode cX10_toldNow 140 = .ok (.ireturn, 1) := by decide +kernel
theorem dX10_toldNow_141 : decode cX10_toldNow 141 = .ok (.aload_n 0, 1) := by decide +kernel
theorem dX10_toldNow_142 : decode cX10_toldNow 142 = .ok (.getfield 7, 3) := by decide +kernel
theorem dX10_toldNow_145 : decode cX10_toldNow 145 = .ok (.bipush 10, 2) := by decide +kernel
theorem dX10_toldNow_147 : decode cX10_toldNow 147 = .ok (.iaload, 1) := by decide +kernel
theorem dX10_toldNow_148 : decode cX10_toldNow 148 = .ok (.ireturn, 1) := by decide +kernel
theorem dX10_toldNow_149 : decode cX10_toldNow 149 = .ok (.aload_n 0, 1) := by decide +kernel
theorem dX10_toldNow_150 : decode cX10_toldNow 150 = .ok (.getfield 7, 3) := by decide +kernel
theorem dX10_toldNow_153 : decode cX10_toldNow 153 = .ok (.bipush 6, 2) := by decide +kernel
theorem dX10_toldNow_155 : decode cX10_toldNow 155 = .ok (.iaload, 1) := by decide +kernel
theorem dX10_toldNow_156 : decode cX10_toldNow 156 = .ok (.ireturn, 1) := by decide +kernel
theorem dX10_toldNow_157 : decode cX10_toldNow 157 = .ok (.aload_n 0, 1) := by decide +kernel
theorem dX10_toldNow_158 : decode cX10_toldNow 158 = .ok (.getfield 7, 3) := by decide +kernel
theorem dX10_toldNow_161 : decode cX10_toldNow 161 = .ok (.bipush 7, 2) := by decide +kernel
theorem dX10_toldNow_163 : decode cX10_toldNow 163 = .ok (.iaload, 1) := by decide +kernel
theorem dX10_toldNow_164 : decode cX10_toldNow 164 = .ok (.ireturn, 1) := by decide +kernel
theorem dX10_now_0 : decode cX10_now 0 = .ok (.iload_n 1, 1) := by decide +kernel
theorem dX10_now_1 : decode cX10_now 1 = .ok (.i2l, 1) := by decide +kernel
theorem dX10_now_2 : decode cX10_now 2 = .ok (.lconst 0, 1) := by decide +kernel
theorem dX10_now_3 : decode cX10_now 3 = .ok (.ldc2_w 160, 3) := by decide +kernel
theorem dX10_now_6 : decode cX10_now 6 = .ok (.invokestatic 41, 3) := by decide +kernel
theorem dX10_now_9 : decode cX10_now 9 = .ok (.ifCond .eq 11, 3) := by decide +kernel
theorem dX10_now_12 : decode cX10_now 12 = .ok (.aload_n 0, 1) := by decide +kernel
theorem dX10_now_13 : decode cX10_now 13 = .ok (.iload_n 1, 1) := by decide +kernel
theorem dX10_now_14 : decode cX10_now 14 = .ok (.invokevirtual 162, 3) := by decide +kernel
theorem dX10_now_17 : decode cX10_now 17 = .ok (.goto 8, 3) := by decide +kernel
theorem dX10_now_20 : decode cX10_now 20 = .ok (.aload_n 0, 1) := by decide +kernel
theorem dX10_now_21 : decode cX10_now 21 = .ok (.iconst 1, 1) := by decide +kernel
theorem dX10_now_22 : decode cX10_now 22 = .ok (.invokevirtual 104, 3) := by decide +kernel
theorem dX10_now_25 : decode cX10_now 25 = .ok (.ireturn, 1) := by decide +kernel
theorem dX10_led_0 : decode cX10_led 0 = .ok (.iload_n 1, 1) := by decide +kernel
theorem dX10_led_1 : decode cX10_led 1 = .ok (.i2l, 1) := by decide +kernel
theorem dX10_led_2 : decode cX10_led 2 = .ok (.lconst 0, 1) := by decide +kernel
theorem dX10_led_3 : decode cX10_led 3 = .ok (.ldc2_w 145, 3) := by decide +kernel
theorem dX10_led_6 : decode cX10_led 6 = .ok (.invokestatic 41, 3) := by decide +kernel
theorem dX10_led_9 : decode cX10_led 9 = .ok (.ifCond .ne 9, 3) := by decide +kernel
theorem dX10_led_12 : decode cX10_led 12 = .ok (.aload_n 0, 1) := by decide +kernel
theorem dX10_led_13 : decode cX10_led 13 = .ok (.iconst 1, 1) := by decide +kernel
theorem dX10_led_14 : decode cX10_led 14 = .ok (.invokevirtual 104, 3) := by decide +kernel
theorem dX10_led_17 : decode cX10_led 17 = .ok (.ireturn, 1) := by decide +kernel
theorem dX10_led_18 : decode cX10_led 18 = .ok (.iconst 0, 1) := by decide +kernel
theorem dX10_led_19 : decode cX10_led 19 = .ok (.istore_n 2, 1) := by decide +kernel
theorem dX10_led_20 : decode cX10_led 20 = .ok (.iconst 1, 1) := by decide +kernel
theorem dX10_led_21 : decode cX10_led 21 = .ok (.istore_n 3, 1) := by decide +kernel
theorem dX10_led_22 : decode cX10_led 22 = .ok (.iload_n 3, 1) := by decide +kernel
theorem dX10_led_23 : decode cX10_led 23 = .ok (.iconst 3, 1) := by decide +kernel
theorem dX10_led_24 : decode cX10_led 24 = .ok (.if_icmp .ge 48, 3) := by decide +kernel
theorem dX10_led_27 : decode cX10_led 27 = .ok (.aload_n 0, 1) := by decide +kernel
theorem dX10_led_28 : decode cX10_led 28 = .ok (.iload_n 3, 1) := by decide +kernel
theorem dX10_led_29 : decode cX10_led 29 = .ok (.iload_n 1, 1) := by decide +kernel
theorem dX10_led_30 : decode cX10_led 30 = .ok (.invokevirtual 127, 3) := by decide +kernel
theorem dX10_led_33 : decode cX10_led 33 = .ok (.aload_n 0, 1) := by decide +kernel
theorem dX10_led_34 : decode cX10_led 34 = .ok (.getfield 7, 3) := by decide +kernel
theorem dX10_led_37 : decode cX10_led 37 = .ok (.iconst 0, 1) := by decide +kernel
theorem dX10_led_38 : decode cX10_led 38 = .ok (.iload_n 3, 1) := by decide +kernel
theorem dX10_led_39 : decode cX10_led 39 = .ok (.iadd, 1) := by decide +kernel
theorem dX10_led_40 : decode cX10_led 40 = .ok (.iaload, 1) := by decide +kernel
theorem dX10_led_41 : decode cX10_led 41 = .ok (.imul, 1) := by decide +kernel
theorem dX10_led_42 : decode cX10_led 42 = .ok (.aload_n 0, 1) := by decide +kernel
theorem dX10_led_43 : decode cX10_led 43 = .ok (.iload_n 2, 1) := by decide +kernel
theorem dX10_led_44 : decode cX10_led 44 = .ok (.iload_n 1, 1) := by decide +kernel
theorem dX10_led_45 : decode cX10_led 45 = .ok (.invokevirtual 127, 3) := by decide +kernel
theorem dX10_led_48 : decode cX10_led 48 = .ok (.aload_n 0, 1) := by decide +kernel
theorem dX10_led_49 : decode cX10_led 49 = .ok (.getfield 7, 3) := by decide +kernel
theorem dX10_led_52 : decode cX10_led 52 = .ok (.iconst 0, 1) := by decide +kernel
theorem dX10_led_53 : decode cX10_led 53 = .ok (.iload_n 2, 1) := by decide +kernel
theorem dX10_led_54 : decode cX10_led 54 = .ok (.iadd, 1) := by decide +kernel
theorem dX10_led_55 : decode cX10_led 55 = .ok (.iaload, 1) := by decide +kernel
theorem dX10_led_56 : decode cX10_led 56 = .ok (.imul, 1) := by decide +kernel
theorem dX10_led_57 : decode cX10_led 57 = .ok (.if_icmp .le 7, 3) := by decide +kernel
theorem dX10_led_60 : decode cX10_led 60 = .ok (.iload_n 3, 1) := by decide +kernel
theorem dX10_led_61 : decode cX10_led 61 = .ok (.goto 4, 3) := by decide +kernel
theorem dX10_led_64 : decode cX10_led 64 = .ok (.iload_n 2, 1) := by decide +kernel
theorem dX10_led_65 : decode cX10_led 65 = .ok (.istore_n 2, 1) := by decide +kernel
theorem dX10_led_66 : decode cX10_led 66 = .ok (.iinc 3 1, 3) := by decide +kernel
theorem dX10_led_69 : decode cX10_led 69 = .ok (.goto (-47), 3) := by decide +kernel
theorem dX10_led_72 : decode cX10_led 72 = .ok (.aload_n 0, 1) := by decide +kernel
theorem dX10_led_73 : decode cX10_led 73 = .ok (.iload_n 1, 1) := by decide +kernel
theorem dX10_led_74 : decode cX10_led 74 = .ok (.invokevirtual 130, 3) := by decide +kernel
theorem dX10_led_77 : decode cX10_led 77 = .ok (.ifCond .ne 11, 3) := by decide +kernel
theorem dX10_led_80 : decode cX10_led 80 = .ok (.aload_n 0, 1) := by decide +kernel
theorem dX10_led_81 : decode cX10_led 81 = .ok (.iconst 2, 1) := by decide +kernel
theorem dX10_led_82 : decode cX10_led 82 = .ok (.invokevirtual 104, 3) := by decide +kernel
theorem dX10_led_85 : decode cX10_led 85 = .ok (.goto 4, 3) := by decide +kernel
theorem dX10_led_88 : decode cX10_led 88 = .ok (.iload_n 2, 1) := by decide +kernel
theorem dX10_led_89 : decode cX10_led 89 = .ok (.ireturn, 1) := by decide +kernel
theorem dX10_thing_0 : decode cX10_thing 0 = .ok (.iload_n 1, 1) := by decide +kernel
theorem dX10_thing_1 : decode cX10_thing 1 = .ok (.i2l, 1) := by decide +kernel
theorem dX10_thing_2 : decode cX10_thing 2 = .ok (.lconst 0, 1) := by decide +kernel
theorem dX10_thing_3 : decode cX10_thing 3 = .ok (.ldc2_w 149, 3) := by decide +kernel
theorem dX10_thing_6 : decode cX10_thing 6 = .ok (.invokestatic 41, 3) := by decide +kernel
theorem dX10_thing_9 : decode cX10_thing 9 = .ok (.ifCond .eq 15, 3) := by decide +kernel
theorem dX10_thing_12 : decode cX10_thing 12 = .ok (.iload_n 2, 1) := by decide +kernel
theorem dX10_thing_13 : decode cX10_thing 13 = .ok (.i2l, 1) := by decide +kernel
theorem dX10_thing_14 : decode cX10_thing 14 = .ok (.lconst 0, 1) := by decide +kernel
theorem dX10_thing_15 : decode cX10_thing 15 = .ok (.ldc2_w 151, 3) := by decide +kernel
theorem dX10_thing_18 : decode cX10_thing 18 = .ok (.invokestatic 41, 3) := by decide +kernel
theorem dX10_thing_21 : decode cX10_thing 21 = .ok (.ifCond .ne 9, 3) := by decide +kernel
theorem dX10_thing_24 : decode cX10_thing 24 = .ok (.aload_n 0, 1) := by decide +kernel
theorem dX10_thing_25 : decode cX10_thing 25 = .ok (.iconst 1, 1) := by decide +kernel
theorem dX10_thing_26 : decode cX10_thing 26 = .ok (.invokevirtual 104, 3) := by decide +kernel
theorem dX10_thing_29 : decode cX10_thing 29 = .ok (.ireturn, 1) := by decide +kernel
theorem dX10_thing_30 : decode cX10_thing 30 = .ok (.aload_n 0, 1) := by decide +kernel
theorem dX10_thing_31 : decode cX10_thing 31 = .ok (.getfield 7, 3) := by decide +kernel
theorem dX10_thing_34 : decode cX10_thing 34 = .ok (.bipush 108, 2) := by decide +kernel
theorem dX10_thing_36 : decode cX10_thing 36 = .ok (.iload_n 1, 1) := by decide +kernel
theorem dX10_thing_37 : decode cX10_thing 37 = .ok (.iadd, 1) := by decide +kernel
theorem dX10_thing_38 : decode cX10_thing 38 = .ok (.iaload, 1) := by decide +kernel
theorem dX10_thing_39 : decode cX10_thing 39 = .ok (.istore_n 3, 1) := by decide +kernel
theorem dX10_thing_40 : decode cX10_thing 40 = .ok (.aload_n 0, 1) := by decide +kernel
theorem dX10_thing_41 : decode cX10_thing 41 = .ok (.getfield 7, 3) := by decide +kernel
theorem dX10_thing_44 : decode cX10_thing 44 = .ok (.bipush 108, 2) := by decide +kernel
theorem dX10_thing_46 : decode cX10_thing 46 = .ok (.iload_n 1, 1) := by decide +kernel
theorem dX10_thing_47 : decode cX10_thing 47 = .ok (.iadd, 1) := by decide +kernel
theorem dX10_thing_48 : decode cX10_thing 48 = .ok (.iload_n 2, 1) := by decide +kernel
theorem dX10_thing_49 : decode cX10_thing 49 = .ok (.iastore, 1) := by decide +kernel
theorem dX10_thing_50 : decode cX10_thing 50 = .ok (.iload_n 3, 1) := by decide +kernel
theorem dX10_thing_51 : decode cX10_thing 51 = .ok (.ireturn, 1) := by decide +kernel
theorem dX10_shows_0 : decode cX10_shows 0 = .ok (.iconst 0, 1) := by decide +kernel
theorem dX10_shows_1 : decode cX10_shows 1 = .ok (.istore_n 1, 1) := by decide +kernel
theorem dX10_shows_2 : decode cX10_shows 2 = .ok (.iconst 0, 1) := by decide +kernel
theorem dX10_shows_3 : decode cX10_shows 3 = .ok (.istore_n 2, 1) := by decide +kernel
theorem dX10_shows_4 : decode cX10_shows 4 = .ok (.iload_n 2, 1) := by decide +kernel
theorem dX10_shows_5 : decode cX10_shows 5 = .ok (.bipush 6, 2) := by decide +kernel
theorem dX10_shows_7 : decode cX10_shows 7 = .ok (.if_icmp .ge 37, 3) := by decide +kernel
theorem dX10_shows_10 : decode cX10_shows 10 = .ok (.iload_n 1, 1) := by decide +kernel
theorem dX10_shows_11 : decode cX10_shows 11 = .ok (.aload_n 0, 1) := by decide +kernel
theorem dX10_shows_12 : decode cX10_shows 12 = .ok (.getfield 7, 3) := by decide +kernel
theorem dX10_shows_15 : decode cX10_shows 15 = .ok (.bipush 108, 2) := by decide +kernel
theorem dX10_shows_17 : decode cX10_shows 17 = .ok (.iload_n 2, 1) := by decide +kernel
theorem dX10_shows_18 : decode cX10_shows 18 = .ok (.iadd, 1) := by decide +kernel
theorem dX10_shows_19 : decode cX10_shows 19 = .ok (.iaload, 1) := by decide +kernel
theorem dX10_shows_20 : decode cX10_shows 20 = .ok (.aload_n 0, 1) := by decide +kernel
theorem dX10_shows_21 : decode cX10_shows 21 = .ok (.getfield 7, 3) := by decide +kernel
theorem dX10_shows_24 : decode cX10_shows 24 = .ok (.iconst 3, 1) := by decide +kernel
theorem dX10_shows_25 : decode cX10_shows 25 = .ok (.iaload, 1) := by decide +kernel
theorem dX10_shows_26 : decode cX10_shows 26 = .ok (.if_icmp .le 9, 3) := by decide +kernel
theorem dX10_shows_29 : decode cX10_shows 29 = .ok (.iconst 1, 1) := by decide +kernel
theorem dX10_shows_30 : decode cX10_shows 30 = .ok (.iload_n 2, 1) := by decide +kernel
theorem dX10_shows_31 : decode cX10_shows 31 = .ok (.ishl, 1) := by decide +kernel
theorem dX10_shows_32 : decode cX10_shows 32 = .ok (.goto 4, 3) := by decide +kernel
theorem dX10_shows_35 : decode cX10_shows 35 = .ok (.iconst 0, 1) := by decide +kernel
theorem dX10_shows_36 : decode cX10_shows 36 = .ok (.ior, 1) := by decide +kernel
theorem dX10_shows_37 : decode cX10_shows 37 = .ok (.istore_n 1, 1) := by decide +kernel
theorem dX10_shows_38 : decode cX10_shows 38 = .ok (.iinc 2 1, 3) := by decide +kernel
theorem dX10_shows_41 : decode cX10_shows 41 = .ok (.goto (-37), 3) := by decide +kernel
theorem dX10_shows_44 : decode cX10_shows 44 = .ok (.iload_n 1, 1) := by decide +kernel
theorem dX10_shows_45 : decode cX10_shows 45 = .ok (.ireturn, 1) := by decide +kernel
theorem dX10_fisher_0 : decode cX10_fisher 0 = .ok (.iload_n 1, 1) := by decide +kernel
theorem dX10_fisher_1 : decode cX10_fisher 1 = .ok (.i2l, 1) := by decide +kernel
theorem dX10_fisher_2 : decode cX10_fisher 2 = .ok (.lconst 0, 1) := by decide +kernel
theorem dX10_fisher_3 : decode cX10_fisher 3 = .ok (.ldc2_w 165, 3) := by decide +kernel
theorem dX10_fisher_6 : decode cX10_fisher 6 = .ok (.invokestatic 41, 3) := by decide +kernel
theorem dX10_fisher_9 : decode cX10_fisher 9 = .ok (.ifCond .eq 15, 3) := by decide +kernel
theorem dX10_fisher_12 : decode cX10_fisher 12 = .ok (.iload_n 2, 1) := by decide +kernel
theorem dX10_fisher_13 : decode cX10_fisher 13 = .ok (.i2l, 1) := by decide +kernel
theorem dX10_fisher_14 : decode cX10_fisher 14 = .ok (.lconst 0, 1) := by decide +kernel
theorem dX10_fisher_15 : decode cX10_fisher 15 = .ok (.ldc2_w 167, 3) := by decide +kernel
theorem dX10_fisher_18 : decode cX10_fisher 18 = .ok (.invokestatic 41, 3) := by decide +kernel
theorem dX10_fisher_21 : decode cX10_fisher 21 = .ok (.ifCond .ne 9, 3) := by decide +kernel
theorem dX10_fisher_24 : decode cX10_fisher 24 = .ok (.aload_n 0, 1) := by decide +kernel
theorem dX10_fisher_25 : decode cX10_fisher 25 = .ok (.iconst 1, 1) := by decide +kernel
theorem dX10_fisher_26 : decode cX10_fisher 26 = .ok (.invokevirtual 104, 3) := by decide +kernel
theorem dX10_fisher_29 : decode cX10_fisher 29 = .ok (.ireturn, 1) := by decide +kernel
theorem dX10_fisher_30 : decode cX10_fisher 30 = .ok (.aload_n 0, 1) := by decide +kernel
theorem dX10_fisher_31 : decode cX10_fisher 31 = .ok (.getfield 7, 3) := by decide +kernel
theorem dX10_fisher_34 : decode cX10_fisher 34 = .ok (.bipush 12, 2) := by decide +kernel
theorem dX10_fisher_36 : decode cX10_fisher 36 = .ok (.iaload, 1) := by decide +kernel
theorem dX10_fisher_37 : decode cX10_fisher 37 = .ok (.bipush 8, 2) := by decide +kernel
theorem dX10_fisher_39 : decode cX10_fisher 39 = .ok (.if_icmp .ne 9, 3) := by decide +kernel
theorem dX10_fisher_42 : decode cX10_fisher 42 = .ok (.aload_n 0, 1) := by decide +kernel
theorem dX10_fisher_43 : decode cX10_fisher 43 = .ok (.iconst 4, 1) := by decide +kernel
theorem dX10_fisher_44 : decode cX10_fisher 44 = .ok (.invokevirtual 104, 3) := by decide +kernel
theorem dX10_fisher_47 : decode cX10_fisher 47 = .ok (.ireturn, 1) := by decide +kernel
theorem dX10_fisher_48 : decode cX10_fisher 48 = .ok (.aload_n 0, 1) := by decide +kernel
theorem dX10_fisher_49 : decode cX10_fisher 49 = .ok (.getfield 7, 3) := by decide +kernel
theorem dX10_fisher_52 : decode cX10_fisher 52 = .ok (.bipush 12, 2) := by decide +kernel
theorem dX10_fisher_54 : decode cX10_fisher 54 = .ok (.iaload, 1) := by decide +kernel
theorem dX10_fisher_55 : decode cX10_fisher 55 = .ok (.istore_n 3, 1) := by decide +kernel
theorem dX10_fisher_56 : decode cX10_fisher 56 = .ok (.aload_n 0, 1) := by decide +kernel
theorem dX10_fisher_57 : decode cX10_fisher 57 = .ok (.iload_n 3, 1) := by decide +kernel
theorem dX10_fisher_58 : decode cX10_fisher 58 = .ok (.iconst 0, 1) := by decide +kernel
theorem dX10_fisher_59 : decode cX10_fisher 59 = .ok (.iload_n 1, 1) := by decide +kernel
theorem dX10_fisher_60 : decode cX10_fisher 60 = .ok (.bipush 10, 2) := by decide +kernel
theorem dX10_fisher_62 : decode cX10_fisher 62 = .ok (.idiv, 1) := by decide +kernel
theorem dX10_fisher_63 : decode cX10_fisher 63 = .ok (.invokevirtual 169, 3) := by decide +kernel
theorem dX10_fisher_66 : decode cX10_fisher 66 = .ok (.aload_n 0, 1) := by decide +kernel
theorem dX10_fisher_67 : decode cX10_fisher 67 = .ok (.iload_n 3, 1) := by decide +kernel
theorem dX10_fisher_68 : decode cX10_fisher 68 = .ok (.iconst 1, 1) := by decide +kernel
theorem dX10_fisher_69 : decode cX10_fisher 69 = .ok (.iload_n 1, 1) := by decide +kernel
theorem dX10_fisher_70 : decode cX10_fisher 70 = .ok (.bipush 10, 2) := by decide +kernel
theorem dX10_fisher_72 : decode cX10_fisher 72 = .ok (.irem, 1) := by decide +kernel
theorem dX10_fisher_73 : decode cX10_fisher 73 = .ok (.invokevirtual 169, 3) := by decide +kernel
theorem dX10_fisher_76 : decode cX10_fisher 76 = .ok (.aload_n 0, 1) := by decide +kernel
theorem dX10_fisher_77 : decode cX10_fisher 77 = .ok (.iload_n 3, 1) := by decide +kernel
theorem dX10_fisher_78 : decode cX10_fisher 78 = .ok (.iconst 2, 1) := by decide +kernel
theorem dX10_fisher_79 : decode cX10_fisher 79 = .ok (.iload_n 2, 1) := by decide +kernel
theorem dX10_fisher_80 : decode cX10_fisher 80 = .ok (.invokevirtual 169, 3) := by decide +kernel
theorem dX10_fisher_83 : decode cX10_fisher 83 = .ok (.aload_n 0, 1) := by decide +kernel
theorem dX10_fisher_84 : decode cX10_fisher 84 = .ok (.iload_n 3, 1) := by decide +kernel
theorem dX10_fisher_85 : decode cX10_fisher 85 = .ok (.iconst 3, 1) := by decide +kernel
theorem dX10_fisher_86 : decode cX10_fisher 86 = .ok (.bipush 20, 2) := by decide +kernel
theorem dX10_fisher_88 : decode cX10_fisher 88 = .ok (.invokevirtual 169, 3) := by decide +kernel
theorem dX10_fisher_91 : decode cX10_fisher 91 = .ok (.aload_n 0, 1) := by decide +kernel
theorem dX10_fisher_92 : decode cX10_fisher 92 = .ok (.iload_n 3, 1) := by decide +kernel
theorem dX10_fisher_93 : decode cX10_fisher 93 = .ok (.iconst 4, 1) := by decide +kernel
theorem dX10_fisher_94 : decode cX10_fisher 94 = .ok (.iconst 0, 1) := by decide +kernel
theorem dX10_fisher_95 : decode cX10_fisher 95 = .ok (.invokevirtual 169, 3) := by decide +kernel
theorem dX10_fisher_98 : decode cX10_fisher 98 = .ok (.aload_n 0, 1) := by decide +kernel
theorem dX10_fisher_99 : decode cX10_fisher 99 = .ok (.iload_n 3, 1) := by decide +kernel
theorem dX10_fisher_100 : decode cX10_fisher 100 = .ok (.iconst 5, 1) := by decide +kernel
theorem dX10_fisher_101 : decode cX10_fisher 101 = .ok (.iconst 0, 1) := by decide +kernel
theorem dX10_fisher_102 : decode cX10_fisher 102 = .ok (.invokevirtual 169, 3) := by decide +kernel
theorem dX10_fisher_105 : decode cX10_fisher 105 = .ok (.aload_n 0, 1) := by decide +kernel
theorem dX10_fisher_106 : decode cX10_fisher 106 = .ok (.getfield 7, 3) := by decide +kernel
theorem dX10_fisher_109 : decode cX10_fisher 109 = .ok (.bipush 12, 2) := by decide +kernel
theorem dX10_fisher_111 : decode cX10_fisher 111 = .ok (.dup2, 1) := by decide +kernel
theorem dX10_fisher_112 : decode cX10_fisher 112 = .ok (.iaload, 1) := by decide +kernel
theorem dX10_fisher_113 : decode cX10_fisher 113 = .ok (.iconst 1, 1) := by decide +kernel
theorem dX10_fisher_114 : decode cX10_fisher 114 = .ok (.iadd, 1) := by decide +kernel
theorem dX10_fisher_115 : decode cX10_fisher 115 = .ok (.iastore, 1) := by decide +kernel
theorem dX10_fisher_116 : decode cX10_fisher 116 = .ok (.iload_n 3, 1) := by decide +kernel
theorem dX10_fisher_117 : decode cX10_fisher 117 = .ok (.ireturn, 1) := by decide +kernel
theorem dX10_hears_0 : decode cX10_hears 0 = .ok (.aload_n 0, 1) := by decide +kernel
theorem dX10_hears_1 : decode cX10_hears 1 = .ok (.invokevirtual 140, 3) := by decide +kernel
theorem dX10_hears_4 : decode cX10_hears 4 = .ok (.istore_n 2, 1) := by decide +kernel
theorem dX10_hears_5 : decode cX10_hears 5 = .ok (.bipush 10, 2) := by decide +kernel
theorem dX10_hears_7 : decode cX10_hears 7 = .ok (.iload_n 2, 1) := by decide +kernel
theorem dX10_hears_8 : decode cX10_hears 8 = .ok (.imul, 1) := by decide +kernel
theorem dX10_hears_9 : decode cX10_hears 9 = .ok (.aload_n 0, 1) := by decide +kernel
theorem dX10_hears_10 : decode cX10_hears 10 = .ok (.iload_n 1, 1) := by decide +kernel
theorem dX10_hears_11 : decode cX10_hears 11 = .ok (.iconst 2, 1) := by decide +kernel
theorem dX10_hears_12 : decode cX10_hears 12 = .ok (.invokevirtual 173, 3) := by decide +kernel
theorem dX10_hears_15 : decode cX10_hears 15 = .ok (.isub, 1) := by decide +kernel
theorem dX10_hears_16 : decode cX10_hears 16 = .ok (.istore_n 3, 1) := by decide +kernel
theorem dX10_hears_17 : decode cX10_hears 17 = .ok (.aload_n 0, 1) := by decide +kernel
theorem dX10_hears_18 : decode cX10_hears 18 = .ok (.iload_n 1, 1) := by decide +kernel
theorem dX10_hears_19 : decode cX10_hears 19 = .ok (.iconst 1, 1) := by decide +kernel
theorem dX10_hears_20 : decode cX10_hears 20 = .ok (.invokevirtual 173, 3) := by decide +kernel
theorem dX10_hears_23 : decode cX10_hears 23 = .ok (.istore 4, 2) := by decide +kernel
theorem dX10_hears_25 : decode cX10_hears 25 = .ok (.iload_n 2, 1) := by decide +kernel
theorem dX10_hears_26 : decode cX10_hears 26 = .ok (.ifCond .ne 5, 3) := by decide +kernel
theorem dX10_hears_29 : decode cX10_hears 29 = .ok (.iconst 0, 1) := by decide +kernel
theorem dX10_hears_30 : decode cX10_hears 30 = .ok (.ireturn, 1) := by decide +kernel
theorem dX10_hears_31 : decode cX10_hears 31 = .ok (.aload_n 0, 1) := by decide +kernel
theorem dX10_hears_32 : decode cX10_hears 32 = .ok (.iload_n 1, 1) := by decide +kernel
theorem dX10_hears_33 : decode cX10_hears 33 = .ok (.iconst 0, 1) := by decide +kernel
theorem dX10_hears_34 : decode cX10_hears 34 = .ok (.invokevirtual 173, 3) := by decide +kernel
theorem dX10_hears_37 : decode cX10_hears 37 = .ok (.tableswitch 121 1 6 #[39, 51, 63, 83, 104, 119], 39) := by decide +kernel
theorem dX10_hears_76 : decode cX10_hears 76 = .ok (.iload_n 3, 1) := by decide +kernel
theorem dX10_hears_77 : decode cX10_hears 77 = .ok (.iload 4, 2) := by decide +kernel
theorem dX10_hears_79 : decode cX10_hears 79 = .ok (.if_icmp .le 7, 3) := by decide +kernel
theorem dX10_hears_82 : decode cX10_hears 82 = .ok (.iconst 1, 1) := by decide +kernel
theorem dX10_hears_83 : decode cX10_hears 83 = .ok (.goto 4, 3) := by decide +kernel
theorem dX10_hears_86 : decode cX10_hears 86 = .ok (.iconst 0, 1) := by decide +kernel
theorem dX10_hears_87 : decode cX10_hears 87 = .ok (.ireturn, 1) := by decide +kernel
theorem dX10_hears_88 : decode cX10_hears 88 = .ok (.iload_n 3, 1) := by decide +kernel
theorem dX10_hears_89 : decode cX10_hears 89 = .ok (.bipush 50, 2) := by decide +kernel
theorem dX10_hears_91 : decode cX10_hears 91 = .ok (.if_icmp .lt 7, 3) := by decide +kernel
theorem dX10_hears_94 : decode cX10_hears 94 = .ok (.iconst 1, 1) := by decide +kernel
theorem dX10_hears_95 : decode cX10_hears 95 = .ok (.goto 4, 3) := by decide +kernel
theorem dX10_hears_98 : decode cX10_hears 98 = .ok (.iconst 0, 1) := by decide +kernel
theorem dX10_hears_99 : decode cX10_hears 99 = .ok (.ireturn, 1) := by decide +kernel
theorem dX10_hears_100 : decode cX10_hears 100 = .ok (.iload_n 3, 1) := by decide +kernel
theorem dX10_hears_101 : decode cX10_hears 101 = .ok (.ifCond .le 17, 3) := by decide +kernel
theorem dX10_hears_104 : decode cX10_hears 104 = .ok (.aload_n 0, 1) := by decide +kernel
theorem dX10_hears_105 : decode cX10_hears 105 = .ok (.invokevirtual 157, 3) := by decide +kernel
theorem dX10_hears_108 : decode cX10_hears 108 = .ok (.iconst 2, 1) := by decide +kernel
theorem dX10_hears_109 : decode cX10_hears 109 = .ok (.irem, 1) := by decide +kernel
theorem dX10_hears_110 : decode cX10_hears 110 = .ok (.iconst 1, 1) := by decide +kernel
theorem dX10_hears_111 : decode cX10_hears 111 = .ok (.if_icmp .ne 7, 3) := by decide +kernel
theorem dX10_hears_114 : decode cX10_hears 114 = .ok (.iconst 1, 1) := by decide +kernel
theorem dX10_hears_115 : decode cX10_hears 115 = .ok (.goto 4, 3) := by decide +kernel
theorem dX10_hears_118 : decode cX10_hears 118 = .ok (.iconst 0, 1) := by decide +kernel
theorem dX10_hears_119 : decode cX10_hears 119 = .ok (.ireturn, 1) := by decide +kernel
theorem dX10_hears_120 : decode cX10_hears 120 = .ok (.iload_n 3, 1) := by decide +kernel
theorem dX10_hears_121 : decode cX10_hears 121 = .ok (.iload 4, 2) := by decide +kernel
theorem dX10_hears_123 : decode cX10_hears 123 = .ok (.if_icmp .gt 12, 3) := by decide +kernel
theorem dX10_hears_126 : decode cX10_hears 126 = .ok (.aload_n 0, 1) := by decide +kernel
theorem dX10_hears_127 : decode cX10_hears 127 = .ok (.invokevirtual 157, 3) := by decide +kernel
theorem dX10_hears_130 : decode cX10_hears 130 = .ok (.iload 4, 2) := by decide +kernel
theorem dX10_hears_132 : decode cX10_hears 132 = .ok (.if_icmp .ne 7, 3) := by decide +kernel
theorem dX10_hears_135 : decode cX10_hears 135 = .ok (.iconst 1, 1) := by decide +kernel
theorem dX10_hears_136 : decode cX10_hears 136 = .ok (.goto 4, 3) := by decide +kernel
theorem dX10_hears_139 : decode cX10_hears 139 = .ok (.iconst 0, 1) := by decide +kernel
theorem dX10_hears_140 : decode cX10_hears 140 = .ok (.ireturn, 1) := by decide +kernel
theorem dX10_hears_141 : decode cX10_hears 141 = .ok (.iload_n 2, 1) := by decide +kernel
theorem dX10_hears_142 : decode cX10_hears 142 = .ok (.bipush 9, 2) := by decide +kernel
theorem dX10_hears_144 : decode cX10_hears 144 = .ok (.iload 4, 2) := by decide +kernel
theorem dX10_hears_146 : decode cX10_hears 146 = .ok (.iadd, 1) := by decide +kernel
theorem dX10_hears_147 : decode cX10_hears 147 = .ok (.if_icmp .lt 7, 3) := by decide +kernel
theorem dX10_hears_150 : decode cX10_hears 150 = .ok (.iconst 1, 1) := by decide +kernel
theorem dX10_hears_151 : decode cX10_hears 151 = .ok (.goto 4, 3) := by decide +kernel
theorem dX10_hears_154 : decode cX10_hears 154 = .ok (.iconst 0, 1) := by decide +kernel
theorem dX10_hears_155 : decode cX10_hears 155 = .ok (.ireturn, 1) := by decide +kernel
theorem dX10_hears_156 : decode cX10_hears 156 = .ok (.iconst 1, 1) := by decide +kernel
theorem dX10_hears_157 : decode cX10_hears 157 = .ok (.ireturn, 1) := by decide +kernel
theorem dX10_hears_158 : decode cX10_hears 158 = .ok (.iload_n 3, 1) := by decide +kernel
theorem dX10_hears_159 : decode cX10_hears 159 = .ok (.ifCond .le 7, 3) := by decide +kernel
theorem dX10_hears_162 : decode cX10_hears 162 = .ok (.iconst 1, 1) := by decide +kernel
theorem dX10_hears_163 : decode cX10_hears 163 = .ok (.goto 4, 3) := by decide +kernel
theorem dX10_hears_166 : decode cX10_hears 166 = .ok (.iconst 0, 1) := by decide +kernel
theorem dX10_hears_167 : decode cX10_hears 167 = .ok (.ireturn, 1) := by decide +kernel
theorem dX10_bidOf_0 : decode cX10_bidOf 0 = .ok (.bipush 10, 2) := by decide +kernel
theorem dX10_bidOf_2 : decode cX10_bidOf 2 = .ok (.iload_n 2, 1) := by decide +kernel
theorem dX10_bidOf_3 : decode cX10_bidOf 3 = .ok (.imul, 1) := by decide +kernel
theorem dX10_bidOf_4 : decode cX10_bidOf 4 = .ok (.iload_n 3, 1) := by decide +kernel
theorem dX10_bidOf_5 : decode cX10_bidOf 5 = .ok (.idiv, 1) := by decide +kernel
theorem dX10_bidOf_6 : decode cX10_bidOf 6 = .ok (.istore 4, 2) := by decide +kernel
theorem dX10_bidOf_8 : decode cX10_bidOf 8 = .ok (.aload_n 0, 1) := by decide +kernel
theorem dX10_bidOf_9 : decode cX10_bidOf 9 = .ok (.iload_n 1, 1) := by decide +kernel
theorem dX10_bidOf_10 : decode cX10_bidOf 10 = .ok (.iconst 1, 1) := by decide +kernel
theorem dX10_bidOf_11 : decode cX10_bidOf 11 = .ok (.invokevirtual 173, 3) := by decide +kernel
theorem dX10_bidOf_14 : decode cX10_bidOf 14 = .ok (.istore 5, 2) := by decide +kernel
theorem dX10_bidOf_16 : decode cX10_bidOf 16 = .ok (.iload 4, 2) := by decide +kernel
theorem dX10_bidOf_18 : decode cX10_bidOf 18 = .ok (.istore 6, 2) := by decide +kernel
theorem dX10_bidOf_20 : decode cX10_bidOf 20 = .ok (.aload_n 0, 1) := by decide +kernel
theorem dX10_bidOf_21 : decode cX10_bidOf 21 = .ok (.iload_n 1, 1) := by decide +kernel
theorem dX10_bidOf_22 : decode cX10_bidOf 22 = .ok (.iconst 0, 1) := by decide +kernel
theorem dX10_bidOf_23 : decode cX10_bidOf 23 = .ok (.invokevirtual 173, 3) := by decide +kernel
theorem dX10_bidOf_26 : decode cX10_bidOf 26 = .ok (.tableswitch 93 1 6 #[38, 48, 54, 63, 75, 81], 38) := by decide +kernel
theorem dX10_bidOf_64 : decode cX10_bidOf 64 = .ok (.iload 4, 2) := by decide +kernel
theorem dX10_bidOf_66 : decode cX10_bidOf 66 = .ok (.iload 5, 2) := by decide +kernel
theorem dX10_bidOf_68 : decode cX10_bidOf 68 = .ok (.iadd, 1) := by decide +kernel
theorem dX10_bidOf_69 : decode cX10_bidOf 69 = .ok (.istore 6, 2) := by decide +kernel
theorem dX10_bidOf_71 : decode cX10_bidOf 71 = .ok (.goto 48, 3) := by decide +kernel
theorem dX10_bidOf_74 : decode cX10_bidOf 74 = .ok (.iconst 0, 1) := by decide +kernel
theorem dX10_bidOf_75 : decode cX10_bidOf 75 = .ok (.istore 6, 2) := by decide +kernel
theorem dX10_bidOf_77 : decode cX10_bidOf 77 = .ok (.goto 42, 3) := by decide +kernel
theorem dX10_bidOf_80 : decode cX10_bidOf 80 = .ok (.iload 4, 2) := by decide +kernel
theorem dX10_bidOf_82 : decode cX10_bidOf 82 = .ok (.iconst 2, 1) := by decide +kernel
theorem dX10_bidOf_83 : decode cX10_bidOf 83 = .ok (.idiv, 1) := by decide +kernel
theorem dX10_bidOf_84 : decode cX10_bidOf 84 = .ok (.istore 6, 2) := by decide +kernel
theorem dX10_bidOf_86 : decode cX10_bidOf 86 = .ok (.goto 33, 3) := by decide +kernel
theorem dX10_bidOf_89 : decode cX10_bidOf 89 = .ok (.iconst 2, 1) := by decide +kernel
theorem dX10_bidOf_90 : decode cX10_bidOf 90 = .ok (.iload 4, 2) := by decide +kernel
theorem dX10_bidOf_92 : decode cX10_bidOf 92 = .ok (.iload 5, 2) := by decide +kernel
theorem dX10_bidOf_94 : decode cX10_bidOf 94 = .ok (.iadd, 1) := by decide +kernel
theorem dX10_bidOf_95 : decode cX10_bidOf 95 = .ok (.imul, 1) := by decide +kernel
theorem dX10_bidOf_96 : decode cX10_bidOf 96 = .ok (.istore 6, 2) := by decide +kernel
theorem dX10_bidOf_98 : decode cX10_bidOf 98 = .ok (.goto 21, 3) := by decide +kernel
theorem dX10_bidOf_101 : decode cX10_bidOf 101 = .ok (.iconst 1, 1) := by decide +kernel
theorem dX10_bidOf_102 : decode cX10_bidOf 102 = .ok (.istore 6, 2) := by decide +kernel
theorem dX10_bidOf_104 : decode cX10_bidOf 104 = .ok (.goto 15, 3) := by decide +kernel
theorem dX10_bidOf_107 : decode cX10_bidOf 107 = .ok (.iload 4, 2) := by decide +kernel
theorem dX10_bidOf_109 : decode cX10_bidOf 109 = .ok (.iconst 2, 1) := by decide +kernel
theorem dX10_bidOf_110 : decode cX10_bidOf 110 = .ok (.idiv, 1) := by decide +kernel
theorem dX10_bidOf_111 : decode cX10_bidOf 111 = .ok (.iload 5, 2) := by decide +kernel
theorem dX10_bidOf_113 : decode cX10_bidOf 113 = .ok (.iadd, 1) := by decide +kernel
theorem dX10_bidOf_114 : decode cX10_bidOf 114 = .ok (.istore 6, 2) := by decide +kernel
theorem dX10_bidOf_116 : decode cX10_bidOf 116 = .ok (.goto 3, 3) := by decide +kernel
theorem dX10_bidOf_119 : decode cX10_bidOf 119 = .ok (.iload 6, 2) := by decide +kernel
theorem dX10_bidOf_121 : decode cX10_bidOf 121 = .ok (.iconst 0, 1) := by decide +kernel
theorem dX10_bidOf_122 : decode cX10_bidOf 122 = .ok (.aload_n 0, 1) := by decide +kernel
theorem dX10_bidOf_123 : decode cX10_bidOf 123 = .ok (.iload_n 1, 1) := by decide +kernel
theorem dX10_bidOf_124 : decode cX10_bidOf 124 = .ok (.iconst 3, 1) := by decide +kernel
theorem dX10_bidOf_125 : decode cX10_bidOf 125 = .ok (.invokevirtual 173, 3) := by decide +kernel
theorem dX10_bidOf_128 : decode cX10_bidOf 128 = .ok (.invokestatic 113, 3) := by decide +kernel
theorem dX10_bidOf_131 : decode cX10_bidOf 131 = .ok (.ireturn, 1) := by decide +kernel
theorem dX10_common_0 : decode cX10_common 0 = .ok (.iload_n 0, 1) := by decide +kernel
theorem dX10_common_1 : decode cX10_common 1 = .ok (.istore_n 2, 1) := by decide +kernel
theorem dX10_common_2 : decode cX10_common 2 = .ok (.iload_n 1, 1) := by decide +kernel
theorem dX10_common_3 : decode cX10_common 3 = .ok (.istore_n 3, 1) := by decide +kernel
theorem dX10_common_4 : decode cX10_common 4 = .ok (.iload_n 3, 1) := by decide +kernel
theorem dX10_common_5 : decode cX10_common 5 = .ok (.ifCond .eq 16, 3) := by decide +kernel
theorem dX10_common_8 : decode cX10_common 8 = .ok (.iload_n 2, 1) := by decide +kernel
theorem dX10_common_9 : decode cX10_common 9 = .ok (.iload_n 3, 1) := by decide +kernel
theorem dX10_common_10 : decode cX10_common 10 = .ok (.irem, 1) := by decide +kernel
theorem dX10_common_11 : decode cX10_common 11 = .ok (.istore 4, 2) := by decide +kernel
theorem dX10_common_13 : decode cX10_common 13 = .ok (.iload_n 3, 1) := by decide +kernel
theorem dX10_common_14 : decode cX10_common 14 = .ok (.istore_n 2, 1) := by decide +kernel
theorem dX10_common_15 : decode cX10_common 15 = .ok (.iload 4, 2) := by decide +kernel
theorem dX10_common_17 : decode cX10_common 17 = .ok (.istore_n 3, 1) := by decide +kernel
theorem dX10_common_18 : decode cX10_common 18 = .ok (.goto (-14), 3) := by decide +kernel
theorem dX10_common_21 : decode cX10_common 21 = .ok (.iload_n 2, 1) := by decide +kernel
theorem dX10_common_22 : decode cX10_common 22 = .ok (.ireturn, 1) := by decide +kernel
theorem dX10_oddsOf_0 : decode cX10_oddsOf 0 = .ok (.aload_n 0, 1) := by decide +kernel
theorem dX10_oddsOf_1 : decode cX10_oddsOf 1 = .ok (.getfield 7, 3) := by decide +kernel
theorem dX10_oddsOf_4 : decode cX10_oddsOf 4 = .ok (.bipush 88, 2) := by decide +kernel
theorem dX10_oddsOf_6 : decode cX10_oddsOf 6 = .ok (.iconst 2, 1) := by decide +kernel
theorem dX10_oddsOf_7 : decode cX10_oddsOf 7 = .ok (.iload_n 1, 1) := by decide +kernel
theorem dX10_oddsOf_8 : decode cX10_oddsOf 8 = .ok (.imul, 1) := by decide +kernel
theorem dX10_oddsOf_9 : decode cX10_oddsOf 9 = .ok (.iadd, 1) := by decide +kernel
theorem dX10_oddsOf_10 : decode cX10_oddsOf 10 = .ok (.iconst 1, 1) := by decide +kernel
theorem dX10_oddsOf_11 : decode cX10_oddsOf 11 = .ok (.iadd, 1) := by decide +kernel
theorem dX10_oddsOf_12 : decode cX10_oddsOf 12 = .ok (.iaload, 1) := by decide +kernel
theorem dX10_oddsOf_13 : decode cX10_oddsOf 13 = .ok (.istore_n 3, 1) := by decide +kernel
theorem dX10_oddsOf_14 : decode cX10_oddsOf 14 = .ok (.aload_n 0, 1) := by decide +kernel
theorem dX10_oddsOf_15 : decode cX10_oddsOf 15 = .ok (.getfield 7, 3) := by decide +kernel
theorem dX10_oddsOf_18 : decode cX10_oddsOf 18 = .ok (.bipush 88, 2) := by decide +kernel
theorem dX10_oddsOf_20 : decode cX10_oddsOf 20 = .ok (.iconst 2, 1) := by decide +kernel
theorem dX10_oddsOf_21 : decode cX10_oddsOf 21 = .ok (.iload_n 1, 1) := by decide +kernel
theorem dX10_oddsOf_22 : decode cX10_oddsOf 22 = .ok (.imul, 1) := by decide +kernel
theorem dX10_oddsOf_23 : decode cX10_oddsOf 23 = .ok (.iadd, 1) := by decide +kernel
theorem dX10_oddsOf_24 : decode cX10_oddsOf 24 = .ok (.iaload, 1) := by decide +kernel
theorem dX10_oddsOf_25 : decode cX10_oddsOf 25 = .ok (.iload_n 3, 1) := by decide +kernel
theorem dX10_oddsOf_26 : decode cX10_oddsOf 26 = .ok (.iadd, 1) := by decide +kernel
theorem dX10_oddsOf_27 : decode cX10_oddsOf 27 = .ok (.istore 4, 2) := by decide +kernel
theorem dX10_oddsOf_29 : decode cX10_oddsOf 29 = .ok (.iload_n 3, 1) := by decide +kernel
theorem dX10_oddsOf_30 : decode cX10_oddsOf 30 = .ok (.ifCond .ne 5, 3) := by decide +kernel
theorem dX10_oddsOf_33 : decode cX10_oddsOf 33 = .ok (.iload_n 2, 1) := by decide +kernel
theorem dX10_oddsOf_34 : decode cX10_oddsOf 34 = .ok (.ireturn, 1) := by decide +kernel
theorem dX10_oddsOf_35 : decode cX10_oddsOf 35 = .ok (.iload_n 2, 1) := by decide +kernel
theorem dX10_oddsOf_36 : decode cX10_oddsOf 36 = .ok (.ifCond .ne 7, 3) := by decide +kernel
theorem dX10_oddsOf_39 : decode cX10_oddsOf 39 = .ok (.iload_n 3, 1) := by decide +kernel
theorem dX10_oddsOf_40 : decode cX10_oddsOf 40 = .ok (.goto 5, 3) := by decide +kernel
theorem dX10_oddsOf_43 : decode cX10_oddsOf 43 = .ok (.iload 4, 2) := by decide +kernel
theorem dX10_oddsOf_45 : decode cX10_oddsOf 45 = .ok (.iload_n 3, 1) := by decide +kernel
theorem dX10_oddsOf_46 : decode cX10_oddsOf 46 = .ok (.iload 4, 2) := by decide +kernel
theorem dX10_oddsOf_48 : decode cX10_oddsOf 48 = .ok (.invokestatic 176, 3) := by decide +kernel
theorem dX10_oddsOf_51 : decode cX10_oddsOf 51 = .ok (.idiv, 1) := by decide +kernel
theorem dX10_oddsOf_52 : decode cX10_oddsOf 52 = .ok (.ireturn, 1) := by decide +kernel
theorem dX10_bidNow_0 : decode cX10_bidNow 0 = .ok (.aload_n 0, 1) := by decide +kernel
theorem dX10_bidNow_1 : decode cX10_bidNow 1 = .ok (.iload_n 1, 1) := by decide +kernel
theorem dX10_bidNow_2 : decode cX10_bidNow 2 = .ok (.aload_n 0, 1) := by decide +kernel
theorem dX10_bidNow_3 : decode cX10_bidNow 3 = .ok (.aload_n 0, 1) := by decide +kernel
theorem dX10_bidNow_4 : decode cX10_bidNow 4 = .ok (.getfield 7, 3) := by decide +kernel
theorem dX10_bidNow_7 : decode cX10_bidNow 7 = .ok (.bipush 10, 2) := by decide +kernel
theorem dX10_bidNow_9 : decode cX10_bidNow 9 = .ok (.iaload, 1) := by decide +kernel
theorem dX10_bidNow_10 : decode cX10_bidNow 10 = .ok (.iconst 0, 1) := by decide +kernel
theorem dX10_bidNow_11 : decode cX10_bidNow 11 = .ok (.invokevirtual 179, 3) := by decide +kernel
theorem dX10_bidNow_14 : decode cX10_bidNow 14 = .ok (.aload_n 0, 1) := by decide +kernel
theorem dX10_bidNow_15 : decode cX10_bidNow 15 = .ok (.aload_n 0, 1) := by decide +kernel
theorem dX10_bidNow_16 : decode cX10_bidNow 16 = .ok (.getfield 7, 3) := by decide +kernel
theorem dX10_bidNow_19 : decode cX10_bidNow 19 = .ok (.bipush 10, 2) := by decide +kernel
theorem dX10_bidNow_21 : decode cX10_bidNow 21 = .ok (.iaload, 1) := by decide +kernel
theorem dX10_bidNow_22 : decode cX10_bidNow 22 = .ok (.iconst 1, 1) := by decide +kernel
theorem dX10_bidNow_23 : decode cX10_bidNow 23 = .ok (.invokevirtual 179, 3) := by decide +kernel
theorem dX10_bidNow_26 : decode cX10_bidNow 26 = .ok (.invokevirtual 182, 3) := by decide +kernel
theorem dX10_bidNow_29 : decode cX10_bidNow 29 = .ok (.ireturn, 1) := by decide +kernel
theorem dX10_toldOf_0 : decode cX10_toldOf 0 = .ok (.iload_n 2, 1) := by decide +kernel
theorem dX10_toldOf_1 : decode cX10_toldOf 1 = .ok (.bipush 6, 2) := by decide +kernel
theorem dX10_toldOf_3 : decode cX10_toldOf 3 = .ok (.if_icmp .ge 12, 3) := by decide +kernel
theorem dX10_toldOf_6 : decode cX10_toldOf 6 = .ok (.aload_n 0, 1) := by decide +kernel
theorem dX10_toldOf_7 : decode cX10_toldOf 7 = .ok (.iload_n 1, 1) := by decide +kernel
theorem dX10_toldOf_8 : decode cX10_toldOf 8 = .ok (.iload_n 2, 1) := by decide +kernel
theorem dX10_toldOf_9 : decode cX10_toldOf 9 = .ok (.invokevirtual 173, 3) := by decide +kernel
theorem dX10_toldOf_12 : decode cX10_toldOf 12 = .ok (.goto 30, 3) := by decide +kernel
theorem dX10_toldOf_15 : decode cX10_toldOf 15 = .ok (.iload_n 2, 1) := by decide +kernel
theorem dX10_toldOf_16 : decode cX10_toldOf 16 = .ok (.bipush 6, 2) := by decide +kernel
theorem dX10_toldOf_18 : decode cX10_toldOf 18 = .ok (.if_icmp .ne 19, 3) := by decide +kernel
theorem dX10_toldOf_21 : decode cX10_toldOf 21 = .ok (.aload_n 0, 1) := by decide +kernel
theorem dX10_toldOf_22 : decode cX10_toldOf 22 = .ok (.iload_n 1, 1) := by decide +kernel
theorem dX10_toldOf_23 : decode cX10_toldOf 23 = .ok (.invokevirtual 185, 3) := by decide +kernel
theorem dX10_toldOf_26 : decode cX10_toldOf 26 = .ok (.ifCond .eq 7, 3) := by decide +kernel
theorem dX10_toldOf_29 : decode cX10_toldOf 29 = .ok (.iconst 1, 1) := by decide +kernel
theorem dX10_toldOf_30 : decode cX10_toldOf 30 = .ok (.goto 12, 3) := by decide +kernel
theorem dX10_toldOf_33 : decode cX10_toldOf 33 = .ok (.iconst 0, 1) := by decide +kernel
theorem dX10_toldOf_34 : decode cX10_toldOf 34 = .ok (.goto 8, 3) := by decide +kernel
theorem dX10_toldOf_37 : decode cX10_toldOf 37 = .ok (.aload_n 0, 1) := by decide +kernel
theorem dX10_toldOf_38 : decode cX10_toldOf 38 = .ok (.iload_n 1, 1) := by decide +kernel
theorem dX10_toldOf_39 : decode cX10_toldOf 39 = .ok (.invokevirtual 188, 3) := by decide +kernel
theorem dX10_toldOf_42 : decode cX10_toldOf 42 = .ok (.ireturn, 1) := by decide +kernel
theorem dX10_ofFisher_0 : decode cX10_ofFisher 0 = .ok (.aload_n 0, 1) := by decide +kernel
theorem dX10_ofFisher_1 : decode cX10_ofFisher 1 = .ok (.iload_n 1, 1) := by decide +kernel
theorem dX10_ofFisher_2 : decode cX10_ofFisher 2 = .ok (.invokevirtual 191, 3) := by decide +kernel
theorem dX10_ofFisher_5 : decode cX10_ofFisher 5 = .ok (.ifCond .eq 24, 3) := by decide +kernel
theorem dX10_ofFisher_8 : decode cX10_ofFisher 8 = .ok (.iload_n 2, 1) := by decide +kernel
theorem dX10_ofFisher_9 : decode cX10_ofFisher 9 = .ok (.i2l, 1) := by decide +kernel
theorem dX10_ofFisher_10 : decode cX10_ofFisher 10 = .ok (.lconst 0, 1) := by decide +kernel
theorem dX10_ofFisher_11 : decode cX10_ofFisher 11 = .ok (.ldc2_w 194, 3) := by decide +kernel
theorem dX10_ofFisher_14 : decode cX10_ofFisher 14 = .ok (.invokestatic 41, 3) := by decide +kernel
theorem dX10_ofFisher_17 : decode cX10_ofFisher 17 = .ok (.ifCond .eq 12, 3) := by decide +kernel
theorem dX10_ofFisher_20 : decode cX10_ofFisher 20 = .ok (.aload_n 0, 1) := by decide +kernel
theorem dX10_ofFisher_21 : decode cX10_ofFisher 21 = .ok (.iload_n 1, 1) := by decide +kernel
theorem dX10_ofFisher_22 : decode cX10_ofFisher 22 = .ok (.iload_n 2, 1) := by decide +kernel
theorem dX10_ofFisher_23 : decode cX10_ofFisher 23 = .ok (.invokevirtual 196, 3) := by decide +kernel
theorem dX10_ofFisher_26 : decode cX10_ofFisher 26 = .ok (.goto 8, 3) := by decide +kernel
theorem dX10_ofFisher_29 : decode cX10_ofFisher 29 = .ok (.aload_n 0, 1) := by decide +kernel
theorem dX10_ofFisher_30 : decode cX10_ofFisher 30 = .ok (.iconst 1, 1) := by decide +kernel
theorem dX10_ofFisher_31 : decode cX10_ofFisher 31 = .ok (.invokevirtual 104, 3) := by decide +kernel
theorem dX10_ofFisher_34 : decode cX10_ofFisher 34 = .ok (.ireturn, 1) := by decide +kernel
theorem dX10_change_0 : decode cX10_change 0 = .ok (.iload_n 2, 1) := by decide +kernel
theorem dX10_change_1 : decode cX10_change 1 = .ok (.iconst 2, 1) := by decide +kernel
theorem dX10_change_2 : decode cX10_change 2 = .ok (.if_icmp .ne 15, 3) := by decide +kernel
theorem dX10_change_5 : decode cX10_change 5 = .ok (.iload_n 3, 1) := by decide +kernel
theorem dX10_change_6 : decode cX10_change 6 = .ok (.i2l, 1) := by decide +kernel
theorem dX10_change_7 : decode cX10_change 7 = .ok (.lconst 0, 1) := by decide +kernel
theorem dX10_change_8 : decode cX10_change 8 = .ok (.ldc2_w 167, 3) := by decide +kernel
theorem dX10_change_11 : decode cX10_change 11 = .ok (.invokestatic 41, 3) := by decide +kernel
theorem dX10_change_14 : decode cX10_change 14 = .ok (.goto 25, 3) := by decide +kernel
theorem dX10_change_17 : decode cX10_change 17 = .ok (.iload_n 2, 1) := by decide +kernel
theorem dX10_change_18 : decode cX10_change 18 = .ok (.iconst 3, 1) := by decide +kernel
theorem dX10_change_19 : decode cX10_change 19 = .ok (.if_icmp .ne 19, 3) := by decide +kernel
theorem dX10_change_22 : decode cX10_change 22 = .ok (.iload_n 3, 1) := by decide +kernel
theorem dX10_change_23 : decode cX10_change 23 = .ok (.i2l, 1) := by decide +kernel
theorem dX10_change_24 : decode cX10_change 24 = .ok (.lconst 0, 1) := by decide +kernel
theorem dX10_change_25 : decode cX10_change 25 = .ok (.ldc2_w 199, 3) := by decide +kernel
theorem dX10_change_28 : decode cX10_change 28 = .ok (.invokestatic 41, 3) := by decide +kernel
theorem dX10_change_31 : decode cX10_change 31 = .ok (.ifCond .eq 7, 3) := by decide +kernel
theorem dX10_change_34 : decode cX10_change 34 = .ok (.iconst 1, 1) := by decide +kernel
theorem dX10_change_35 : decode cX10_change 35 = .ok (.goto 4, 3) := by decide +kernel
theorem dX10_change_38 : decode cX10_change 38 = .ok (.iconst 0, 1) := by decide +kernel
theorem dX10_change_39 : decode cX10_change 39 = .ok (.istore 4, 2) := by decide +kernel
theorem dX10_change_41 : decode cX10_change 41 = .ok (.aload_n 0, 1) := by decide +kernel
theorem dX10_change_42 : decode cX10_change 42 = .ok (.iload_n 1, 1) := by decide +kernel
theorem dX10_change_43 : decode cX10_change 43 = .ok (.invokevirtual 191, 3) := by decide +kernel
theorem dX10_change_46 : decode cX10_change 46 = .ok (.ifCond .eq 8, 3) := by decide +kernel
theorem dX10_change_49 : decode cX10_change 49 = .ok (.iload 4, 2) := by decide +kernel
theorem dX10_change_51 : decode cX10_change 51 = .ok (.ifCond .ne 9, 3) := by decide +kernel
theorem dX10_change_54 : decode cX10_change 54 = .ok (.aload_n 0, 1) := by decide +kernel
theorem dX10_change_55 : decode cX10_change 55 = .ok (.iconst 1, 1) := by decide +kernel
theorem dX10_change_56 : decode cX10_change 56 = .ok (.invokevirtual 104, 3) := by decide +kernel
theorem dX10_change_59 : decode cX10_change 59 = .ok (.ireturn, 1) := by decide +kernel
theorem dX10_change_60 : decode cX10_change 60 = .ok (.aload_n 0, 1) := by decide +kernel
theorem dX10_change_61 : decode cX10_change 61 = .ok (.iload_n 1, 1) := by decide +kernel
theorem dX10_change_62 : decode cX10_change 62 = .ok (.iload_n 2, 1) := by decide +kernel
theorem dX10_change_63 : decode cX10_change 63 = .ok (.invokevirtual 173, 3) := by decide +kernel
theorem dX10_change_66 : decode cX10_change 66 = .ok (.istore 5, 2) := by decide +kernel
theorem dX10_change_68 : decode cX10_change 68 = .ok (.aload_n 0, 1) := by decide +kernel
theorem dX10_change_69 : decode cX10_change 69 = .ok (.iload_n 1, 1) := by decide +kernel
theorem dX10_change_70 : decode cX10_change 70 = .ok (.iload_n 2, 1) := by decide +kernel
theorem dX10_change_71 : decode cX10_change 71 = .ok (.iload_n 3, 1) := by decide +kernel
theorem dX10_change_72 : decode cX10_change 72 = .ok (.invokevirtual 169, 3) := by decide +kernel
theorem dX10_change_75 : decode cX10_change 75 = .ok (.iload 5, 2) := by decide +kernel
theorem dX10_change_77 : decode cX10_change 77 = .ok (.ireturn, 1) := by decide +kernel
theorem dX10_become_0 : decode cX10_become 0 = .ok (.aload_n 0, 1) := by decide +kernel
theorem dX10_become_1 : decode cX10_become 1 = .ok (.iload_n 1, 1) := by decide +kernel
theorem dX10_become_2 : decode cX10_become 2 = .ok (.invokevirtual 191, 3) := by decide +kernel
theorem dX10_become_5 : decode cX10_become 5 = .ok (.ifCond .eq 15, 3) := by decide +kernel
theorem dX10_become_8 : decode cX10_become 8 = .ok (.iload_n 2, 1) := by decide +kernel
theorem dX10_become_9 : decode cX10_become 9 = .ok (.i2l, 1) := by decide +kernel
theorem dX10_become_10 : decode cX10_become 10 = .ok (.lconst 0, 1) := by decide +kernel
theorem dX10_become_11 : decode cX10_become 11 = .ok (.ldc2_w 165, 3) := by decide +kernel
theorem dX10_become_14 : decode cX10_become 14 = .ok (.invokestatic 41, 3) := by decide +kernel
theorem dX10_become_17 : decode cX10_become 17 = .ok (.ifCond .ne 9, 3) := by decide +kernel
theorem dX10_become_20 : decode cX10_become 20 = .ok (.aload_n 0, 1) := by decide +kernel
theorem dX10_become_21 : decode cX10_become 21 = .ok (.iconst 1, 1) := by decide +kernel
theorem dX10_become_22 : decode cX10_become 22 = .ok (.invokevirtual 104, 3) := by decide +kernel
theorem dX10_become_25 : decode cX10_become 25 = .ok (.ireturn, 1) := by decide +kernel
theorem dX10_become_26 : decode cX10_become 26 = .ok (.aload_n 0, 1) := by decide +kernel
theorem dX10_become_27 : decode cX10_become 27 = .ok (.iload_n 1, 1) := by decide +kernel
theorem dX10_become_28 : decode cX10_become 28 = .ok (.iconst 0, 1) := by decide +kernel
theorem dX10_become_29 : decode cX10_become 29 = .ok (.invokevirtual 173, 3) := by decide +kernel
theorem dX10_become_32 : decode cX10_become 32 = .ok (.istore_n 3, 1) := by decide +kernel
theorem dX10_become_33 : decode cX10_become 33 = .ok (.aload_n 0, 1) := by decide +kernel
theorem dX10_become_34 : decode cX10_become 34 = .ok (.iload_n 1, 1) := by decide +kernel
theorem dX10_become_35 : decode cX10_become 35 = .ok (.iconst 0, 1) := by decide +kernel
theorem dX10_become_36 : decode cX10_become 36 = .ok (.iload_n 2, 1) := by decide +kernel
theorem dX10_become_37 : decode cX10_become 37 = .ok (.bipush 10, 2) := by decide +kernel
theorem dX10_become_39 : decode cX10_become 39 = .ok (.idiv, 1) := by decide +kernel
theorem dX10_become_40 : decode cX10_become 40 = .ok (.invokevirtual 169, 3) := by decide +kernel
theorem dX10_become_43 : decode cX10_become 43 = .ok (.aload_n 0, 1) := by decide +kernel
theorem dX10_become_44 : decode cX10_become 44 = .ok (.iload_n 1, 1) := by decide +kernel
theorem dX10_become_45 : decode cX10_become 45 = .ok (.iconst 1, 1) := by decide +kernel
theorem dX10_become_46 : decode cX10_become 46 = .ok (.iload_n 2, 1) := by decide +kernel
theorem dX10_become_47 : decode cX10_become 47 = .ok (.bipush 10, 2) := by decide +kernel
theorem dX10_become_49 : decode cX10_become 49 = .ok (.irem, 1) := by decide +kernel
theorem dX10_become_50 : decode cX10_become 50 = .ok (.invokevirtual 169, 3) := by decide +kernel
theorem dX10_become_53 : decode cX10_become 53 = .ok (.iload_n 3, 1) := by decide +kernel
theorem dX10_become_54 : decode cX10_become 54 = .ok (.ireturn, 1) := by decide +kernel
theorem dX10_above_0 : decode cX10_above 0 = .ok (.iload_n 0, 1) := by decide +kernel
theorem dX10_above_1 : decode cX10_above 1 = .ok (.iconst 4, 1) := by decide +kernel
theorem dX10_above_2 : decode cX10_above 2 = .ok (.if_icmp .ge 7, 3) := by decide +kernel
theorem dX10_above_5 : decode cX10_above 5 = .ok (.iconst 0, 1) := by decide +kernel
theorem dX10_above_6 : decode cX10_above 6 = .ok (.goto 6, 3) := by decide +kernel
theorem dX10_above_9 : decode cX10_above 9 = .ok (.iload_n 0, 1) := by decide +kernel
theorem dX10_above_10 : decode cX10_above 10 = .ok (.iconst 3, 1) := by decide +kernel
theorem dX10_above_11 : decode cX10_above 11 = .ok (.isub, 1) := by decide +kernel
theorem dX10_above_12 : decode cX10_above 12 = .ok (.ireturn, 1) := by decide +kernel
theorem dX10_as_0 : decode cX10_as 0 = .ok (.aload_n 0, 1) := by decide +kernel
theorem dX10_as_1 : decode cX10_as 1 = .ok (.iload_n 1, 1) := by decide +kernel
theorem dX10_as_2 : decode cX10_as 2 = .ok (.invokevirtual 191, 3) := by decide +kernel
theorem dX10_as_5 : decode cX10_as 5 = .ok (.ifCond .eq 15, 3) := by decide +kernel
theorem dX10_as_8 : decode cX10_as 8 = .ok (.iload_n 2, 1) := by decide +kernel
theorem dX10_as_9 : decode cX10_as 9 = .ok (.i2l, 1) := by decide +kernel
theorem dX10_as_10 : decode cX10_as 10 = .ok (.lconst 0, 1) := by decide +kernel
theorem dX10_as_11 : decode cX10_as 11 = .ok (.ldc2_w 201, 3) := by decide +kernel
theorem dX10_as_14 : decode cX10_as 14 = .ok (.invokestatic 41, 3) := by decide +kernel
theorem dX10_as_17 : decode cX10_as 17 = .ok (.ifCond .ne 9, 3) := by decide +kernel
theorem dX10_as_20 : decode cX10_as 20 = .ok (.aload_n 0, 1) := by decide +kernel
theorem dX10_as_21 : decode cX10_as 21 = .ok (.iconst 1, 1) := by decide +kernel
theorem dX10_as_22 : decode cX10_as 22 = .ok (.invokevirtual 104, 3) := by decide +kernel
theorem dX10_as_25 : decode cX10_as 25 = .ok (.ireturn, 1) := by decide +kernel
theorem dX10_as_26 : decode cX10_as 26 = .ok (.aload_n 0, 1) := by decide +kernel
theorem dX10_as_27 : decode cX10_as 27 = .ok (.iload_n 1, 1) := by decide +kernel
theorem dX10_as_28 : decode cX10_as 28 = .ok (.iconst 0, 1) := by decide +kernel
theorem dX10_as_29 : decode cX10_as 29 = .ok (.invokevirtual 173, 3) := by decide +kernel
theorem dX10_as_32 : decode cX10_as 32 = .ok (.istore_n 3, 1) := by decide +kernel
theorem dX10_as_33 : decode cX10_as 33 = .ok (.iload_n 2, 1) := by decide +kernel
theorem dX10_as_34 : decode cX10_as 34 = .ok (.ifCond .eq 16, 3) := by decide +kernel
theorem dX10_as_37 : decode cX10_as 37 = .ok (.iload_n 2, 1) := by decide +kernel
theorem dX10_as_38 : decode cX10_as 38 = .ok (.iload_n 3, 1) := by decide +kernel
theorem dX10_as_39 : decode cX10_as 39 = .ok (.if_icmp .eq 11, 3) := by decide +kernel
theorem dX10_as_42 : decode cX10_as 42 = .ok (.iload_n 2, 1) := by decide +kernel
theorem dX10_as_43 : decode cX10_as 43 = .ok (.iload_n 3, 1) := by decide +kernel
theorem dX10_as_44 : decode cX10_as 44 = .ok (.invokestatic 203, 3) := by decide +kernel
theorem dX10_as_47 : decode cX10_as 47 = .ok (.if_icmp .ne 12, 3) := by decide +kernel
theorem dX10_as_50 : decode cX10_as 50 = .ok (.aload_n 0, 1) := by decide +kernel
theorem dX10_as_51 : decode cX10_as 51 = .ok (.iload_n 1, 1) := by decide +kernel
theorem dX10_as_52 : decode cX10_as 52 = .ok (.iconst 1, 1) := by decide +kernel
theorem dX10_as_53 : decode cX10_as 53 = .ok (.invokevirtual 173, 3) := by decide +kernel
theorem dX10_as_56 : decode cX10_as 56 = .ok (.goto 8, 3) := by decide +kernel
theorem dX10_as_59 : decode cX10_as 59 = .ok (.aload_n 0, 1) := by decide +kernel
theorem dX10_as_60 : decode cX10_as 60 = .ok (.iconst 5, 1) := by decide +kernel
theorem dX10_as_61 : decode cX10_as 61 = .ok (.invokevirtual 104, 3) := by decide +kernel
theorem dX10_as_64 : decode cX10_as 64 = .ok (.ireturn, 1) := by decide +kernel
theorem dX10_bids_0 : decode cX10_bids 0 = .ok (.aload_n 0, 1) := by decide +kernel
theorem dX10_bids_1 : decode cX10_bids 1 = .ok (.iload_n 1, 1) := by decide +kernel
theorem dX10_bids_2 : decode cX10_bids 2 = .ok (.invokevirtual 191, 3) := by decide +kernel
theorem dX10_bids_5 : decode cX10_bids 5 = .ok (.ifCond .eq 37, 3) := by decide +kernel
theorem dX10_bids_8 : decode cX10_bids 8 = .ok (.iload_n 2, 1) := by decide +kernel
theorem dX10_bids_9 : decode cX10_bids 9 = .ok (.i2l, 1) := by decide +kernel
theorem dX10_bids_10 : decode cX10_bids 10 = .ok (.lconst 0, 1) := by decide +kernel
theorem dX10_bids_11 : decode cX10_bids 11 = .ok (.ldc2_w 206, 3) := by decide +kernel
theorem dX10_bids_14 : decode cX10_bids 14 = .ok (.invokestatic 41, 3) := by decide +kernel
theorem dX10_bids_17 : decode cX10_bids 17 = .ok (.ifCond .eq 25, 3) := by decide +kernel
theorem dX10_bids_20 : decode cX10_bids 20 = .ok (.iload_n 3, 1) := by decide +kernel
theorem dX10_bids_21 : decode cX10_bids 21 = .ok (.i2l, 1) := by decide +kernel
theorem dX10_bids_22 : decode cX10_bids 22 = .ok (.lconst 1, 1) := by decide +kernel
theorem dX10_bids_23 : decode cX10_bids 23 = .ok (.ldc2_w 206, 3) := by decide +kernel
theorem dX10_bids_26 : decode cX10_bids 26 = .ok (.invokestatic 41, 3) := by decide +kernel
theorem dX10_bids_29 : decode cX10_bids 29 = .ok (.ifCond .eq 13, 3) := by decide +kernel
theorem dX10_bids_32 : decode cX10_bids 32 = .ok (.aload_n 0, 1) := by decide +kernel
theorem dX10_bids_33 : decode cX10_bids 33 = .ok (.iload_n 1, 1) := by decide +kernel
theorem dX10_bids_34 : decode cX10_bids 34 = .ok (.iload_n 2, 1) := by decide +kernel
theorem dX10_bids_35 : decode cX10_bids 35 = .ok (.iload_n 3, 1) := by decide +kernel
theorem dX10_bids_36 : decode cX10_bids 36 = .ok (.invokevirtual 182, 3) := by decide +kernel
theorem dX10_bids_39 : decode cX10_bids 39 = .ok (.goto 8, 3) := by decide +kernel
theorem dX10_bids_42 : decode cX10_bids 42 = .ok (.aload_n 0, 1) := by decide +kernel
theorem dX10_bids_43 : decode cX10_bids 43 = .ok (.iconst 1, 1) := by decide +kernel
theorem dX10_bids_44 : decode cX10_bids 44 = .ok (.invokevirtual 104, 3) := by decide +kernel
theorem dX10_bids_47 : decode cX10_bids 47 = .ok (.ireturn, 1) := by decide +kernel
theorem dX10_sell_0 : decode cX10_sell 0 = .ok (.iconst (-1), 1) := by decide +kernel
theorem dX10_sell_1 : decode cX10_sell 1 = .ok (.istore_n 1, 1) := by decide +kernel
theorem dX10_sell_2 : decode cX10_sell 2 = .ok (.iconst 0, 1) := by decide +kernel
theorem dX10_sell_3 : decode cX10_sell 3 = .ok (.istore_n 2, 1) := by decide +kernel
theorem dX10_sell_4 : decode cX10_sell 4 = .ok (.iconst 0, 1) := by decide +kernel
theorem dX10_sell_5 : decode cX10_sell 5 = .ok (.istore_n 3, 1) := by decide +kernel
theorem dX10_sell_6 : decode cX10_sell 6 = .ok (.iconst 0, 1) := by decide +kernel
theorem dX10_sell_7 : decode cX10_sell 7 = .ok (.istore 4, 2) := by decide +kernel
theorem dX10_sell_9 : decode cX10_sell 9 = .ok (.iload 4, 2) := by decide +kernel
theorem dX10_sell_11 : decode cX10_sell 11 = .ok (.aload_n 0, 1) := by decide +kernel
theorem dX10_sell_12 : decode cX10_sell 12 = .ok (.getfield 7, 3) := by decide +kernel
theorem dX10_sell_15 : decode cX10_sell 15 = .ok (.bipush 12, 2) := by decide +kernel
theorem dX10_sell_17 : decode cX10_sell 17 = .ok (.iaload, 1) := by decide +kernel
theorem dX10_sell_18 : decode cX10_sell 18 = .ok (.if_icmp .ge 56, 3) := by decide +kernel
theorem dX10_sell_21 : decode cX10_sell 21 = .ok (.aload_n 0, 1) := by decide +kernel
theorem dX10_sell_22 : decode cX10_sell 22 = .ok (.iload 4, 2) := by decide +kernel
theorem dX10_sell_24 : decode cX10_sell 24 = .ok (.iconst 5, 1) := by decide +kernel
theorem dX10_sell_25 : decode cX10_sell 25 = .ok (.invokevirtual 173, 3) := by decide +kernel
theorem dX10_sell_28 : decode cX10_sell 28 = .ok (.iconst 1, 1) := by decide +kernel
theorem dX10_sell_29 : decode cX10_sell 29 = .ok (.if_icmp .ne 12, 3) := by decide +kernel
theorem dX10_sell_32 : decode cX10_sell 32 = .ok (.aload_n 0, 1) := by decide +kernel
theorem dX10_sell_33 : decode cX10_sell 33 = .ok (.iload 4, 2) := by decide +kernel
theorem dX10_sell_35 : decode cX10_sell 35 = .ok (.invokevirtual 188, 3) := by decide +kernel
theorem dX10_sell_38 : decode cX10_sell 38 = .ok (.goto 4, 3) := by decide +kernel
theorem dX10_sell_41 : decode cX10_sell 41 = .ok (.iconst 0, 1) := by decide +kernel
theorem dX10_sell_42 : decode cX10_sell 42 = .ok (.istore 5, 2) := by decide +kernel
theorem dX10_sell_44 : decode cX10_sell 44 = .ok (.iload 5, 2) := by decide +kernel
theorem dX10_sell_46 : decode cX10_sell 46 = .ok (.iload_n 2, 1) := by decide +kernel
theorem dX10_sell_47 : decode cX10_sell 47 = .ok (.if_icmp .le 14, 3) := by decide +kernel
theorem dX10_sell_50 : decode cX10_sell 50 = .ok (.iload_n 2, 1) := by decide +kernel
theorem dX10_sell_51 : decode cX10_sell 51 = .ok (.istore_n 3, 1) := by decide +kernel
theorem dX10_sell_52 : decode cX10_sell 52 = .ok (.iload 5, 2) := by decide +kernel
theorem dX10_sell_54 : decode cX10_sell 54 = .ok (.istore_n 2, 1) := by decide +kernel
theorem dX10_sell_55 : decode cX10_sell 55 = .ok (.iload 4, 2) := by decide +kernel
theorem dX10_sell_57 : decode cX10_sell 57 = .ok (.istore_n 1, 1) := by decide +kernel
theorem dX10_sell_58 : decode cX10_sell 58 = .ok (.goto 10, 3) := by decide +kernel
theorem dX10_sell_61 : decode cX10_sell 61 = .ok (.iload_n 3, 1) := by decide +kernel
theorem dX10_sell_62 : decode cX10_sell 62 = .ok (.iload 5, 2) := by decide +kernel
theorem dX10_sell_64 : decode cX10_sell 64 = .ok (.invokestatic 120, 3) := by decide +kernel
theorem dX10_sell_67 : decode cX10_sell 67 = .ok (.istore_n 3, 1) := by decide +kernel
theorem dX10_sell_68 : decode cX10_sell 68 = .ok (.iinc 4 1, 3) := by decide +kernel
theorem dX10_sell_71 : decode cX10_sell 71 = .ok (.goto (-62), 3) := by decide +kernel
theorem dX10_sell_74 : decode cX10_sell 74 = .ok (.iload_n 1, 1) := by decide +kernel
theorem dX10_sell_75 : decode cX10_sell 75 = .ok (.ifCond .ge 9, 3) := by decide +kernel
theorem dX10_sell_78 : decode cX10_sell 78 = .ok (.aload_n 0, 1) := by decide +kernel
theorem dX10_sell_79 : decode cX10_sell 79 = .ok (.iconst 2, 1) := by decide +kernel
theorem dX10_sell_80 : decode cX10_sell 80 = .ok (.invokevirtual 104, 3) := by decide +kernel
theorem dX10_sell_83 : decode cX10_sell 83 = .ok (.ireturn, 1) := by decide +kernel
theorem dX10_sell_84 : decode cX10_sell 84 = .ok (.aload_n 0, 1) := by decide +kernel
theorem dX10_sell_85 : decode cX10_sell 85 = .ok (.iload_n 1, 1) := by decide +kernel
theorem dX10_sell_86 : decode cX10_sell 86 = .ok (.iconst 3, 1) := by decide +kernel
theorem dX10_sell_87 : decode cX10_sell 87 = .ok (.aload_n 0, 1) := by decide +kernel
theorem dX10_sell_88 : decode cX10_sell 88 = .ok (.iload_n 1, 1) := by decide +kernel
theorem dX10_sell_89 : decode cX10_sell 89 = .ok (.iconst 3, 1) := by decide +kernel
theorem dX10_sell_90 : decode cX10_sell 90 = .ok (.invokevirtual 173, 3) := by decide +kernel
theorem dX10_sell_93 : decode cX10_sell 93 = .ok (.iload_n 3, 1) := by decide +kernel
theorem dX10_sell_94 : decode cX10_sell 94 = .ok (.isub, 1) := by decide +kernel
theorem dX10_sell_95 : decode cX10_sell 95 = .ok (.invokevirtual 169, 3) := by decide +kernel
theorem dX10_sell_98 : decode cX10_sell 98 = .ok (.iload_n 1, 1) := by decide +kernel
theorem dX10_sell_99 : decode cX10_sell 99 = .ok (.ireturn, 1) := by decide +kernel
theorem dX10_heardBy_0 : decode cX10_heardBy 0 = .ok (.iconst 0, 1) := by decide +kernel
theorem dX10_heardBy_1 : decode cX10_heardBy 1 = .ok (.istore_n 1, 1) := by decide +kernel
theorem dX10_heardBy_2 : decode cX10_heardBy 2 = .ok (.iload_n 1, 1) := by decide +kernel
theorem dX10_heardBy_3 : decode cX10_heardBy 3 = .ok (.aload_n 0, 1) := by decide +kernel
theorem dX10_heardBy_4 : decode cX10_heardBy 4 = .ok (.getfield 7, 3) := by decide +kernel
theorem dX10_heardBy_7 : decode cX10_heardBy 7 = .ok (.bipush 12, 2) := by decide +kernel
theorem dX10_heardBy_9 : decode cX10_heardBy 9 = .ok (.iaload, 1) := by decide +kernel
theorem dX10_heardBy_10 : decode cX10_heardBy 10 = .ok (.if_icmp .ge 63, 3) := by decide +kernel
theorem dX10_heardBy_13 : decode cX10_heardBy 13 = .ok (.aload_n 0, 1) := by decide +kernel
theorem dX10_heardBy_14 : decode cX10_heardBy 14 = .ok (.iload_n 1, 1) := by decide +kernel
theorem dX10_heardBy_15 : decode cX10_heardBy 15 = .ok (.invokevirtual 185, 3) := by decide +kernel
theorem dX10_heardBy_18 : decode cX10_heardBy 18 = .ok (.istore_n 2, 1) := by decide +kernel
theorem dX10_heardBy_19 : decode cX10_heardBy 19 = .ok (.aload_n 0, 1) := by decide +kernel
theorem dX10_heardBy_20 : decode cX10_heardBy 20 = .ok (.iload_n 1, 1) := by decide +kernel
theorem dX10_heardBy_21 : decode cX10_heardBy 21 = .ok (.iconst 5, 1) := by decide +kernel
theorem dX10_heardBy_22 : decode cX10_heardBy 22 = .ok (.iload_n 2, 1) := by decide +kernel
theorem dX10_heardBy_23 : decode cX10_heardBy 23 = .ok (.ifCond .eq 7, 3) := by decide +kernel
theorem dX10_heardBy_26 : decode cX10_heardBy 26 = .ok (.iconst 1, 1) := by decide +kernel
theorem dX10_heardBy_27 : decode cX10_heardBy 27 = .ok (.goto 4, 3) := by decide +kernel
theorem dX10_heardBy_30 : decode cX10_heardBy 30 = .ok (.iconst 0, 1) := by decide +kernel
theorem dX10_heardBy_31 : decode cX10_heardBy 31 = .ok (.invokevirtual 169, 3) := by decide +kernel
theorem dX10_heardBy_34 : decode cX10_heardBy 34 = .ok (.aload_n 0, 1) := by decide +kernel
theorem dX10_heardBy_35 : decode cX10_heardBy 35 = .ok (.iload_n 1, 1) := by decide +kernel
theorem dX10_heardBy_36 : decode cX10_heardBy 36 = .ok (.iconst 4, 1) := by decide +kernel
theorem dX10_heardBy_37 : decode cX10_heardBy 37 = .ok (.iload_n 2, 1) := by decide +kernel
theorem dX10_heardBy_38 : decode cX10_heardBy 38 = .ok (.ifCond .eq 20, 3) := by decide +kernel
theorem dX10_heardBy_41 : decode cX10_heardBy 41 = .ok (.sipush 9999, 3) := by decide +kernel
theorem dX10_heardBy_44 : decode cX10_heardBy 44 = .ok (.aload_n 0, 1) := by decide +kernel
theorem dX10_heardBy_45 : decode cX10_heardBy 45 = .ok (.iload_n 1, 1) := by decide +kernel
theorem dX10_heardBy_46 : decode cX10_heardBy 46 = .ok (.iconst 4, 1) := by decide +kernel
theorem dX10_heardBy_47 : decode cX10_heardBy 47 = .ok (.invokevirtual 173, 3) := by decide +kernel
theorem dX10_heardBy_50 : decode cX10_heardBy 50 = .ok (.iconst 1, 1) := by decide +kernel
theorem dX10_heardBy_51 : decode cX10_heardBy 51 = .ok (.iadd, 1) := by decide +kernel
theorem dX10_heardBy_52 : decode cX10_heardBy 52 = .ok (.invokestatic 116, 3) := by decide +kernel
theorem dX10_heardBy_55 : decode cX10_heardBy 55 = .ok (.goto 9, 3) := by decide +kernel
theorem dX10_heardBy_58 : decode cX10_heardBy 58 = .ok (.aload_n 0, 1) := by decide +kernel
theorem dX10_heardBy_59 : decode cX10_heardBy 59 = .ok (.iload_n 1, 1) := by decide +kernel
theorem dX10_heardBy_60 : decode cX10_heardBy 60 = .ok (.iconst 4, 1) := by decide +kernel
theorem dX10_heardBy_61 : decode cX10_heardBy 61 = .ok (.invokevirtual 173, 3) := by decide +kernel
theorem dX10_heardBy_64 : decode cX10_heardBy 64 = .ok (.invokevirtual 169, 3) := by decide +kernel
theorem dX10_heardBy_67 : decode cX10_heardBy 67 = .ok (.iinc 1 1, 3) := by decide +kernel
theorem dX10_heardBy_70 : decode cX10_heardBy 70 = .ok (.goto (-68), 3) := by decide +kernel
theorem dX10_heardBy_73 : decode cX10_heardBy 73 = .ok (.return_, 1) := by decide +kernel
theorem dX10_goesBy_0 : decode cX10_goesBy 0 = .ok (.aload_n 0, 1) := by decide +kernel
theorem dX10_goesBy_1 : decode cX10_goesBy 1 = .ok (.aload_n 0, 1) := by decide +kernel
theorem dX10_goesBy_2 : decode cX10_goesBy 2 = .ok (.getfield 7, 3) := by decide +kernel
theorem dX10_goesBy_5 : decode cX10_goesBy 5 = .ok (.bipush 11, 2) := by decide +kernel
theorem dX10_goesBy_7 : decode cX10_goesBy 7 = .ok (.iaload, 1) := by decide +kernel
theorem dX10_goesBy_8 : decode cX10_goesBy 8 = .ok (.invokevirtual 130, 3) := by decide +kernel
theorem dX10_goesBy_11 : decode cX10_goesBy 11 = .ok (.istore_n 1, 1) := by decide +kernel
theorem dX10_goesBy_12 : decode cX10_goesBy 12 = .ok (.aload_n 0, 1) := by decide +kernel
theorem dX10_goesBy_13 : decode cX10_goesBy 13 = .ok (.invokevirtual 137, 3) := by decide +kernel
theorem dX10_goesBy_16 : decode cX10_goesBy 16 = .ok (.istore_n 2, 1) := by decide +kernel
theorem dX10_goesBy_17 : decode cX10_goesBy 17 = .ok (.aload_n 0, 1) := by decide +kernel
theorem dX10_goesBy_18 : decode cX10_goesBy 18 = .ok (.invokevirtual 140, 3) := by decide +kernel
theorem dX10_goesBy_21 : decode cX10_goesBy 21 = .ok (.istore_n 3, 1) := by decide +kernel
theorem dX10_goesBy_22 : decode cX10_goesBy 22 = .ok (.aload_n 0, 1) := by decide +kernel
theorem dX10_goesBy_23 : decode cX10_goesBy 23 = .ok (.invokevirtual 157, 3) := by decide +kernel
theorem dX10_goesBy_26 : decode cX10_goesBy 26 = .ok (.istore 4, 2) := by decide +kernel
theorem dX10_goesBy_28 : decode cX10_goesBy 28 = .ok (.aload_n 0, 1) := by decide +kernel
theorem dX10_goesBy_29 : decode cX10_goesBy 29 = .ok (.invokevirtual 208, 3) := by decide +kernel
theorem dX10_goesBy_32 : decode cX10_goesBy 32 = .ok (.aload_n 0, 1) := by decide +kernel
theorem dX10_goesBy_33 : decode cX10_goesBy 33 = .ok (.getfield 7, 3) := by decide +kernel
theorem dX10_goesBy_36 : decode cX10_goesBy 36 = .ok (.bipush 11, 2) := by decide +kernel
theorem dX10_goesBy_38 : decode cX10_goesBy 38 = .ok (.iaload, 1) := by decide +kernel
theorem dX10_goesBy_39 : decode cX10_goesBy 39 = .ok (.ifCond .le 51, 3) := by decide +kernel
theorem dX10_goesBy_42 : decode cX10_goesBy 42 = .ok (.bipush 88, 2) := by decide +kernel
theorem dX10_goesBy_44 : decode cX10_goesBy 44 = .ok (.iconst 2, 1) := by decide +kernel
theorem dX10_goesBy_45 : decode cX10_goesBy 45 = .ok (.aload_n 0, 1) := by decide +kernel
theorem dX10_goesBy_46 : decode cX10_goesBy 46 = .ok (.getfield 7, 3) := by decide +kernel
theorem dX10_goesBy_49 : decode cX10_goesBy 49 = .ok (.bipush 10, 2) := by decide +kernel
theorem dX10_goesBy_51 : decode cX10_goesBy 51 = .ok (.iaload, 1) := by decide +kernel
theorem dX10_goesBy_52 : decode cX10_goesBy 52 = .ok (.imul, 1) := by decide +kernel
theorem dX10_goesBy_53 : decode cX10_goesBy 53 = .ok (.iadd, 1) := by decide +kernel
theorem dX10_goesBy_54 : decode cX10_goesBy 54 = .ok (.iload_n 1, 1) := by decide +kernel
theorem dX10_goesBy_55 : decode cX10_goesBy 55 = .ok (.bipush 10, 2) := by decide +kernel
theorem dX10_goesBy_57 : decode cX10_goesBy 57 = .ok (.if_icmp .lt 7, 3) := by decide +kernel
theorem dX10_goesBy_60 : decode cX10_goesBy 60 = .ok (.iconst 1, 1) := by decide +kernel
theorem dX10_goesBy_61 : decode cX10_goesBy 61 = .ok (.goto 4, 3) := by decide +kernel
theorem dX10_goesBy_64 : decode cX10_goesBy 64 = .ok (.iconst 0, 1) := by decide +kernel
theorem dX10_goesBy_65 : decode cX10_goesBy 65 = .ok (.iadd, 1) := by decide +kernel
theorem dX10_goesBy_66 : decode cX10_goesBy 66 = .ok (.istore 5, 2) := by decide +kernel
theorem dX10_goesBy_68 : decode cX10_goesBy 68 = .ok (.aload_n 0, 1) := by decide +kernel
theorem dX10_goesBy_69 : decode cX10_goesBy 69 = .ok (.getfield 7, 3) := by decide +kernel
theorem dX10_goesBy_72 : decode cX10_goesBy 72 = .ok (.iload 5, 2) := by decide +kernel
theorem dX10_goesBy_74 : decode cX10_goesBy 74 = .ok (.sipush 9999, 3) := by decide +kernel
theorem dX10_goesBy_77 : decode cX10_goesBy 77 = .ok (.aload_n 0, 1) := by decide +kernel
theorem dX10_goesBy_78 : decode cX10_goesBy 78 = .ok (.getfield 7, 3) := by decide +kernel
theorem dX10_goesBy_81 : decode cX10_goesBy 81 = .ok (.iload 5, 2) := by decide +kernel
theorem dX10_goesBy_83 : decode cX10_goesBy 83 = .ok (.iaload, 1) := by decide +kernel
theorem dX10_goesBy_84 : decode cX10_goesBy 84 = .ok (.iconst 1, 1) := by decide +kernel
theorem dX10_goesBy_85 : decode cX10_goesBy 85 = .ok (.iadd, 1) := by decide +kernel
theorem dX10_goesBy_86 : decode cX10_goesBy 86 = .ok (.invokestatic 116, 3) := by decide +kernel
theorem dX10_goesBy_89 : decode cX10_goesBy 89 = .ok (.iastore, 1) := by decide +kernel
theorem dX10_goesBy_90 : decode cX10_goesBy 90 = .ok (.aload_n 0, 1) := by decide +kernel
theorem dX10_goesBy_91 : decode cX10_goesBy 91 = .ok (.getfield 7, 3) := by decide +kernel
theorem dX10_goesBy_94 : decode cX10_goesBy 94 = .ok (.bipush 10, 2) := by decide +kernel
theorem dX10_goesBy_96 : decode cX10_goesBy 96 = .ok (.iload 4, 2) := by decide +kernel
theorem dX10_goesBy_98 : decode cX10_goesBy 98 = .ok (.iastore, 1) := by decide +kernel
theorem dX10_goesBy_99 : decode cX10_goesBy 99 = .ok (.aload_n 0, 1) := by decide +kernel
theorem dX10_goesBy_100 : decode cX10_goesBy 100 = .ok (.getfield 7, 3) := by decide +kernel
theorem dX10_goesBy_103 : decode cX10_goesBy 103 = .ok (.bipush 8, 2) := by decide +kernel
theorem dX10_goesBy_105 : decode cX10_goesBy 105 = .ok (.dup2, 1) := by decide +kernel
theorem dX10_goesBy_106 : decode cX10_goesBy 106 = .ok (.iaload, 1) := by decide +kernel
theorem dX10_goesBy_107 : decode cX10_goesBy 107 = .ok (.aload_n 0, 1) := by decide +kernel
theorem dX10_goesBy_108 : decode cX10_goesBy 108 = .ok (.invokevirtual 133, 3) := by decide +kernel
theorem dX10_goesBy_111 : decode cX10_goesBy 111 = .ok (.ifCond .eq 7, 3) := by decide +kernel
theorem dX10_goesBy_114 : decode cX10_goesBy 114 = .ok (.iload_n 2, 1) := by decide +kernel
theorem dX10_goesBy_115 : decode cX10_goesBy 115 = .ok (.goto 4, 3) := by decide +kernel
theorem dX10_goesBy_118 : decode cX10_goesBy 118 = .ok (.iconst 0, 1) := by decide +kernel
theorem dX10_goesBy_119 : decode cX10_goesBy 119 = .ok (.iadd, 1) := by decide +kernel
theorem dX10_goesBy_120 : decode cX10_goesBy 120 = .ok (.iastore, 1) := by decide +kernel
theorem dX10_goesBy_121 : decode cX10_goesBy 121 = .ok (.aload_n 0, 1) := by decide +kernel
theorem dX10_goesBy_122 : decode cX10_goesBy 122 = .ok (.getfield 7, 3) := by decide +kernel
theorem dX10_goesBy_125 : decode cX10_goesBy 125 = .ok (.iconst 5, 1) := by decide +kernel
theorem dX10_goesBy_126 : decode cX10_goesBy 126 = .ok (.aload_n 0, 1) := by decide +kernel
theorem dX10_goesBy_127 : decode cX10_goesBy 127 = .ok (.getfield 7, 3) := by decide +kernel
theorem dX10_goesBy_130 : decode cX10_goesBy 130 = .ok (.iconst 5, 1) := by decide +kernel
theorem dX10_goesBy_131 : decode cX10_goesBy 131 = .ok (.iaload, 1) := by decide +kernel
theorem dX10_goesBy_132 : decode cX10_goesBy 132 = .ok (.aload_n 0, 1) := by decide +kernel
theorem dX10_goesBy_133 : decode cX10_goesBy 133 = .ok (.iconst 0, 1) := by decide +kernel
theorem dX10_goesBy_134 : decode cX10_goesBy 134 = .ok (.aload_n 0, 1) := by decide +kernel
theorem dX10_goesBy_135 : decode cX10_goesBy 135 = .ok (.getfield 7, 3) := by decide +kernel
theorem dX10_goesBy_138 : decode cX10_goesBy 138 = .ok (.bipush 11, 2) := by decide +kernel
theorem dX10_goesBy_140 : decode cX10_goesBy 140 = .ok (.iaload, 1) := by decide +kernel
theorem dX10_goesBy_141 : decode cX10_goesBy 141 = .ok (.invokevirtual 127, 3) := by decide +kernel
theorem dX10_goesBy_144 : decode cX10_goesBy 144 = .ok (.iadd, 1) := by decide +kernel
theorem dX10_goesBy_145 : decode cX10_goesBy 145 = .ok (.iload_n 3, 1) := by decide +kernel
theorem dX10_goesBy_146 : decode cX10_goesBy 146 = .ok (.isub, 1) := by decide +kernel
theorem dX10_goesBy_147 : decode cX10_goesBy 147 = .ok (.iconst 0, 1) := by decide +kernel
theorem dX10_goesBy_148 : decode cX10_goesBy 148 = .ok (.bipush 90, 2) := by decide +kernel
theorem dX10_goesBy_150 : decode cX10_goesBy 150 = .ok (.invokestatic 113, 3) := by decide +kernel
theorem dX10_goesBy_153 : decode cX10_goesBy 153 = .ok (.iastore, 1) := by decide +kernel
theorem dX10_goesBy_154 : decode cX10_goesBy 154 = .ok (.aload_n 0, 1) := by decide +kernel
theorem dX10_goesBy_155 : decode cX10_goesBy 155 = .ok (.getfield 7, 3) := by decide +kernel
theorem dX10_goesBy_158 : decode cX10_goesBy 158 = .ok (.iconst 3, 1) := by decide +kernel
theorem dX10_goesBy_159 : decode cX10_goesBy 159 = .ok (.iaload, 1) := by decide +kernel
theorem dX10_goesBy_160 : decode cX10_goesBy 160 = .ok (.aload_n 0, 1) := by decide +kernel
theorem dX10_goesBy_161 : decode cX10_goesBy 161 = .ok (.iconst 1, 1) := by decide +kernel
theorem dX10_goesBy_162 : decode cX10_goesBy 162 = .ok (.aload_n 0, 1) := by decide +kernel
theorem dX10_goesBy_163 : decode cX10_goesBy 163 = .ok (.getfield 7, 3) := by decide +kernel
theorem dX10_goesBy_166 : decode cX10_goesBy 166 = .ok (.iconst 3, 1) := by decide +kernel
theorem dX10_goesBy_167 : decode cX10_goesBy 167 = .ok (.iaload, 1) := by decide +kernel
theorem dX10_goesBy_168 : decode cX10_goesBy 168 = .ok (.iload_n 1, 1) := by decide +kernel
theorem dX10_goesBy_169 : decode cX10_goesBy 169 = .ok (.aload_n 0, 1) := by decide +kernel
theorem dX10_goesBy_170 : decode cX10_goesBy 170 = .ok (.getfield 7, 3) := by decide +kernel
theorem dX10_goesBy_173 : decode cX10_goesBy 173 = .ok (.iconst 4, 1) := by decide +kernel
theorem dX10_goesBy_174 : decode cX10_goesBy 174 = .ok (.iaload, 1) := by decide +kernel
theorem dX10_goesBy_175 : decode cX10_goesBy 175 = .ok (.invokevirtual 123, 3) := by decide +kernel
theorem dX10_goesBy_178 : decode cX10_goesBy 178 = .ok (.isub, 1) := by decide +kernel
theorem dX10_goesBy_179 : decode cX10_goesBy 179 = .ok (.iload_n 1, 1) := by decide +kernel
theorem dX10_goesBy_180 : decode cX10_goesBy 180 = .ok (.iadd, 1) := by decide +kernel
theorem dX10_goesBy_181 : decode cX10_goesBy 181 = .ok (.istore 5, 2) := by decide +kernel
theorem dX10_goesBy_183 : decode cX10_goesBy 183 = .ok (.aload_n 0, 1) := by decide +kernel
theorem dX10_goesBy_184 : decode cX10_goesBy 184 = .ok (.getfield 7, 3) := by decide +kernel
theorem dX10_goesBy_187 : decode cX10_goesBy 187 = .ok (.iconst 3, 1) := by decide +kernel
theorem dX10_goesBy_188 : decode cX10_goesBy 188 = .ok (.sipush 600, 3) := by decide +kernel
theorem dX10_goesBy_191 : decode cX10_goesBy 191 = .ok (.iload 5, 2) := by decide +kernel
theorem dX10_goesBy_193 : decode cX10_goesBy 193 = .ok (.invokestatic 116, 3) := by decide +kernel
theorem dX10_goesBy_196 : decode cX10_goesBy 196 = .ok (.iastore, 1) := by decide +kernel
theorem dX10_goesBy_197 : decode cX10_goesBy 197 = .ok (.aload_n 0, 1) := by decide +kernel
theorem dX10_goesBy_198 : decode cX10_goesBy 198 = .ok (.getfield 7, 3) := by decide +kernel
theorem dX10_goesBy_201 : decode cX10_goesBy 201 = .ok (.bipush 9, 2) := by decide +kernel
theorem dX10_goesBy_203 : decode cX10_goesBy 203 = .ok (.ldc 211, 2) := by decide +kernel
theorem dX10_goesBy_205 : decode cX10_goesBy 205 = .ok (.aload_n 0, 1) := by decide +kernel
theorem dX10_goesBy_206 : decode cX10_goesBy 206 = .ok (.getfield 7, 3) := by decide +kernel
theorem dX10_goesBy_209 : decode cX10_goesBy 209 = .ok (.bipush 9, 2) := by decide +kernel
theorem dX10_goesBy_211 : decode cX10_goesBy 211 = .ok (.iaload, 1) := by decide +kernel
theorem dX10_goesBy_212 : decode cX10_goesBy 212 = .ok (.iload 5, 2) := by decide +kernel
theorem dX10_goesBy_214 : decode cX10_goesBy 214 = .ok (.iadd, 1) := by decide +kernel
theorem dX10_goesBy_215 : decode cX10_goesBy 215 = .ok (.aload_n 0, 1) := by decide +kernel
theorem dX10_goesBy_216 : decode cX10_goesBy 216 = .ok (.getfield 7, 3) := by decide +kernel
theorem dX10_goesBy_219 : decode cX10_goesBy 219 = .ok (.iconst 3, 1) := by decide +kernel
theorem dX10_goesBy_220 : decode cX10_goesBy 220 = .ok (.iaload, 1) := by decide +kernel
theorem dX10_goesBy_221 : decode cX10_goesBy 221 = .ok (.isub, 1) := by decide +kernel
theorem dX10_goesBy_222 : decode cX10_goesBy 222 = .ok (.invokestatic 116, 3) := by decide +kernel
theorem dX10_goesBy_225 : decode cX10_goesBy 225 = .ok (.iastore, 1) := by decide +kernel
theorem dX10_goesBy_226 : decode cX10_goesBy 226 = .ok (.aload_n 0, 1) := by decide +kernel
theorem dX10_goesBy_227 : decode cX10_goesBy 227 = .ok (.getfield 7, 3) := by decide +kernel
theorem dX10_goesBy_230 : decode cX10_goesBy 230 = .ok (.bipush 11, 2) := by decide +kernel
theorem dX10_goesBy_232 : decode cX10_goesBy 232 = .ok (.dup2, 1) := by decide +kernel
theorem dX10_goesBy_233 : decode cX10_goesBy 233 = .ok (.iaload, 1) := by decide +kernel
theorem dX10_goesBy_234 : decode cX10_goesBy 234 = .ok (.iconst 1, 1) := by decide +kernel
theorem dX10_goesBy_235 : decode cX10_goesBy 235 = .ok (.iadd, 1) := by decide +kernel
theorem dX10_goesBy_236 : decode cX10_goesBy 236 = .ok (.iastore, 1) := by decide +kernel
theorem dX10_goesBy_237 : decode cX10_goesBy 237 = .ok (.return_, 1) := by decide +kernel
theorem dX10_goesOn_0 : decode cX10_goesOn 0 = .ok (.iconst 0, 1) := by decide +kernel
theorem dX10_goesOn_1 : decode cX10_goesOn 1 = .ok (.istore_n 2, 1) := by decide +kernel
theorem dX10_goesOn_2 : decode cX10_goesOn 2 = .ok (.iload_n 2, 1) := by decide +kernel
theorem dX10_goesOn_3 : decode cX10_goesOn 3 = .ok (.iload_n 1, 1) := by decide +kernel
theorem dX10_goesOn_4 : decode cX10_goesOn 4 = .ok (.if_icmp .ge 13, 3) := by decide +kernel
theorem dX10_goesOn_7 : decode cX10_goesOn 7 = .ok (.aload_n 0, 1) := by decide +kernel
theorem dX10_goesOn_8 : decode cX10_goesOn 8 = .ok (.invokevirtual 212, 3) := by decide +kernel
theorem dX10_goesOn_11 : decode cX10_goesOn 11 = .ok (.iinc 2 1, 3) := by decide +kernel
theorem dX10_goesOn_14 : decode cX10_goesOn 14 = .ok (.goto (-12), 3) := by decide +kernel
theorem dX10_goesOn_17 : decode cX10_goesOn 17 = .ok (.return_, 1) := by decide +kernel
theorem dX10_drawn_0 : decode cX10_drawn 0 = .ok (.aload_n 0, 1) := by decide +kernel
theorem dX10_drawn_1 : decode cX10_drawn 1 = .ok (.getfield 7, 3) := by decide +kernel
theorem dX10_drawn_4 : decode cX10_drawn 4 = .ok (.bipush 13, 2) := by decide +kernel
theorem dX10_drawn_6 : decode cX10_drawn 6 = .ok (.aload_n 0, 1) := by decide +kernel
theorem dX10_drawn_7 : decode cX10_drawn 7 = .ok (.getfield 7, 3) := by decide +kernel
theorem dX10_drawn_10 : decode cX10_drawn 10 = .ok (.bipush 13, 2) := by decide +kernel
theorem dX10_drawn_12 : decode cX10_drawn 12 = .ok (.iaload, 1) := by decide +kernel
theorem dX10_drawn_13 : decode cX10_drawn 13 = .ok (.ldc 215, 2) := by decide +kernel
theorem dX10_drawn_15 : decode cX10_drawn 15 = .ok (.imul, 1) := by decide +kernel
theorem dX10_drawn_16 : decode cX10_drawn 16 = .ok (.sipush 12345, 3) := by decide +kernel
theorem dX10_drawn_19 : decode cX10_drawn 19 = .ok (.iadd, 1) := by decide +kernel
theorem dX10_drawn_20 : decode cX10_drawn 20 = .ok (.iastore, 1) := by decide +kernel
theorem dX10_drawn_21 : decode cX10_drawn 21 = .ok (.aload_n 0, 1) := by decide +kernel
theorem dX10_drawn_22 : decode cX10_drawn 22 = .ok (.getfield 7, 3) := by decide +kernel
theorem dX10_drawn_25 : decode cX10_drawn 25 = .ok (.bipush 13, 2) := by decide +kernel
theorem dX10_drawn_27 : decode cX10_drawn 27 = .ok (.iaload, 1) := by decide +kernel
theorem dX10_drawn_28 : decode cX10_drawn 28 = .ok (.bipush 8, 2) := by decide +kernel
theorem dX10_drawn_30 : decode cX10_drawn 30 = .ok (.iushr, 1) := by decide +kernel
theorem dX10_drawn_31 : decode cX10_drawn 31 = .ok (.ireturn, 1) := by decide +kernel
theorem dX10_otherwise_0 : decode cX10_otherwise 0 = .ok (.iconst 0, 1) := by decide +kernel
theorem dX10_otherwise_1 : decode cX10_otherwise 1 = .ok (.istore_n 1, 1) := by decide +kernel
theorem dX10_otherwise_2 : decode cX10_otherwise 2 = .ok (.iload_n 1, 1) := by decide +kernel
theorem dX10_otherwise_3 : decode cX10_otherwise 3 = .ok (.iconst 3, 1) := by decide +kernel
theorem dX10_otherwise_4 : decode cX10_otherwise 4 = .ok (.if_icmp .ge 55, 3) := by decide +kernel
theorem dX10_otherwise_7 : decode cX10_otherwise 7 = .ok (.bipush 16, 2) := by decide +kernel
theorem dX10_otherwise_9 : decode cX10_otherwise 9 = .ok (.bipush 24, 2) := by decide +kernel
theorem dX10_otherwise_11 : decode cX10_otherwise 11 = .ok (.iload_n 1, 1) := by decide +kernel
theorem dX10_otherwise_12 : decode cX10_otherwise 12 = .ok (.imul, 1) := by decide +kernel
theorem dX10_otherwise_13 : decode cX10_otherwise 13 = .ok (.iadd, 1) := by decide +kernel
theorem dX10_otherwise_14 : decode cX10_otherwise 14 = .ok (.aload_n 0, 1) := by decide +kernel
theorem dX10_otherwise_15 : decode cX10_otherwise 15 = .ok (.getfield 7, 3) := by decide +kernel
theorem dX10_otherwise_18 : decode cX10_otherwise 18 = .ok (.bipush 11, 2) := by decide +kernel
theorem dX10_otherwise_20 : decode cX10_otherwise 20 = .ok (.iaload, 1) := by decide +kernel
theorem dX10_otherwise_21 : decode cX10_otherwise 21 = .ok (.bipush 24, 2) := by decide +kernel
theorem dX10_otherwise_23 : decode cX10_otherwise 23 = .ok (.irem, 1) := by decide +kernel
theorem dX10_otherwise_24 : decode cX10_otherwise 24 = .ok (.iadd, 1) := by decide +kernel
theorem dX10_otherwise_25 : decode cX10_otherwise 25 = .ok (.istore_n 2, 1) := by decide +kernel
theorem dX10_otherwise_26 : decode cX10_otherwise 26 = .ok (.aload_n 0, 1) := by decide +kernel
theorem dX10_otherwise_27 : decode cX10_otherwise 27 = .ok (.getfield 7, 3) := by decide +kernel
theorem dX10_otherwise_30 : decode cX10_otherwise 30 = .ok (.iload_n 2, 1) := by decide +kernel
theorem dX10_otherwise_31 : decode cX10_otherwise 31 = .ok (.aload_n 0, 1) := by decide +kernel
theorem dX10_otherwise_32 : decode cX10_otherwise 32 = .ok (.getfield 7, 3) := by decide +kernel
theorem dX10_otherwise_35 : decode cX10_otherwise 35 = .ok (.iload_n 2, 1) := by decide +kernel
theorem dX10_otherwise_36 : decode cX10_otherwise 36 = .ok (.iaload, 1) := by decide +kernel
theorem dX10_otherwise_37 : decode cX10_otherwise 37 = .ok (.aload_n 0, 1) := by decide +kernel
theorem dX10_otherwise_38 : decode cX10_otherwise 38 = .ok (.invokevirtual 216, 3) := by decide +kernel
theorem dX10_otherwise_41 : decode cX10_otherwise 41 = .ok (.iconst 3, 1) := by decide +kernel
theorem dX10_otherwise_42 : decode cX10_otherwise 42 = .ok (.irem, 1) := by decide +kernel
theorem dX10_otherwise_43 : decode cX10_otherwise 43 = .ok (.iadd, 1) := by decide +kernel
theorem dX10_otherwise_44 : decode cX10_otherwise 44 = .ok (.iconst 1, 1) := by decide +kernel
theorem dX10_otherwise_45 : decode cX10_otherwise 45 = .ok (.isub, 1) := by decide +kernel
theorem dX10_otherwise_46 : decode cX10_otherwise 46 = .ok (.iconst 0, 1) := by decide +kernel
theorem dX10_otherwise_47 : decode cX10_otherwise 47 = .ok (.bipush 9, 2) := by decide +kernel
theorem dX10_otherwise_49 : decode cX10_otherwise 49 = .ok (.invokestatic 113, 3) := by decide +kernel
theorem dX10_otherwise_52 : decode cX10_otherwise 52 = .ok (.iastore, 1) := by decide +kernel
theorem dX10_otherwise_53 : decode cX10_otherwise 53 = .ok (.iinc 1 1, 3) := by decide +kernel
theorem dX10_otherwise_56 : decode cX10_otherwise 56 = .ok (.goto (-54), 3) := by decide +kernel
theorem dX10_otherwise_59 : decode cX10_otherwise 59 = .ok (.return_, 1) := by decide +kernel
theorem dX10_goes_0 : decode cX10_goes 0 = .ok (.iload_n 1, 1) := by decide +kernel
theorem dX10_goes_1 : decode cX10_goes 1 = .ok (.i2l, 1) := by decide +kernel
theorem dX10_goes_2 : decode cX10_goes 2 = .ok (.lconst 1, 1) := by decide +kernel
theorem dX10_goes_3 : decode cX10_goes 3 = .ok (.ldc2_w 219, 3) := by decide +kernel
theorem dX10_goes_6 : decode cX10_goes 6 = .ok (.invokestatic 41, 3) := by decide +kernel
theorem dX10_goes_9 : decode cX10_goes 9 = .ok (.ifCond .ne 9, 3) := by decide +kernel
theorem dX10_goes_12 : decode cX10_goes 12 = .ok (.aload_n 0, 1) := by decide +kernel
theorem dX10_goes_13 : decode cX10_goes 13 = .ok (.iconst 1, 1) := by decide +kernel
theorem dX10_goes_14 : decode cX10_goes 14 = .ok (.invokevirtual 104, 3) := by decide +kernel
theorem dX10_goes_17 : decode cX10_goes 17 = .ok (.ireturn, 1) := by decide +kernel
theorem dX10_goes_18 : decode cX10_goes 18 = .ok (.aload_n 0, 1) := by decide +kernel
theorem dX10_goes_19 : decode cX10_goes 19 = .ok (.getfield 7, 3) := by decide +kernel
theorem dX10_goes_22 : decode cX10_goes 22 = .ok (.bipush 11, 2) := by decide +kernel
theorem dX10_goes_24 : decode cX10_goes 24 = .ok (.iaload, 1) := by decide +kernel
theorem dX10_goes_25 : decode cX10_goes 25 = .ok (.iload_n 1, 1) := by decide +kernel
theorem dX10_goes_26 : decode cX10_goes 26 = .ok (.iadd, 1) := by decide +kernel
theorem dX10_goes_27 : decode cX10_goes 27 = .ok (.sipush 9999, 3) := by decide +kernel
theorem dX10_goes_30 : decode cX10_goes 30 = .ok (.if_icmp .le 9, 3) := by decide +kernel
theorem dX10_goes_33 : decode cX10_goes 33 = .ok (.aload_n 0, 1) := by decide +kernel
theorem dX10_goes_34 : decode cX10_goes 34 = .ok (.iconst 3, 1) := by decide +kernel
theorem dX10_goes_35 : decode cX10_goes 35 = .ok (.invokevirtual 104, 3) := by decide +kernel
theorem dX10_goes_38 : decode cX10_goes 38 = .ok (.ireturn, 1) := by decide +kernel
theorem dX10_goes_39 : decode cX10_goes 39 = .ok (.iconst 0, 1) := by decide +kernel
theorem dX10_goes_40 : decode cX10_goes 40 = .ok (.istore_n 3, 1) := by decide +kernel
theorem dX10_goes_41 : decode cX10_goes 41 = .ok (.iload_n 3, 1) := by decide +kernel
theorem dX10_goes_42 : decode cX10_goes 42 = .ok (.iload_n 1, 1) := by decide +kernel
theorem dX10_goes_43 : decode cX10_goes 43 = .ok (.if_icmp .ge 21, 3) := by decide +kernel
theorem dX10_goes_46 : decode cX10_goes 46 = .ok (.iload_n 2, 1) := by decide +kernel
theorem dX10_goes_47 : decode cX10_goes 47 = .ok (.ifCond .eq 7, 3) := by decide +kernel
theorem dX10_goes_50 : decode cX10_goes 50 = .ok (.aload_n 0, 1) := by decide +kernel
theorem dX10_goes_51 : decode cX10_goes 51 = .ok (.invokevirtual 221, 3) := by decide +kernel
theorem dX10_goes_54 : decode cX10_goes 54 = .ok (.aload_n 0, 1) := by decide +kernel
theorem dX10_goes_55 : decode cX10_goes 55 = .ok (.invokevirtual 212, 3) := by decide +kernel
theorem dX10_goes_58 : decode cX10_goes 58 = .ok (.iinc 3 1, 3) := by decide +kernel
theorem dX10_goes_61 : decode cX10_goes 61 = .ok (.goto (-20), 3) := by decide +kernel
theorem dX10_goes_64 : decode cX10_goes 64 = .ok (.aload_n 0, 1) := by decide +kernel
theorem dX10_goes_65 : decode cX10_goes 65 = .ok (.getfield 7, 3) := by decide +kernel
theorem dX10_goes_68 : decode cX10_goes 68 = .ok (.iconst 3, 1) := by decide +kernel
theorem dX10_goes_69 : decode cX10_goes 69 = .ok (.iaload, 1) := by decide +kernel
theorem dX10_goes_70 : decode cX10_goes 70 = .ok (.ireturn, 1) := by decide +kernel
theorem dX10_hours_0 : decode cX10_hours 0 = .ok (.aload_n 0, 1) := by decide +kernel
theorem dX10_hours_1 : decode cX10_hours 1 = .ok (.iload_n 1, 1) := by decide +kernel
theorem dX10_hours_2 : decode cX10_hours 2 = .ok (.iconst 0, 1) := by decide +kernel
theorem dX10_hours_3 : decode cX10_hours 3 = .ok (.invokevirtual 224, 3) := by decide +kernel
theorem dX10_hours_6 : decode cX10_hours 6 = .ok (.ireturn, 1) := by decide +kernel
theorem dX10_loose_0 : decode cX10_loose 0 = .ok (.aload_n 0, 1) := by decide +kernel
theorem dX10_loose_1 : decode cX10_loose 1 = .ok (.iload_n 1, 1) := by decide +kernel
theorem dX10_loose_2 : decode cX10_loose 2 = .ok (.iconst 1, 1) := by decide +kernel
theorem dX10_loose_3 : decode cX10_loose 3 = .ok (.invokevirtual 224, 3) := by decide +kernel
theorem dX10_loose_6 : decode cX10_loose 6 = .ok (.ireturn, 1) := by decide +kernel
theorem dX10_then_0 : decode cX10_then 0 = .ok (.iload_n 1, 1) := by decide +kernel
theorem dX10_then_1 : decode cX10_then 1 = .ok (.i2l, 1) := by decide +kernel
theorem dX10_then_2 : decode cX10_then 2 = .ok (.lconst 0, 1) := by decide +kernel
theorem dX10_then_3 : decode cX10_then 3 = .ok (.ldc2_w 219, 3) := by decide +kernel
theorem dX10_then_6 : decode cX10_then 6 = .ok (.invokestatic 41, 3) := by decide +kernel
theorem dX10_then_9 : decode cX10_then 9 = .ok (.ifCond .eq 15, 3) := by decide +kernel
theorem dX10_then_12 : decode cX10_then 12 = .ok (.iload_n 2, 1) := by decide +kernel
theorem dX10_then_13 : decode cX10_then 13 = .ok (.i2l, 1) := by decide +kernel
theorem dX10_then_14 : decode cX10_then 14 = .ok (.lconst 0, 1) := by decide +kernel
theorem dX10_then_15 : decode cX10_then 15 = .ok (.ldc2_w 160, 3) := by decide +kernel
theorem dX10_then_18 : decode cX10_then 18 = .ok (.invokestatic 41, 3) := by decide +kernel
theorem dX10_then_21 : decode cX10_then 21 = .ok (.ifCond .ne 9, 3) := by decide +kernel
theorem dX10_then_24 : decode cX10_then 24 = .ok (.aload_n 0, 1) := by decide +kernel
theorem dX10_then_25 : decode cX10_then 25 = .ok (.iconst 1, 1) := by decide +kernel
theorem dX10_then_26 : decode cX10_then 26 = .ok (.invokevirtual 104, 3) := by decide +kernel
theorem dX10_then_29 : decode cX10_then 29 = .ok (.ireturn, 1) := by decide +kernel
theorem dX10_then_30 : decode cX10_then 30 = .ok (.aload_n 0, 1) := by decide +kernel
theorem dX10_then_31 : decode cX10_then 31 = .ok (.getfield 7, 3) := by decide +kernel
theorem dX10_then_34 : decode cX10_then 34 = .ok (.aload_n 0, 1) := by decide +kernel
theorem dX10_then_35 : decode cX10_then 35 = .ok (.getfield 13, 3) := by decide +kernel
theorem dX10_then_38 : decode cX10_then 38 = .ok (.invokestatic 228, 3) := by decide +kernel
theorem dX10_then_41 : decode cX10_then 41 = .ok (.aload_n 0, 1) := by decide +kernel
theorem dX10_then_42 : decode cX10_then 42 = .ok (.iload_n 1, 1) := by decide +kernel
theorem dX10_then_43 : decode cX10_then 43 = .ok (.invokevirtual 232, 3) := by decide +kernel
theorem dX10_then_46 : decode cX10_then 46 = .ok (.aload_n 0, 1) := by decide +kernel
theorem dX10_then_47 : decode cX10_then 47 = .ok (.iload_n 2, 1) := by decide +kernel
theorem dX10_then_48 : decode cX10_then 48 = .ok (.invokevirtual 162, 3) := by decide +kernel
theorem dX10_then_51 : decode cX10_then 51 = .ok (.istore_n 3, 1) := by decide +kernel
theorem dX10_then_52 : decode cX10_then 52 = .ok (.aload_n 0, 1) := by decide +kernel
theorem dX10_then_53 : decode cX10_then 53 = .ok (.getfield 13, 3) := by decide +kernel
theorem dX10_then_56 : decode cX10_then 56 = .ok (.aload_n 0, 1) := by decide +kernel
theorem dX10_then_57 : decode cX10_then 57 = .ok (.getfield 7, 3) := by decide +kernel
theorem dX10_then_60 : decode cX10_then 60 = .ok (.invokestatic 228, 3) := by decide +kernel
theorem dX10_then_63 : decode cX10_then 63 = .ok (.iload_n 3, 1) := by decide +kernel
theorem dX10_then_64 : decode cX10_then 64 = .ok (.ireturn, 1) := by decide +kernel
theorem dX10_thenFisher_0 : decode cX10_thenFisher 0 = .ok (.iload_n 1, 1) := by decide +kernel
theorem dX10_thenFisher_1 : decode cX10_thenFisher 1 = .ok (.i2l, 1) := by decide +kernel
theorem dX10_thenFisher_2 : decode cX10_thenFisher 2 = .ok (.lconst 0, 1) := by decide +kernel
theorem dX10_thenFisher_3 : decode cX10_thenFisher 3 = .ok (.ldc2_w 219, 3) := by decide +kernel
theorem dX10_thenFisher_6 : decode cX10_thenFisher 6 = .ok (.invokestatic 41, 3) := by decide +kernel
theorem dX10_thenFisher_9 : decode cX10_thenFisher 9 = .ok (.ifCond .eq 23, 3) := by decide +kernel
theorem dX10_thenFisher_12 : decode cX10_thenFisher 12 = .ok (.aload_n 0, 1) := by decide +kernel
theorem dX10_thenFisher_13 : decode cX10_thenFisher 13 = .ok (.iload_n 2, 1) := by decide +kernel
theorem dX10_thenFisher_14 : decode cX10_thenFisher 14 = .ok (.invokevirtual 191, 3) := by decide +kernel
theorem dX10_thenFisher_17 : decode cX10_thenFisher 17 = .ok (.ifCond .eq 15, 3) := by decide +kernel
theorem dX10_thenFisher_20 : decode cX10_thenFisher 20 = .ok (.iload_n 3, 1) := by decide +kernel
theorem dX10_thenFisher_21 : decode cX10_thenFisher 21 = .ok (.i2l, 1) := by decide +kernel
theorem dX10_thenFisher_22 : decode cX10_thenFisher 22 = .ok (.lconst 0, 1) := by decide +kernel
theorem dX10_thenFisher_23 : decode cX10_thenFisher 23 = .ok (.ldc2_w 194, 3) := by decide +kernel
theorem dX10_thenFisher_26 : decode cX10_thenFisher 26 = .ok (.invokestatic 41, 3) := by decide +kernel
theorem dX10_thenFisher_29 : decode cX10_thenFisher 29 = .ok (.ifCond .ne 9, 3) := by decide +kernel
theorem dX10_thenFisher_32 : decode cX10_thenFisher 32 = .ok (.aload_n 0, 1) := by decide +kernel
theorem dX10_thenFisher_33 : decode cX10_thenFisher 33 = .ok (.iconst 1, 1) := by decide +kernel
theorem dX10_thenFisher_34 : decode cX10_thenFisher 34 = .ok (.invokevirtual 104, 3) := by decide +kernel
theorem dX10_thenFisher_37 : decode cX10_thenFisher 37 = .ok (.ireturn, 1) := by decide +kernel
theorem dX10_thenFisher_38 : decode cX10_thenFisher 38 = .ok (.aload_n 0, 1) := by decide +kernel
theorem dX10_thenFisher_39 : decode cX10_thenFisher 39 = .ok (.getfield 7, 3) := by decide +kernel
theorem dX10_thenFisher_42 : decode cX10_thenFisher 42 = .ok (.aload_n 0, 1) := by decide +kernel
theorem dX10_thenFisher_43 : decode cX10_thenFisher 43 = .ok (.getfield 13, 3) := by decide +kernel
theorem dX10_thenFisher_46 : decode cX10_thenFisher 46 = .ok (.invokestatic 228, 3) := by decide +kernel
theorem dX10_thenFisher_49 : decode cX10_thenFisher 49 = .ok (.aload_n 0, 1) := by decide +kernel
theorem dX10_thenFisher_50 : decode cX10_thenFisher 50 = .ok (.iload_n 1, 1) := by decide +kernel
theorem dX10_thenFisher_51 : decode cX10_thenFisher 51 = .ok (.invokevirtual 232, 3) := by decide +kernel
theorem dX10_thenFisher_54 : decode cX10_thenFisher 54 = .ok (.aload_n 0, 1) := by decide +kernel
theorem dX10_thenFisher_55 : decode cX10_thenFisher 55 = .ok (.iload_n 2, 1) := by decide +kernel
theorem dX10_thenFisher_56 : decode cX10_thenFisher 56 = .ok (.iload_n 3, 1) := by decide +kernel
theorem dX10_thenFisher_57 : decode cX10_thenFisher 57 = .ok (.invokevirtual 196, 3) := by decide +kernel
theorem dX10_thenFisher_60 : decode cX10_thenFisher 60 = .ok (.istore 4, 2) := by decide +kernel
theorem dX10_thenFisher_62 : decode cX10_thenFisher 62 = .ok (.aload_n 0, 1) := by decide +kernel
theorem dX10_thenFisher_63 : decode cX10_thenFisher 63 = .ok (.getfield 13, 3) := by decide +kernel
theorem dX10_thenFisher_66 : decode cX10_thenFisher 66 = .ok (.aload_n 0, 1) := by decide +kernel
theorem dX10_thenFisher_67 : decode cX10_thenFisher 67 = .ok (.getfield 7, 3) := by decide +kernel
theorem dX10_thenFisher_70 : decode cX10_thenFisher 70 = .ok (.invokestatic 228, 3) := by decide +kernel
theorem dX10_thenFisher_73 : decode cX10_thenFisher 73 = .ok (.iload 4, 2) := by decide +kernel
theorem dX10_thenFisher_75 : decode cX10_thenFisher 75 = .ok (.ireturn, 1) := by decide +kernel
theorem dX10_falls_0 : decode cX10_falls 0 = .ok (.iload_n 1, 1) := by decide +kernel
theorem dX10_falls_1 : decode cX10_falls 1 = .ok (.i2l, 1) := by decide +kernel
theorem dX10_falls_2 : decode cX10_falls 2 = .ok (.lconst 0, 1) := by decide +kernel
theorem dX10_falls_3 : decode cX10_falls 3 = .ok (.ldc2_w 219, 3) := by decide +kernel
theorem dX10_falls_6 : decode cX10_falls 6 = .ok (.invokestatic 41, 3) := by decide +kernel
theorem dX10_falls_9 : decode cX10_falls 9 = .ok (.ifCond .ne 9, 3) := by decide +kernel
theorem dX10_falls_12 : decode cX10_falls 12 = .ok (.aload_n 0, 1) := by decide +kernel
theorem dX10_falls_13 : decode cX10_falls 13 = .ok (.iconst 1, 1) := by decide +kernel
theorem dX10_falls_14 : decode cX10_falls 14 = .ok (.invokevirtual 104, 3) := by decide +kernel
theorem dX10_falls_17 : decode cX10_falls 17 = .ok (.ireturn, 1) := by decide +kernel
theorem dX10_falls_18 : decode cX10_falls 18 = .ok (.aload_n 0, 1) := by decide +kernel
theorem dX10_falls_19 : decode cX10_falls 19 = .ok (.getfield 7, 3) := by decide +kernel
theorem dX10_falls_22 : decode cX10_falls 22 = .ok (.aload_n 0, 1) := by decide +kernel
theorem dX10_falls_23 : decode cX10_falls 23 = .ok (.getfield 13, 3) := by decide +kernel
theorem dX10_falls_26 : decode cX10_falls 26 = .ok (.invokestatic 228, 3) := by decide +kernel
theorem dX10_falls_29 : decode cX10_falls 29 = .ok (.iconst 0, 1) := by decide +kernel
theorem dX10_falls_30 : decode cX10_falls 30 = .ok (.istore_n 2, 1) := by decide +kernel
theorem dX10_falls_31 : decode cX10_falls 31 = .ok (.iload_n 2, 1) := by decide +kernel
theorem dX10_falls_32 : decode cX10_falls 32 = .ok (.iload_n 1, 1) := by decide +kernel
theorem dX10_falls_33 : decode cX10_falls 33 = .ok (.if_icmp .ge 20, 3) := by decide +kernel
theorem dX10_falls_36 : decode cX10_falls 36 = .ok (.aload_n 0, 1) := by decide +kernel
theorem dX10_falls_37 : decode cX10_falls 37 = .ok (.invokevirtual 133, 3) := by decide +kernel
theorem dX10_falls_40 : decode cX10_falls 40 = .ok (.ifCond .eq 13, 3) := by decide +kernel
theorem dX10_falls_43 : decode cX10_falls 43 = .ok (.aload_n 0, 1) := by decide +kernel
theorem dX10_falls_44 : decode cX10_falls 44 = .ok (.invokevirtual 212, 3) := by decide +kernel
theorem dX10_falls_47 : decode cX10_falls 47 = .ok (.iinc 2 1, 3) := by decide +kernel
theorem dX10_falls_50 : decode cX10_falls 50 = .ok (.goto (-19), 3) := by decide +kernel
theorem dX10_falls_53 : decode cX10_falls 53 = .ok (.aload_n 0, 1) := by decide +kernel
theorem dX10_falls_54 : decode cX10_falls 54 = .ok (.invokevirtual 133, 3) := by decide +kernel
theorem dX10_falls_57 : decode cX10_falls 57 = .ok (.ifCond .ne 7, 3) := by decide +kernel
theorem dX10_falls_60 : decode cX10_falls 60 = .ok (.iconst 1, 1) := by decide +kernel
theorem dX10_falls_61 : decode cX10_falls 61 = .ok (.goto 4, 3) := by decide +kernel
theorem dX10_falls_64 : decode cX10_falls 64 = .ok (.iconst 0, 1) := by decide +kernel
theorem dX10_falls_65 : decode cX10_falls 65 = .ok (.istore_n 3, 1) := by decide +kernel
theorem dX10_falls_66 : decode cX10_falls 66 = .ok (.aload_n 0, 1) := by decide +kernel
theorem dX10_falls_67 : decode cX10_falls 67 = .ok (.getfield 13, 3) := by decide +kernel
theorem dX10_falls_70 : decode cX10_falls 70 = .ok (.aload_n 0, 1) := by decide +kernel
theorem dX10_falls_71 : decode cX10_falls 71 = .ok (.getfield 7, 3) := by decide +kernel
theorem dX10_falls_74 : decode cX10_falls 74 = .ok (.invokestatic 228, 3) := by decide +kernel
theorem dX10_falls_77 : decode cX10_falls 77 = .ok (.iload_n 3, 1) := by decide +kernel
theorem dX10_falls_78 : decode cX10_falls 78 = .ok (.ifCond .eq 7, 3) := by decide +kernel
theorem dX10_falls_81 : decode cX10_falls 81 = .ok (.iload_n 2, 1) := by decide +kernel
theorem dX10_falls_82 : decode cX10_falls 82 = .ok (.goto 8, 3) := by decide +kernel
theorem dX10_falls_85 : decode cX10_falls 85 = .ok (.aload_n 0, 1) := by decide +kernel
theorem dX10_falls_86 : decode cX10_falls 86 = .ok (.iconst 2, 1) := by decide +kernel
theorem dX10_falls_87 : decode cX10_falls 87 = .ok (.invokevirtual 104, 3) := by decide +kernel
theorem dX10_falls_90 : decode cX10_falls 90 = .ok (.ireturn, 1) := by decide +kernel
theorem dX10_book_0 : decode cX10_book 0 = .ok (.iload_n 1, 1) := by decide +kernel
theorem dX10_book_1 : decode cX10_book 1 = .ok (.i2l, 1) := by decide +kernel
theorem dX10_book_2 : decode cX10_book 2 = .ok (.lconst 0, 1) := by decide +kernel
theorem dX10_book_3 : decode cX10_book 3 = .ok (.ldc2_w 147, 3) := by decide +kernel
theorem dX10_book_6 : decode cX10_book 6 = .ok (.invokestatic 41, 3) := by decide +kernel
theorem dX10_book_9 : decode cX10_book 9 = .ok (.ifCond .eq 29, 3) := by decide +kernel
theorem dX10_book_12 : decode cX10_book 12 = .ok (.iload_n 2, 1) := by decide +kernel
theorem dX10_book_13 : decode cX10_book 13 = .ok (.i2l, 1) := by decide +kernel
theorem dX10_book_14 : decode cX10_book 14 = .ok (.lconst 0, 1) := by decide +kernel
theorem dX10_book_15 : decode cX10_book 15 = .ok (.lconst 1, 1) := by decide +kernel
theorem dX10_book_16 : decode cX10_book 16 = .ok (.invokestatic 41, 3) := by decide +kernel
theorem dX10_book_19 : decode cX10_book 19 = .ok (.ifCond .eq 19, 3) := by decide +kernel
theorem dX10_book_22 : decode cX10_book 22 = .ok (.aload_n 0, 1) := by decide +kernel
theorem dX10_book_23 : decode cX10_book 23 = .ok (.getfield 7, 3) := by decide +kernel
theorem dX10_book_26 : decode cX10_book 26 = .ok (.bipush 88, 2) := by decide +kernel
theorem dX10_book_28 : decode cX10_book 28 = .ok (.iconst 2, 1) := by decide +kernel
theorem dX10_book_29 : decode cX10_book 29 = .ok (.iload_n 1, 1) := by decide +kernel
theorem dX10_book_30 : decode cX10_book 30 = .ok (.imul, 1) := by decide +kernel
theorem dX10_book_31 : decode cX10_book 31 = .ok (.iadd, 1) := by decide +kernel
theorem dX10_book_32 : decode cX10_book 32 = .ok (.iload_n 2, 1) := by decide +kernel
theorem dX10_book_33 : decode cX10_book 33 = .ok (.iadd, 1) := by decide +kernel
theorem dX10_book_34 : decode cX10_book 34 = .ok (.iaload, 1) := by decide +kernel
theorem dX10_book_35 : decode cX10_book 35 = .ok (.goto 8, 3) := by decide +kernel
theorem dX10_book_38 : decode cX10_book 38 = .ok (.aload_n 0, 1) := by decide +kernel
theorem dX10_book_39 : decode cX10_book 39 = .ok (.iconst 1, 1) := by decide +kernel
theorem dX10_book_40 : decode cX10_book 40 = .ok (.invokevirtual 104, 3) := by decide +kernel
theorem dX10_book_43 : decode cX10_book 43 = .ok (.ireturn, 1) := by decide +kernel
theorem dX10_odds_0 : decode cX10_odds 0 = .ok (.iload_n 1, 1) := by decide +kernel
theorem dX10_odds_1 : decode cX10_odds 1 = .ok (.i2l, 1) := by decide +kernel
theorem dX10_odds_2 : decode cX10_odds 2 = .ok (.lconst 0, 1) := by decide +kernel
theorem dX10_odds_3 : decode cX10_odds 3 = .ok (.ldc2_w 147, 3) := by decide +kernel
theorem dX10_odds_6 : decode cX10_odds 6 = .ok (.invokestatic 41, 3) := by decide +kernel
theorem dX10_odds_9 : decode cX10_odds 9 = .ok (.ifCond .eq 23, 3) := by decide +kernel
theorem dX10_odds_12 : decode cX10_odds 12 = .ok (.iload_n 2, 1) := by decide +kernel
theorem dX10_odds_13 : decode cX10_odds 13 = .ok (.i2l, 1) := by decide +kernel
theorem dX10_odds_14 : decode cX10_odds 14 = .ok (.lconst 0, 1) := by decide +kernel
theorem dX10_odds_15 : decode cX10_odds 15 = .ok (.lconst 1, 1) := by decide +kernel
theorem dX10_odds_16 : decode cX10_odds 16 = .ok (.invokestatic 41, 3) := by decide +kernel
theorem dX10_odds_19 : decode cX10_odds 19 = .ok (.ifCond .eq 13, 3) := by decide +kernel
theorem dX10_odds_22 : decode cX10_odds 22 = .ok (.aload_n 0, 1) := by decide +kernel
theorem dX10_odds_23 : decode cX10_odds 23 = .ok (.iload_n 1, 1) := by decide +kernel
theorem dX10_odds_24 : decode cX10_odds 24 = .ok (.iload_n 2, 1) := by decide +kernel
theorem dX10_odds_25 : decode cX10_odds 25 = .ok (.invokevirtual 179, 3) := by decide +kernel
theorem dX10_odds_28 : decode cX10_odds 28 = .ok (.i2l, 1) := by decide +kernel
theorem dX10_odds_29 : decode cX10_odds 29 = .ok (.goto 9, 3) := by decide +kernel
theorem dX10_odds_32 : decode cX10_odds 32 = .ok (.aload_n 0, 1) := by decide +kernel
theorem dX10_odds_33 : decode cX10_odds 33 = .ok (.iconst 1, 1) := by decide +kernel
theorem dX10_odds_34 : decode cX10_odds 34 = .ok (.invokevirtual 104, 3) := by decide +kernel
theorem dX10_odds_37 : decode cX10_odds 37 = .ok (.i2l, 1) := by decide +kernel
theorem dX10_odds_38 : decode cX10_odds 38 = .ok (.lreturn, 1) := by decide +kernel
theorem dX10_keeps_0 : decode cX10_keeps 0 = .ok (.aload_n 0, 1) := by decide +kernel
theorem dX10_keeps_1 : decode cX10_keeps 1 = .ok (.getfield 7, 3) := by decide +kernel
theorem dX10_keeps_4 : decode cX10_keeps 4 = .ok (.aload_n 0, 1) := by decide +kernel
theorem dX10_keeps_5 : decode cX10_keeps 5 = .ok (.getfield 13, 3) := by decide +kernel
theorem dX10_keeps_8 : decode cX10_keeps 8 = .ok (.invokestatic 228, 3) := by decide +kernel
theorem dX10_keeps_11 : decode cX10_keeps 11 = .ok (.aload_n 0, 1) := by decide +kernel
theorem dX10_keeps_12 : decode cX10_keeps 12 = .ok (.getfield 7, 3) := by decide +kernel
theorem dX10_keeps_15 : decode cX10_keeps 15 = .ok (.iconst 4, 1) := by decide +kernel
theorem dX10_keeps_16 : decode cX10_keeps 16 = .ok (.iload_n 1, 1) := by decide +kernel
theorem dX10_keeps_17 : decode cX10_keeps 17 = .ok (.iastore, 1) := by decide +kernel
theorem dX10_keeps_18 : decode cX10_keeps 18 = .ok (.iconst 1, 1) := by decide +kernel
theorem dX10_keeps_19 : decode cX10_keeps 19 = .ok (.istore 5, 2) := by decide +kernel
theorem dX10_keeps_21 : decode cX10_keeps 21 = .ok (.iconst 0, 1) := by decide +kernel
theorem dX10_keeps_22 : decode cX10_keeps 22 = .ok (.istore 6, 2) := by decide +kernel
theorem dX10_keeps_24 : decode cX10_keeps 24 = .ok (.iload 6, 2) := by decide +kernel
theorem dX10_keeps_26 : decode cX10_keeps 26 = .ok (.iload 4, 2) := by decide +kernel
theorem dX10_keeps_28 : decode cX10_keeps 28 = .ok (.if_icmp .ge 34, 3) := by decide +kernel
theorem dX10_keeps_31 : decode cX10_keeps 31 = .ok (.iload 5, 2) := by decide +kernel
theorem dX10_keeps_33 : decode cX10_keeps 33 = .ok (.ifCond .eq 29, 3) := by decide +kernel
theorem dX10_keeps_36 : decode cX10_keeps 36 = .ok (.aload_n 0, 1) := by decide +kernel
theorem dX10_keeps_37 : decode cX10_keeps 37 = .ok (.invokevirtual 212, 3) := by decide +kernel
theorem dX10_keeps_40 : decode cX10_keeps 40 = .ok (.aload_n 0, 1) := by decide +kernel
theorem dX10_keeps_41 : decode cX10_keeps 41 = .ok (.getfield 7, 3) := by decide +kernel
theorem dX10_keeps_44 : decode cX10_keeps 44 = .ok (.iconst 3, 1) := by decide +kernel
theorem dX10_keeps_45 : decode cX10_keeps 45 = .ok (.iaload, 1) := by decide +kernel
theorem dX10_keeps_46 : decode cX10_keeps 46 = .ok (.i2l, 1) := by decide +kernel
theorem dX10_keeps_47 : decode cX10_keeps 47 = .ok (.iload_n 2, 1) := by decide +kernel
theorem dX10_keeps_48 : decode cX10_keeps 48 = .ok (.i2l, 1) := by decide +kernel
theorem dX10_keeps_49 : decode cX10_keeps 49 = .ok (.iload_n 3, 1) := by decide +kernel
theorem dX10_keeps_50 : decode cX10_keeps 50 = .ok (.i2l, 1) := by decide +kernel
theorem dX10_keeps_51 : decode cX10_keeps 51 = .ok (.invokestatic 41, 3) := by decide +kernel
theorem dX10_keeps_54 : decode cX10_keeps 54 = .ok (.istore 5, 2) := by decide +kernel
theorem dX10_keeps_56 : decode cX10_keeps 56 = .ok (.iinc 6 1, 3) := by decide +kernel
theorem dX10_keeps_59 : decode cX10_keeps 59 = .ok (.goto (-35), 3) := by decide +kernel
theorem dX10_keeps_62 : decode cX10_keeps 62 = .ok (.aload_n 0, 1) := by decide +kernel
theorem dX10_keeps_63 : decode cX10_keeps 63 = .ok (.getfield 13, 3) := by decide +kernel
theorem dX10_keeps_66 : decode cX10_keeps 66 = .ok (.aload_n 0, 1) := by decide +kernel
theorem dX10_keeps_67 : decode cX10_keeps 67 = .ok (.getfield 7, 3) := by decide +kernel
theorem dX10_keeps_70 : decode cX10_keeps 70 = .ok (.invokestatic 228, 3) := by decide +kernel
theorem dX10_keeps_73 : decode cX10_keeps 73 = .ok (.iload 5, 2) := by decide +kernel
theorem dX10_keeps_75 : decode cX10_keeps 75 = .ok (.ireturn, 1) := by decide +kernel
theorem dX10_gateFor_0 : decode cX10_gateFor 0 = .ok (.iload_n 1, 1) := by decide +kernel
theorem dX10_gateFor_1 : decode cX10_gateFor 1 = .ok (.i2l, 1) := by decide +kernel
theorem dX10_gateFor_2 : decode cX10_gateFor 2 = .ok (.lconst 0, 1) := by decide +kernel
theorem dX10_gateFor_3 : decode cX10_gateFor 3 = .ok (.ldc2_w 151, 3) := by decide +kernel
theorem dX10_gateFor_6 : decode cX10_gateFor 6 = .ok (.invokestatic 41, 3) := by decide +kernel
theorem dX10_gateFor_9 : decode cX10_gateFor 9 = .ok (.ifCond .eq 28, 3) := by decide +kernel
theorem dX10_gateFor_12 : decode cX10_gateFor 12 = .ok (.iload_n 2, 1) := by decide +kernel
theorem dX10_gateFor_13 : decode cX10_gateFor 13 = .ok (.i2l, 1) := by decide +kernel
theorem dX10_gateFor_14 : decode cX10_gateFor 14 = .ok (.iload_n 1, 1) := by decide +kernel
theorem dX10_gateFor_15 : decode cX10_gateFor 15 = .ok (.i2l, 1) := by decide +kernel
theorem dX10_gateFor_16 : decode cX10_gateFor 16 = .ok (.ldc2_w 151, 3) := by decide +kernel
theorem dX10_gateFor_19 : decode cX10_gateFor 19 = .ok (.invokestatic 41, 3) := by decide +kernel
theorem dX10_gateFor_22 : decode cX10_gateFor 22 = .ok (.ifCond .eq 15, 3) := by decide +kernel
theorem dX10_gateFor_25 : decode cX10_gateFor 25 = .ok (.iload_n 3, 1) := by decide +kernel
theorem dX10_gateFor_26 : decode cX10_gateFor 26 = .ok (.i2l, 1) := by decide +kernel
theorem dX10_gateFor_27 : decode cX10_gateFor 27 = .ok (.lconst 1, 1) := by decide +kernel
theorem dX10_gateFor_28 : decode cX10_gateFor 28 = .ok (.ldc2_w 98, 3) := by decide +kernel
theorem dX10_gateFor_31 : decode cX10_gateFor 31 = .ok (.invokestatic 41, 3) := by decide +kernel
theorem dX10_gateFor_34 : decode cX10_gateFor 34 = .ok (.ifCond .ne 9, 3) := by decide +kernel
theorem dX10_gateFor_37 : decode cX10_gateFor 37 = .ok (.aload_n 0, 1) := by decide +kernel
theorem dX10_gateFor_38 : decode cX10_gateFor 38 = .ok (.iconst 1, 1) := by decide +kernel
theorem dX10_gateFor_39 : decode cX10_gateFor 39 = .ok (.invokevirtual 104, 3) := by decide +kernel
theorem dX10_gateFor_42 : decode cX10_gateFor 42 = .ok (.ireturn, 1) := by decide +kernel
theorem dX10_gateFor_43 : decode cX10_gateFor 43 = .ok (.iconst 0, 1) := by decide +kernel
theorem dX10_gateFor_44 : decode cX10_gateFor 44 = .ok (.istore 4, 2) := by decide +kernel
theorem dX10_gateFor_46 : decode cX10_gateFor 46 = .ok (.iload 4, 2) := by decide +kernel
theorem dX10_gateFor_48 : decode cX10_gateFor 48 = .ok (.bipush 90, 2) := by decide +kernel
theorem dX10_gateFor_50 : decode cX10_gateFor 50 = .ok (.if_icmp .gt 24, 3) := by decide +kernel
theorem dX10_gateFor_53 : decode cX10_gateFor 53 = .ok (.aload_n 0, 1) := by decide +kernel
theorem dX10_gateFor_54 : decode cX10_gateFor 54 = .ok (.iload 4, 2) := by decide +kernel
theorem dX10_gateFor_56 : decode cX10_gateFor 56 = .ok (.iload_n 1, 1) := by decide +kernel
theorem dX10_gateFor_57 : decode cX10_gateFor 57 = .ok (.iload_n 2, 1) := by decide +kernel
theorem dX10_gateFor_58 : decode cX10_gateFor 58 = .ok (.iload_n 3, 1) := by decide +kernel
theorem dX10_gateFor_59 : decode cX10_gateFor 59 = .ok (.invokevirtual 236, 3) := by decide +kernel
theorem dX10_gateFor_62 : decode cX10_gateFor 62 = .ok (.ifCond .eq 6, 3) := by decide +kernel
theorem dX10_gateFor_65 : decode cX10_gateFor 65 = .ok (.iload 4, 2) := by decide +kernel
theorem dX10_gateFor_67 : decode cX10_gateFor 67 = .ok (.ireturn, 1) := by decide +kernel
theorem dX10_gateFor_68 : decode cX10_gateFor 68 = .ok (.iinc 4 1, 3) := by decide +kernel
theorem dX10_gateFor_71 : decode cX10_gateFor 71 = .ok (.goto (-25), 3) := by decide +kernel
theorem dX10_gateFor_74 : decode cX10_gateFor 74 = .ok (.aload_n 0, 1) := by decide +kernel
theorem dX10_gateFor_75 : decode cX10_gateFor 75 = .ok (.iconst 2, 1) := by decide +kernel
theorem dX10_gateFor_76 : decode cX10_gateFor 76 = .ok (.invokevirtual 104, 3) := by decide +kernel
theorem dX10_gateFor_79 : decode cX10_gateFor 79 = .ok (.ireturn, 1) := by decide +kernel
theorem dX10_shown_0 : decode cX10_shown 0 = .ok (.iload_n 1, 1) := by decide +kernel
theorem dX10_shown_1 : decode cX10_shown 1 = .ok (.i2l, 1) := by decide +kernel
theorem dX10_shown_2 : decode cX10_shown 2 = .ok (.lconst 0, 1) := by decide +kernel
theorem dX10_shown_3 : decode cX10_shown 3 = .ok (.ldc2_w 149, 3) := by decide +kernel
theorem dX10_shown_6 : decode cX10_shown 6 = .ok (.invokestatic 41, 3) := by decide +kernel
theorem dX10_shown_9 : decode cX10_shown 9 = .ok (.ifCond .eq 15, 3) := by decide +kernel
theorem dX10_shown_12 : decode cX10_shown 12 = .ok (.iload_n 2, 1) := by decide +kernel
theorem dX10_shown_13 : decode cX10_shown 13 = .ok (.i2l, 1) := by decide +kernel
theorem dX10_shown_14 : decode cX10_shown 14 = .ok (.lconst 0, 1) := by decide +kernel
theorem dX10_shown_15 : decode cX10_shown 15 = .ok (.ldc2_w 219, 3) := by decide +kernel
theorem dX10_shown_18 : decode cX10_shown 18 = .ok (.invokestatic 41, 3) := by decide +kernel
theorem dX10_shown_21 : decode cX10_shown 21 = .ok (.ifCond .ne 9, 3) := by decide +kernel
theorem dX10_shown_24 : decode cX10_shown 24 = .ok (.aload_n 0, 1) := by decide +kernel
theorem dX10_shown_25 : decode cX10_shown 25 = .ok (.iconst 1, 1) := by decide +kernel
theorem dX10_shown_26 : decode cX10_shown 26 = .ok (.invokevirtual 104, 3) := by decide +kernel
theorem dX10_shown_29 : decode cX10_shown 29 = .ok (.ireturn, 1) := by decide +kernel
theorem dX10_shown_30 : decode cX10_shown 30 = .ok (.aload_n 0, 1) := by decide +kernel
theorem dX10_shown_31 : decode cX10_shown 31 = .ok (.getfield 7, 3) := by decide +kernel
theorem dX10_shown_34 : decode cX10_shown 34 = .ok (.aload_n 0, 1) := by decide +kernel
theorem dX10_shown_35 : decode cX10_shown 35 = .ok (.getfield 13, 3) := by decide +kernel
theorem dX10_shown_38 : decode cX10_shown 38 = .ok (.invokestatic 228, 3) := by decide +kernel
theorem dX10_shown_41 : decode cX10_shown 41 = .ok (.iconst 0, 1) := by decide +kernel
theorem dX10_shown_42 : decode cX10_shown 42 = .ok (.istore_n 3, 1) := by decide +kernel
theorem dX10_shown_43 : decode cX10_shown 43 = .ok (.iload_n 3, 1) := by decide +kernel
theorem dX10_shown_44 : decode cX10_shown 44 = .ok (.iload_n 2, 1) := by decide +kernel
theorem dX10_shown_45 : decode cX10_shown 45 = .ok (.if_icmp .ge 31, 3) := by decide +kernel
theorem dX10_shown_48 : decode cX10_shown 48 = .ok (.aload_n 0, 1) := by decide +kernel
theorem dX10_shown_49 : decode cX10_shown 49 = .ok (.getfield 7, 3) := by decide +kernel
theorem dX10_shown_52 : decode cX10_shown 52 = .ok (.bipush 108, 2) := by decide +kernel
theorem dX10_shown_54 : decode cX10_shown 54 = .ok (.iload_n 1, 1) := by decide +kernel
theorem dX10_shown_55 : decode cX10_shown 55 = .ok (.iadd, 1) := by decide +kernel
theorem dX10_shown_56 : decode cX10_shown 56 = .ok (.iaload, 1) := by decide +kernel
theorem dX10_shown_57 : decode cX10_shown 57 = .ok (.aload_n 0, 1) := by decide +kernel
theorem dX10_shown_58 : decode cX10_shown 58 = .ok (.getfield 7, 3) := by decide +kernel
theorem dX10_shown_61 : decode cX10_shown 61 = .ok (.iconst 3, 1) := by decide +kernel
theorem dX10_shown_62 : decode cX10_shown 62 = .ok (.iaload, 1) := by decide +kernel
theorem dX10_shown_63 : decode cX10_shown 63 = .ok (.if_icmp .gt 13, 3) := by decide +kernel
theorem dX10_shown_66 : decode cX10_shown 66 = .ok (.aload_n 0, 1) := by decide +kernel
theorem dX10_shown_67 : decode cX10_shown 67 = .ok (.invokevirtual 212, 3) := by decide +kernel
theorem dX10_shown_70 : decode cX10_shown 70 = .ok (.iinc 3 1, 3) := by decide +kernel
theorem dX10_shown_73 : decode cX10_shown 73 = .ok (.goto (-30), 3) := by decide +kernel
theorem dX10_shown_76 : decode cX10_shown 76 = .ok (.aload_n 0, 1) := by decide +kernel
theorem dX10_shown_77 : decode cX10_shown 77 = .ok (.getfield 7, 3) := by decide +kernel
theorem dX10_shown_80 : decode cX10_shown 80 = .ok (.bipush 108, 2) := by decide +kernel
theorem dX10_shown_82 : decode cX10_shown 82 = .ok (.iload_n 1, 1) := by decide +kernel
theorem dX10_shown_83 : decode cX10_shown 83 = .ok (.iadd, 1) := by decide +kernel
theorem dX10_shown_84 : decode cX10_shown 84 = .ok (.iaload, 1) := by decide +kernel
theorem dX10_shown_85 : decode cX10_shown 85 = .ok (.aload_n 0, 1) := by decide +kernel
theorem dX10_shown_86 : decode cX10_shown 86 = .ok (.getfield 7, 3) := by decide +kernel
theorem dX10_shown_89 : decode cX10_shown 89 = .ok (.iconst 3, 1) := by decide +kernel
theorem dX10_shown_90 : decode cX10_shown 90 = .ok (.iaload, 1) := by decide +kernel
theorem dX10_shown_91 : decode cX10_shown 91 = .ok (.if_icmp .le 7, 3) := by decide +kernel
theorem dX10_shown_94 : decode cX10_shown 94 = .ok (.iconst 1, 1) := by decide +kernel
theorem dX10_shown_95 : decode cX10_shown 95 = .ok (.goto 4, 3) := by decide +kernel
theorem dX10_shown_98 : decode cX10_shown 98 = .ok (.iconst 0, 1) := by decide +kernel
theorem dX10_shown_99 : decode cX10_shown 99 = .ok (.istore 4, 2) := by decide +kernel
theorem dX10_shown_101 : decode cX10_shown 101 = .ok (.aload_n 0, 1) := by decide +kernel
theorem dX10_shown_102 : decode cX10_shown 102 = .ok (.getfield 13, 3) := by decide +kernel
theorem dX10_shown_105 : decode cX10_shown 105 = .ok (.aload_n 0, 1) := by decide +kernel
theorem dX10_shown_106 : decode cX10_shown 106 = .ok (.getfield 7, 3) := by decide +kernel
theorem dX10_shown_109 : decode cX10_shown 109 = .ok (.invokestatic 228, 3) := by decide +kernel
theorem dX10_shown_112 : decode cX10_shown 112 = .ok (.iload 4, 2) := by decide +kernel
theorem dX10_shown_114 : decode cX10_shown 114 = .ok (.ifCond .eq 7, 3) := by decide +kernel
theorem dX10_shown_117 : decode cX10_shown 117 = .ok (.iload_n 3, 1) := by decide +kernel
theorem dX10_shown_118 : decode cX10_shown 118 = .ok (.goto 8, 3) := by decide +kernel
theorem dX10_shown_121 : decode cX10_shown 121 = .ok (.aload_n 0, 1) := by decide +kernel
theorem dX10_shown_122 : decode cX10_shown 122 = .ok (.iconst 2, 1) := by decide +kernel
theorem dX10_shown_123 : decode cX10_shown 123 = .ok (.invokevirtual 104, 3) := by decide +kernel
theorem dX10_shown_126 : decode cX10_shown 126 = .ok (.ireturn, 1) := by decide +kernel
theorem dX10_seed_0 : decode cX10_seed 0 = .ok (.aload_n 0, 1) := by decide +kernel
theorem dX10_seed_1 : decode cX10_seed 1 = .ok (.getfield 7, 3) := by decide +kernel
theorem dX10_seed_4 : decode cX10_seed 4 = .ok (.bipush 13, 2) := by decide +kernel
theorem dX10_seed_6 : decode cX10_seed 6 = .ok (.iaload, 1) := by decide +kernel
theorem dX10_seed_7 : decode cX10_seed 7 = .ok (.istore_n 2, 1) := by decide +kernel
theorem dX10_seed_8 : decode cX10_seed 8 = .ok (.aload_n 0, 1) := by decide +kernel
theorem dX10_seed_9 : decode cX10_seed 9 = .ok (.getfield 7, 3) := by decide +kernel
theorem dX10_seed_12 : decode cX10_seed 12 = .ok (.bipush 13, 2) := by decide +kernel
theorem dX10_seed_14 : decode cX10_seed 14 = .ok (.iload_n 1, 1) := by decide +kernel
theorem dX10_seed_15 : decode cX10_seed 15 = .ok (.iastore, 1) := by decide +kernel
theorem dX10_seed_16 : decode cX10_seed 16 = .ok (.iload_n 2, 1) := by decide +kernel
