/-! decode rows, part 1 (of the printed names) -/
theorem dX0_init_0 : decode cX0_init 0 = .ok (.aload_n 0, 1) := by decide +kernel
theorem dX0_init_1 : decode cX0_init 1 = .ok (.invokespecial 3, 3) := by decide +kernel
theorem dX0_init_4 : decode cX0_init 4 = .ok (.return_, 1) := by decide +kernel
theorem dX0_begin_0 : decode cX0_begin 0 = .ok (.aload_n 0, 1) := by decide +kernel
theorem dX0_begin_1 : decode cX0_begin 1 = .ok (.iload_n 1, 1) := by decide +kernel
theorem dX0_begin_2 : decode cX0_begin 2 = .ok (.invokevirtual 9, 3) := by decide +kernel
theorem dX0_begin_5 : decode cX0_begin 5 = .ok (.aload_n 0, 1) := by decide +kernel
theorem dX0_begin_6 : decode cX0_begin 6 = .ok (.iload_n 2, 1) := by decide +kernel
theorem dX0_begin_7 : decode cX0_begin 7 = .ok (.putfield 15, 3) := by decide +kernel
theorem dX0_begin_10 : decode cX0_begin 10 = .ok (.aload_n 0, 1) := by decide +kernel
theorem dX0_begin_11 : decode cX0_begin 11 = .ok (.bipush 20, 2) := by decide +kernel
theorem dX0_begin_13 : decode cX0_begin 13 = .ok (.putfield 19, 3) := by decide +kernel
theorem dX0_begin_16 : decode cX0_begin 16 = .ok (.aload_n 0, 1) := by decide +kernel
theorem dX0_begin_17 : decode cX0_begin 17 = .ok (.iconst 0, 1) := by decide +kernel
theorem dX0_begin_18 : decode cX0_begin 18 = .ok (.putfield 22, 3) := by decide +kernel
theorem dX0_begin_21 : decode cX0_begin 21 = .ok (.aload_n 0, 1) := by decide +kernel
theorem dX0_begin_22 : decode cX0_begin 22 = .ok (.iconst 0, 1) := by decide +kernel
theorem dX0_begin_23 : decode cX0_begin 23 = .ok (.putfield 25, 3) := by decide +kernel
theorem dX0_begin_26 : decode cX0_begin 26 = .ok (.return_, 1) := by decide +kernel
theorem dX0_turnInto_0 : decode cX0_turnInto 0 = .ok (.aload_n 0, 1) := by decide +kernel
theorem dX0_turnInto_1 : decode cX0_turnInto 1 = .ok (.iload_n 1, 1) := by decide +kernel
theorem dX0_turnInto_2 : decode cX0_turnInto 2 = .ok (.bipush 10, 2) := by decide +kernel
theorem dX0_turnInto_4 : decode cX0_turnInto 4 = .ok (.idiv, 1) := by decide +kernel
theorem dX0_turnInto_5 : decode cX0_turnInto 5 = .ok (.putfield 28, 3) := by decide +kernel
theorem dX0_turnInto_8 : decode cX0_turnInto 8 = .ok (.aload_n 0, 1) := by decide +kernel
theorem dX0_turnInto_9 : decode cX0_turnInto 9 = .ok (.iload_n 1, 1) := by decide +kernel
theorem dX0_turnInto_10 : decode cX0_turnInto 10 = .ok (.bipush 10, 2) := by decide +kernel
theorem dX0_turnInto_12 : decode cX0_turnInto 12 = .ok (.irem, 1) := by decide +kernel
theorem dX0_turnInto_13 : decode cX0_turnInto 13 = .ok (.putfield 31, 3) := by decide +kernel
theorem dX0_turnInto_16 : decode cX0_turnInto 16 = .ok (.return_, 1) := by decide +kernel
theorem dX0_copyOf_0 : decode cX0_copyOf 0 = .ok (.aload_n 0, 1) := by decide +kernel
theorem dX0_copyOf_1 : decode cX0_copyOf 1 = .ok (.aload_n 1, 1) := by decide +kernel
theorem dX0_copyOf_2 : decode cX0_copyOf 2 = .ok (.getfield 28, 3) := by decide +kernel
theorem dX0_copyOf_5 : decode cX0_copyOf 5 = .ok (.putfield 28, 3) := by decide +kernel
theorem dX0_copyOf_8 : decode cX0_copyOf 8 = .ok (.aload_n 0, 1) := by decide +kernel
theorem dX0_copyOf_9 : decode cX0_copyOf 9 = .ok (.aload_n 1, 1) := by decide +kernel
theorem dX0_copyOf_10 : decode cX0_copyOf 10 = .ok (.getfield 31, 3) := by decide +kernel
theorem dX0_copyOf_13 : decode cX0_copyOf 13 = .ok (.putfield 31, 3) := by decide +kernel
theorem dX0_copyOf_16 : decode cX0_copyOf 16 = .ok (.aload_n 0, 1) := by decide +kernel
theorem dX0_copyOf_17 : decode cX0_copyOf 17 = .ok (.aload_n 1, 1) := by decide +kernel
theorem dX0_copyOf_18 : decode cX0_copyOf 18 = .ok (.getfield 15, 3) := by decide +kernel
theorem dX0_copyOf_21 : decode cX0_copyOf 21 = .ok (.putfield 15, 3) := by decide +kernel
theorem dX0_copyOf_24 : decode cX0_copyOf 24 = .ok (.aload_n 0, 1) := by decide +kernel
theorem dX0_copyOf_25 : decode cX0_copyOf 25 = .ok (.aload_n 1, 1) := by decide +kernel
theorem dX0_copyOf_26 : decode cX0_copyOf 26 = .ok (.getfield 19, 3) := by decide +kernel
theorem dX0_copyOf_29 : decode cX0_copyOf 29 = .ok (.putfield 19, 3) := by decide +kernel
theorem dX0_copyOf_32 : decode cX0_copyOf 32 = .ok (.aload_n 0, 1) := by decide +kernel
theorem dX0_copyOf_33 : decode cX0_copyOf 33 = .ok (.aload_n 1, 1) := by decide +kernel
theorem dX0_copyOf_34 : decode cX0_copyOf 34 = .ok (.getfield 22, 3) := by decide +kernel
theorem dX0_copyOf_37 : decode cX0_copyOf 37 = .ok (.putfield 22, 3) := by decide +kernel
theorem dX0_copyOf_40 : decode cX0_copyOf 40 = .ok (.aload_n 0, 1) := by decide +kernel
theorem dX0_copyOf_41 : decode cX0_copyOf 41 = .ok (.aload_n 1, 1) := by decide +kernel
theorem dX0_copyOf_42 : decode cX0_copyOf 42 = .ok (.getfield 25, 3) := by decide +kernel
theorem dX0_copyOf_45 : decode cX0_copyOf 45 = .ok (.putfield 25, 3) := by decide +kernel
theorem dX0_copyOf_48 : decode cX0_copyOf 48 = .ok (.return_, 1) := by decide +kernel
theorem dX0_isOf_0 : decode cX0_isOf 0 = .ok (.aload_n 0, 1) := by decide +kernel
theorem dX0_isOf_1 : decode cX0_isOf 1 = .ok (.getfield 28, 3) := by decide +kernel
theorem dX0_isOf_4 : decode cX0_isOf 4 = .ok (.istore_n 2, 1) := by decide +kernel
theorem dX0_isOf_5 : decode cX0_isOf 5 = .ok (.iconst 0, 1) := by decide +kernel
theorem dX0_isOf_6 : decode cX0_isOf 6 = .ok (.istore_n 3, 1) := by decide +kernel
theorem dX0_isOf_7 : decode cX0_isOf 7 = .ok (.iload_n 3, 1) := by decide +kernel
theorem dX0_isOf_8 : decode cX0_isOf 8 = .ok (.bipush 7, 2) := by decide +kernel
theorem dX0_isOf_10 : decode cX0_isOf 10 = .ok (.if_icmp .ge 32, 3) := by decide +kernel
theorem dX0_isOf_13 : decode cX0_isOf 13 = .ok (.iload_n 2, 1) := by decide +kernel
theorem dX0_isOf_14 : decode cX0_isOf 14 = .ok (.iconst 0, 1) := by decide +kernel
theorem dX0_isOf_15 : decode cX0_isOf 15 = .ok (.bipush 6, 2) := by decide +kernel
theorem dX0_isOf_17 : decode cX0_isOf 17 = .ok (.invokestatic 34, 3) := by decide +kernel
theorem dX0_isOf_20 : decode cX0_isOf 20 = .ok (.ifCond .eq 22, 3) := by decide +kernel
theorem dX0_isOf_23 : decode cX0_isOf 23 = .ok (.iload_n 2, 1) := by decide +kernel
theorem dX0_isOf_24 : decode cX0_isOf 24 = .ok (.iload_n 1, 1) := by decide +kernel
theorem dX0_isOf_25 : decode cX0_isOf 25 = .ok (.if_icmp .ne 5, 3) := by decide +kernel
theorem dX0_isOf_28 : decode cX0_isOf 28 = .ok (.iconst 1, 1) := by decide +kernel
theorem dX0_isOf_29 : decode cX0_isOf 29 = .ok (.ireturn, 1) := by decide +kernel
theorem dX0_isOf_30 : decode cX0_isOf 30 = .ok (.getstatic 38, 3) := by decide +kernel
theorem dX0_isOf_33 : decode cX0_isOf 33 = .ok (.iload_n 2, 1) := by decide +kernel
theorem dX0_isOf_34 : decode cX0_isOf 34 = .ok (.iaload, 1) := by decide +kernel
theorem dX0_isOf_35 : decode cX0_isOf 35 = .ok (.istore_n 2, 1) := by decide +kernel
theorem dX0_isOf_36 : decode cX0_isOf 36 = .ok (.iinc 3 1, 3) := by decide +kernel
theorem dX0_isOf_39 : decode cX0_isOf 39 = .ok (.goto (-32), 3) := by decide +kernel
theorem dX0_isOf_42 : decode cX0_isOf 42 = .ok (.iconst 0, 1) := by decide +kernel
theorem dX0_isOf_43 : decode cX0_isOf 43 = .ok (.ireturn, 1) := by decide +kernel
theorem dX0_hark_0 : decode cX0_hark 0 = .ok (.aload_n 0, 1) := by decide +kernel
theorem dX0_hark_1 : decode cX0_hark 1 = .ok (.aload_n 0, 1) := by decide +kernel
theorem dX0_hark_2 : decode cX0_hark 2 = .ok (.iload_n 1, 1) := by decide +kernel
theorem dX0_hark_3 : decode cX0_hark 3 = .ok (.iload_n 2, 1) := by decide +kernel
theorem dX0_hark_4 : decode cX0_hark 4 = .ok (.invokevirtual 42, 3) := by decide +kernel
theorem dX0_hark_7 : decode cX0_hark 7 = .ok (.ifCond .eq 7, 3) := by decide +kernel
theorem dX0_hark_10 : decode cX0_hark 10 = .ok (.iconst 1, 1) := by decide +kernel
theorem dX0_hark_11 : decode cX0_hark 11 = .ok (.goto 4, 3) := by decide +kernel
theorem dX0_hark_14 : decode cX0_hark 14 = .ok (.iconst 0, 1) := by decide +kernel
theorem dX0_hark_15 : decode cX0_hark 15 = .ok (.putfield 25, 3) := by decide +kernel
theorem dX0_hark_18 : decode cX0_hark 18 = .ok (.aload_n 0, 1) := by decide +kernel
theorem dX0_hark_19 : decode cX0_hark 19 = .ok (.aload_n 0, 1) := by decide +kernel
theorem dX0_hark_20 : decode cX0_hark 20 = .ok (.getfield 22, 3) := by decide +kernel
theorem dX0_hark_23 : decode cX0_hark 23 = .ok (.aload_n 0, 1) := by decide +kernel
theorem dX0_hark_24 : decode cX0_hark 24 = .ok (.getfield 25, 3) := by decide +kernel
theorem dX0_hark_27 : decode cX0_hark 27 = .ok (.iadd, 1) := by decide +kernel
theorem dX0_hark_28 : decode cX0_hark 28 = .ok (.sipush 9999, 3) := by decide +kernel
theorem dX0_hark_31 : decode cX0_hark 31 = .ok (.invokestatic 46, 3) := by decide +kernel
theorem dX0_hark_34 : decode cX0_hark 34 = .ok (.putfield 22, 3) := by decide +kernel
theorem dX0_hark_37 : decode cX0_hark 37 = .ok (.return_, 1) := by decide +kernel
theorem dX0_hearsIt_0 : decode cX0_hearsIt 0 = .ok (.iload_n 1, 1) := by decide +kernel
theorem dX0_hearsIt_1 : decode cX0_hearsIt 1 = .ok (.ifCond .ne 5, 3) := by decide +kernel
theorem dX0_hearsIt_4 : decode cX0_hearsIt 4 = .ok (.iconst 0, 1) := by decide +kernel
theorem dX0_hearsIt_5 : decode cX0_hearsIt 5 = .ok (.ireturn, 1) := by decide +kernel
theorem dX0_hearsIt_6 : decode cX0_hearsIt 6 = .ok (.bipush 10, 2) := by decide +kernel
theorem dX0_hearsIt_8 : decode cX0_hearsIt 8 = .ok (.iload_n 1, 1) := by decide +kernel
theorem dX0_hearsIt_9 : decode cX0_hearsIt 9 = .ok (.imul, 1) := by decide +kernel
theorem dX0_hearsIt_10 : decode cX0_hearsIt 10 = .ok (.aload_n 0, 1) := by decide +kernel
theorem dX0_hearsIt_11 : decode cX0_hearsIt 11 = .ok (.getfield 15, 3) := by decide +kernel
theorem dX0_hearsIt_14 : decode cX0_hearsIt 14 = .ok (.isub, 1) := by decide +kernel
theorem dX0_hearsIt_15 : decode cX0_hearsIt 15 = .ok (.istore_n 3, 1) := by decide +kernel
theorem dX0_hearsIt_16 : decode cX0_hearsIt 16 = .ok (.aload_n 0, 1) := by decide +kernel
theorem dX0_hearsIt_17 : decode cX0_hearsIt 17 = .ok (.getfield 28, 3) := by decide +kernel
theorem dX0_hearsIt_20 : decode cX0_hearsIt 20 = .ok (.tableswitch 124 1 6 #[40, 54, 66, 83, 105, 122], 40) := by decide +kernel
theorem dX0_hearsIt_60 : decode cX0_hearsIt 60 = .ok (.iload_n 3, 1) := by decide +kernel
theorem dX0_hearsIt_61 : decode cX0_hearsIt 61 = .ok (.aload_n 0, 1) := by decide +kernel
theorem dX0_hearsIt_62 : decode cX0_hearsIt 62 = .ok (.getfield 31, 3) := by decide +kernel
theorem dX0_hearsIt_65 : decode cX0_hearsIt 65 = .ok (.if_icmp .le 7, 3) := by decide +kernel
theorem dX0_hearsIt_68 : decode cX0_hearsIt 68 = .ok (.iconst 1, 1) := by decide +kernel
theorem dX0_hearsIt_69 : decode cX0_hearsIt 69 = .ok (.goto 4, 3) := by decide +kernel
theorem dX0_hearsIt_72 : decode cX0_hearsIt 72 = .ok (.iconst 0, 1) := by decide +kernel
theorem dX0_hearsIt_73 : decode cX0_hearsIt 73 = .ok (.ireturn, 1) := by decide +kernel
theorem dX0_hearsIt_74 : decode cX0_hearsIt 74 = .ok (.iload_n 3, 1) := by decide +kernel
theorem dX0_hearsIt_75 : decode cX0_hearsIt 75 = .ok (.bipush 50, 2) := by decide +kernel
theorem dX0_hearsIt_77 : decode cX0_hearsIt 77 = .ok (.if_icmp .lt 7, 3) := by decide +kernel
theorem dX0_hearsIt_80 : decode cX0_hearsIt 80 = .ok (.iconst 1, 1) := by decide +kernel
theorem dX0_hearsIt_81 : decode cX0_hearsIt 81 = .ok (.goto 4, 3) := by decide +kernel
theorem dX0_hearsIt_84 : decode cX0_hearsIt 84 = .ok (.iconst 0, 1) := by decide +kernel
theorem dX0_hearsIt_85 : decode cX0_hearsIt 85 = .ok (.ireturn, 1) := by decide +kernel
theorem dX0_hearsIt_86 : decode cX0_hearsIt 86 = .ok (.iload_n 3, 1) := by decide +kernel
theorem dX0_hearsIt_87 : decode cX0_hearsIt 87 = .ok (.ifCond .le 14, 3) := by decide +kernel
theorem dX0_hearsIt_90 : decode cX0_hearsIt 90 = .ok (.iload_n 2, 1) := by decide +kernel
theorem dX0_hearsIt_91 : decode cX0_hearsIt 91 = .ok (.iconst 2, 1) := by decide +kernel
theorem dX0_hearsIt_92 : decode cX0_hearsIt 92 = .ok (.irem, 1) := by decide +kernel
theorem dX0_hearsIt_93 : decode cX0_hearsIt 93 = .ok (.iconst 1, 1) := by decide +kernel
theorem dX0_hearsIt_94 : decode cX0_hearsIt 94 = .ok (.if_icmp .ne 7, 3) := by decide +kernel
theorem dX0_hearsIt_97 : decode cX0_hearsIt 97 = .ok (.iconst 1, 1) := by decide +kernel
theorem dX0_hearsIt_98 : decode cX0_hearsIt 98 = .ok (.goto 4, 3) := by decide +kernel
theorem dX0_hearsIt_101 : decode cX0_hearsIt 101 = .ok (.iconst 0, 1) := by decide +kernel
theorem dX0_hearsIt_102 : decode cX0_hearsIt 102 = .ok (.ireturn, 1) := by decide +kernel
theorem dX0_hearsIt_103 : decode cX0_hearsIt 103 = .ok (.iload_n 3, 1) := by decide +kernel
theorem dX0_hearsIt_104 : decode cX0_hearsIt 104 = .ok (.aload_n 0, 1) := by decide +kernel
theorem dX0_hearsIt_105 : decode cX0_hearsIt 105 = .ok (.getfield 31, 3) := by decide +kernel
theorem dX0_hearsIt_108 : decode cX0_hearsIt 108 = .ok (.if_icmp .gt 11, 3) := by decide +kernel
theorem dX0_hearsIt_111 : decode cX0_hearsIt 111 = .ok (.iload_n 2, 1) := by decide +kernel
theorem dX0_hearsIt_112 : decode cX0_hearsIt 112 = .ok (.aload_n 0, 1) := by decide +kernel
theorem dX0_hearsIt_113 : decode cX0_hearsIt 113 = .ok (.getfield 31, 3) := by decide +kernel
theorem dX0_hearsIt_116 : decode cX0_hearsIt 116 = .ok (.if_icmp .ne 7, 3) := by decide +kernel
theorem dX0_hearsIt_119 : decode cX0_hearsIt 119 = .ok (.iconst 1, 1) := by decide +kernel
theorem dX0_hearsIt_120 : decode cX0_hearsIt 120 = .ok (.goto 4, 3) := by decide +kernel
theorem dX0_hearsIt_123 : decode cX0_hearsIt 123 = .ok (.iconst 0, 1) := by decide +kernel
theorem dX0_hearsIt_124 : decode cX0_hearsIt 124 = .ok (.ireturn, 1) := by decide +kernel
theorem dX0_hearsIt_125 : decode cX0_hearsIt 125 = .ok (.iload_n 1, 1) := by decide +kernel
theorem dX0_hearsIt_126 : decode cX0_hearsIt 126 = .ok (.bipush 9, 2) := by decide +kernel
theorem dX0_hearsIt_128 : decode cX0_hearsIt 128 = .ok (.aload_n 0, 1) := by decide +kernel
theorem dX0_hearsIt_129 : decode cX0_hearsIt 129 = .ok (.getfield 31, 3) := by decide +kernel
theorem dX0_hearsIt_132 : decode cX0_hearsIt 132 = .ok (.iadd, 1) := by decide +kernel
theorem dX0_hearsIt_133 : decode cX0_hearsIt 133 = .ok (.if_icmp .lt 7, 3) := by decide +kernel
theorem dX0_hearsIt_136 : decode cX0_hearsIt 136 = .ok (.iconst 1, 1) := by decide +kernel
theorem dX0_hearsIt_137 : decode cX0_hearsIt 137 = .ok (.goto 4, 3) := by decide +kernel
theorem dX0_hearsIt_140 : decode cX0_hearsIt 140 = .ok (.iconst 0, 1) := by decide +kernel
theorem dX0_hearsIt_141 : decode cX0_hearsIt 141 = .ok (.ireturn, 1) := by decide +kernel
theorem dX0_hearsIt_142 : decode cX0_hearsIt 142 = .ok (.iconst 1, 1) := by decide +kernel
theorem dX0_hearsIt_143 : decode cX0_hearsIt 143 = .ok (.ireturn, 1) := by decide +kernel
theorem dX0_hearsIt_144 : decode cX0_hearsIt 144 = .ok (.iload_n 3, 1) := by decide +kernel
theorem dX0_hearsIt_145 : decode cX0_hearsIt 145 = .ok (.ifCond .le 7, 3) := by decide +kernel
theorem dX0_hearsIt_148 : decode cX0_hearsIt 148 = .ok (.iconst 1, 1) := by decide +kernel
theorem dX0_hearsIt_149 : decode cX0_hearsIt 149 = .ok (.goto 4, 3) := by decide +kernel
theorem dX0_hearsIt_152 : decode cX0_hearsIt 152 = .ok (.iconst 0, 1) := by decide +kernel
theorem dX0_hearsIt_153 : decode cX0_hearsIt 153 = .ok (.ireturn, 1) := by decide +kernel
theorem dX0_bidAt_0 : decode cX0_bidAt 0 = .ok (.iload_n 2, 1) := by decide +kernel
theorem dX0_bidAt_1 : decode cX0_bidAt 1 = .ok (.ifCond .ne 7, 3) := by decide +kernel
theorem dX0_bidAt_4 : decode cX0_bidAt 4 = .ok (.iconst 0, 1) := by decide +kernel
theorem dX0_bidAt_5 : decode cX0_bidAt 5 = .ok (.goto 9, 3) := by decide +kernel
theorem dX0_bidAt_8 : decode cX0_bidAt 8 = .ok (.bipush 10, 2) := by decide +kernel
theorem dX0_bidAt_10 : decode cX0_bidAt 10 = .ok (.iload_n 1, 1) := by decide +kernel
theorem dX0_bidAt_11 : decode cX0_bidAt 11 = .ok (.imul, 1) := by decide +kernel
theorem dX0_bidAt_12 : decode cX0_bidAt 12 = .ok (.iload_n 2, 1) := by decide +kernel
theorem dX0_bidAt_13 : decode cX0_bidAt 13 = .ok (.idiv, 1) := by decide +kernel
theorem dX0_bidAt_14 : decode cX0_bidAt 14 = .ok (.istore_n 3, 1) := by decide +kernel
theorem dX0_bidAt_15 : decode cX0_bidAt 15 = .ok (.aload_n 0, 1) := by decide +kernel
theorem dX0_bidAt_16 : decode cX0_bidAt 16 = .ok (.iload_n 3, 1) := by decide +kernel
theorem dX0_bidAt_17 : decode cX0_bidAt 17 = .ok (.invokevirtual 52, 3) := by decide +kernel
theorem dX0_bidAt_20 : decode cX0_bidAt 20 = .ok (.iconst 0, 1) := by decide +kernel
theorem dX0_bidAt_21 : decode cX0_bidAt 21 = .ok (.aload_n 0, 1) := by decide +kernel
theorem dX0_bidAt_22 : decode cX0_bidAt 22 = .ok (.getfield 19, 3) := by decide +kernel
theorem dX0_bidAt_25 : decode cX0_bidAt 25 = .ok (.invokestatic 56, 3) := by decide +kernel
theorem dX0_bidAt_28 : decode cX0_bidAt 28 = .ok (.ireturn, 1) := by decide +kernel
theorem dX0_wish_0 : decode cX0_wish 0 = .ok (.aload_n 0, 1) := by decide +kernel
theorem dX0_wish_1 : decode cX0_wish 1 = .ok (.getfield 28, 3) := by decide +kernel
theorem dX0_wish_4 : decode cX0_wish 4 = .ok (.tableswitch 73 1 6 #[40, 47, 49, 53, 62, 64], 40) := by decide +kernel
theorem dX0_wish_44 : decode cX0_wish 44 = .ok (.iload_n 1, 1) := by decide +kernel
theorem dX0_wish_45 : decode cX0_wish 45 = .ok (.aload_n 0, 1) := by decide +kernel
theorem dX0_wish_46 : decode cX0_wish 46 = .ok (.getfield 31, 3) := by decide +kernel
theorem dX0_wish_49 : decode cX0_wish 49 = .ok (.iadd, 1) := by decide +kernel
theorem dX0_wish_50 : decode cX0_wish 50 = .ok (.ireturn, 1) := by decide +kernel
theorem dX0_wish_51 : decode cX0_wish 51 = .ok (.iconst 0, 1) := by decide +kernel
theorem dX0_wish_52 : decode cX0_wish 52 = .ok (.ireturn, 1) := by decide +kernel
theorem dX0_wish_53 : decode cX0_wish 53 = .ok (.iload_n 1, 1) := by decide +kernel
theorem dX0_wish_54 : decode cX0_wish 54 = .ok (.iconst 2, 1) := by decide +kernel
theorem dX0_wish_55 : decode cX0_wish 55 = .ok (.idiv, 1) := by decide +kernel
theorem dX0_wish_56 : decode cX0_wish 56 = .ok (.ireturn, 1) := by decide +kernel
theorem dX0_wish_57 : decode cX0_wish 57 = .ok (.iconst 2, 1) := by decide +kernel
theorem dX0_wish_58 : decode cX0_wish 58 = .ok (.iload_n 1, 1) := by decide +kernel
theorem dX0_wish_59 : decode cX0_wish 59 = .ok (.aload_n 0, 1) := by decide +kernel
theorem dX0_wish_60 : decode cX0_wish 60 = .ok (.getfield 31, 3) := by decide +kernel
theorem dX0_wish_63 : decode cX0_wish 63 = .ok (.iadd, 1) := by decide +kernel
theorem dX0_wish_64 : decode cX0_wish 64 = .ok (.imul, 1) := by decide +kernel
theorem dX0_wish_65 : decode cX0_wish 65 = .ok (.ireturn, 1) := by decide +kernel
theorem dX0_wish_66 : decode cX0_wish 66 = .ok (.iconst 1, 1) := by decide +kernel
theorem dX0_wish_67 : decode cX0_wish 67 = .ok (.ireturn, 1) := by decide +kernel
theorem dX0_wish_68 : decode cX0_wish 68 = .ok (.iload_n 1, 1) := by decide +kernel
theorem dX0_wish_69 : decode cX0_wish 69 = .ok (.iconst 2, 1) := by decide +kernel
theorem dX0_wish_70 : decode cX0_wish 70 = .ok (.idiv, 1) := by decide +kernel
theorem dX0_wish_71 : decode cX0_wish 71 = .ok (.aload_n 0, 1) := by decide +kernel
theorem dX0_wish_72 : decode cX0_wish 72 = .ok (.getfield 31, 3) := by decide +kernel
theorem dX0_wish_75 : decode cX0_wish 75 = .ok (.iadd, 1) := by decide +kernel
theorem dX0_wish_76 : decode cX0_wish 76 = .ok (.ireturn, 1) := by decide +kernel
theorem dX0_wish_77 : decode cX0_wish 77 = .ok (.iload_n 1, 1) := by decide +kernel
theorem dX0_wish_78 : decode cX0_wish 78 = .ok (.ireturn, 1) := by decide +kernel
theorem dX1_init_0 : decode cX1_init 0 = .ok (.aload_n 0, 1) := by decide +kernel
theorem dX1_init_1 : decode cX1_init 1 = .ok (.invokespecial 3, 3) := by decide +kernel
theorem dX1_init_4 : decode cX1_init 4 = .ok (.aload_n 0, 1) := by decide +kernel
theorem dX1_init_5 : decode cX1_init 5 = .ok (.bipush 50, 2) := by decide +kernel
theorem dX1_init_7 : decode cX1_init 7 = .ok (.newarray .int, 2) := by decide +kernel
theorem dX1_init_9 : decode cX1_init 9 = .ok (.putfield 9, 3) := by decide +kernel
theorem dX1_init_12 : decode cX1_init 12 = .ok (.aload_n 0, 1) := by decide +kernel
theorem dX1_init_13 : decode cX1_init 13 = .ok (.bipush 50, 2) := by decide +kernel
theorem dX1_init_15 : decode cX1_init 15 = .ok (.newarray .int, 2) := by decide +kernel
theorem dX1_init_17 : decode cX1_init 17 = .ok (.putfield 15, 3) := by decide +kernel
theorem dX1_init_20 : decode cX1_init 20 = .ok (.return_, 1) := by decide +kernel
theorem dX1_copyOf_0 : decode cX1_copyOf 0 = .ok (.aload_n 1, 1) := by decide +kernel
theorem dX1_copyOf_1 : decode cX1_copyOf 1 = .ok (.getfield 9, 3) := by decide +kernel
theorem dX1_copyOf_4 : decode cX1_copyOf 4 = .ok (.iconst 0, 1) := by decide +kernel
theorem dX1_copyOf_5 : decode cX1_copyOf 5 = .ok (.aload_n 0, 1) := by decide +kernel
theorem dX1_copyOf_6 : decode cX1_copyOf 6 = .ok (.getfield 9, 3) := by decide +kernel
theorem dX1_copyOf_9 : decode cX1_copyOf 9 = .ok (.iconst 0, 1) := by decide +kernel
theorem dX1_copyOf_10 : decode cX1_copyOf 10 = .ok (.bipush 50, 2) := by decide +kernel
theorem dX1_copyOf_12 : decode cX1_copyOf 12 = .ok (.invokestatic 18, 3) := by decide +kernel
theorem dX1_copyOf_15 : decode cX1_copyOf 15 = .ok (.aload_n 0, 1) := by decide +kernel
theorem dX1_copyOf_16 : decode cX1_copyOf 16 = .ok (.aload_n 1, 1) := by decide +kernel
theorem dX1_copyOf_17 : decode cX1_copyOf 17 = .ok (.getfield 24, 3) := by decide +kernel
theorem dX1_copyOf_20 : decode cX1_copyOf 20 = .ok (.putfield 24, 3) := by decide +kernel
theorem dX1_copyOf_23 : decode cX1_copyOf 23 = .ok (.return_, 1) := by decide +kernel
theorem dX1_isText_0 : decode cX1_isText 0 = .ok (.aload_n 0, 1) := by decide +kernel
theorem dX1_isText_1 : decode cX1_isText 1 = .ok (.getfield 24, 3) := by decide +kernel
theorem dX1_isText_4 : decode cX1_isText 4 = .ok (.ifCond .le 7, 3) := by decide +kernel
theorem dX1_isText_7 : decode cX1_isText 7 = .ok (.iconst 1, 1) := by decide +kernel
theorem dX1_isText_8 : decode cX1_isText 8 = .ok (.goto 4, 3) := by decide +kernel
theorem dX1_isText_11 : decode cX1_isText 11 = .ok (.iconst 0, 1) := by decide +kernel
theorem dX1_isText_12 : decode cX1_isText 12 = .ok (.ireturn, 1) := by decide +kernel
theorem dX1_clear_0 : decode cX1_clear 0 = .ok (.aload_n 0, 1) := by decide +kernel
theorem dX1_clear_1 : decode cX1_clear 1 = .ok (.iconst 0, 1) := by decide +kernel
theorem dX1_clear_2 : decode cX1_clear 2 = .ok (.putfield 24, 3) := by decide +kernel
theorem dX1_clear_5 : decode cX1_clear 5 = .ok (.return_, 1) := by decide +kernel
theorem dX1_add_0 : decode cX1_add 0 = .ok (.aload_n 0, 1) := by decide +kernel
theorem dX1_add_1 : decode cX1_add 1 = .ok (.getfield 24, 3) := by decide +kernel
theorem dX1_add_4 : decode cX1_add 4 = .ok (.bipush 50, 2) := by decide +kernel
theorem dX1_add_6 : decode cX1_add 6 = .ok (.if_icmp .ge 23, 3) := by decide +kernel
theorem dX1_add_9 : decode cX1_add 9 = .ok (.aload_n 0, 1) := by decide +kernel
theorem dX1_add_10 : decode cX1_add 10 = .ok (.getfield 9, 3) := by decide +kernel
theorem dX1_add_13 : decode cX1_add 13 = .ok (.aload_n 0, 1) := by decide +kernel
theorem dX1_add_14 : decode cX1_add 14 = .ok (.getfield 24, 3) := by decide +kernel
theorem dX1_add_17 : decode cX1_add 17 = .ok (.iload_n 1, 1) := by decide +kernel
theorem dX1_add_18 : decode cX1_add 18 = .ok (.iastore, 1) := by decide +kernel
theorem dX1_add_19 : decode cX1_add 19 = .ok (.aload_n 0, 1) := by decide +kernel
theorem dX1_add_20 : decode cX1_add 20 = .ok (.dup, 1) := by decide +kernel
theorem dX1_add_21 : decode cX1_add 21 = .ok (.getfield 24, 3) := by decide +kernel
theorem dX1_add_24 : decode cX1_add 24 = .ok (.iconst 1, 1) := by decide +kernel
theorem dX1_add_25 : decode cX1_add 25 = .ok (.iadd, 1) := by decide +kernel
theorem dX1_add_26 : decode cX1_add 26 = .ok (.putfield 24, 3) := by decide +kernel
theorem dX1_add_29 : decode cX1_add 29 = .ok (.return_, 1) := by decide +kernel
theorem dX1_worth_0 : decode cX1_worth 0 = .ok (.iconst (-1), 1) := by decide +kernel
theorem dX1_worth_1 : decode cX1_worth 1 = .ok (.istore 4, 2) := by decide +kernel
theorem dX1_worth_3 : decode cX1_worth 3 = .ok (.iconst 0, 1) := by decide +kernel
theorem dX1_worth_4 : decode cX1_worth 4 = .ok (.istore 5, 2) := by decide +kernel
theorem dX1_worth_6 : decode cX1_worth 6 = .ok (.iload 5, 2) := by decide +kernel
theorem dX1_worth_8 : decode cX1_worth 8 = .ok (.aload_n 0, 1) := by decide +kernel
theorem dX1_worth_9 : decode cX1_worth 9 = .ok (.getfield 24, 3) := by decide +kernel
theorem dX1_worth_12 : decode cX1_worth 12 = .ok (.if_icmp .ge 159, 3) := by decide +kernel
theorem dX1_worth_15 : decode cX1_worth 15 = .ok (.iload 5, 2) := by decide +kernel
theorem dX1_worth_17 : decode cX1_worth 17 = .ok (.bipush 50, 2) := by decide +kernel
theorem dX1_worth_19 : decode cX1_worth 19 = .ok (.if_icmp .ge 152, 3) := by decide +kernel
theorem dX1_worth_22 : decode cX1_worth 22 = .ok (.aload_n 0, 1) := by decide +kernel
theorem dX1_worth_23 : decode cX1_worth 23 = .ok (.getfield 9, 3) := by decide +kernel
theorem dX1_worth_26 : decode cX1_worth 26 = .ok (.iload 5, 2) := by decide +kernel
theorem dX1_worth_28 : decode cX1_worth 28 = .ok (.iaload, 1) := by decide +kernel
theorem dX1_worth_29 : decode cX1_worth 29 = .ok (.istore 6, 2) := by decide +kernel
theorem dX1_worth_31 : decode cX1_worth 31 = .ok (.iload 6, 2) := by decide +kernel
theorem dX1_worth_33 : decode cX1_worth 33 = .ok (.bipush (-3), 2) := by decide +kernel
theorem dX1_worth_35 : decode cX1_worth 35 = .ok (.if_icmp .lt 55, 3) := by decide +kernel
theorem dX1_worth_38 : decode cX1_worth 38 = .ok (.iload 4, 2) := by decide +kernel
theorem dX1_worth_40 : decode cX1_worth 40 = .ok (.bipush 49, 2) := by decide +kernel
theorem dX1_worth_42 : decode cX1_worth 42 = .ok (.if_icmp .ge 123, 3) := by decide +kernel
theorem dX1_worth_45 : decode cX1_worth 45 = .ok (.iinc 4 1, 3) := by decide +kernel
theorem dX1_worth_48 : decode cX1_worth 48 = .ok (.aload_n 0, 1) := by decide +kernel
theorem dX1_worth_49 : decode cX1_worth 49 = .ok (.getfield 15, 3) := by decide +kernel
theorem dX1_worth_52 : decode cX1_worth 52 = .ok (.iload 4, 2) := by decide +kernel
theorem dX1_worth_54 : decode cX1_worth 54 = .ok (.iload 6, 2) := by decide +kernel
theorem dX1_worth_56 : decode cX1_worth 56 = .ok (.ifCond .lt 8, 3) := by decide +kernel
theorem dX1_worth_59 : decode cX1_worth 59 = .ok (.iload 6, 2) := by decide +kernel
theorem dX1_worth_61 : decode cX1_worth 61 = .ok (.goto 25, 3) := by decide +kernel
theorem dX1_worth_64 : decode cX1_worth 64 = .ok (.iload 6, 2) := by decide +kernel
theorem dX1_worth_66 : decode cX1_worth 66 = .ok (.iconst (-1), 1) := by decide +kernel
theorem dX1_worth_67 : decode cX1_worth 67 = .ok (.if_icmp .ne 7, 3) := by decide +kernel
theorem dX1_worth_70 : decode cX1_worth 70 = .ok (.iload_n 1, 1) := by decide +kernel
theorem dX1_worth_71 : decode cX1_worth 71 = .ok (.goto 15, 3) := by decide +kernel
theorem dX1_worth_74 : decode cX1_worth 74 = .ok (.iload 6, 2) := by decide +kernel
theorem dX1_worth_76 : decode cX1_worth 76 = .ok (.bipush (-2), 2) := by decide +kernel
theorem dX1_worth_78 : decode cX1_worth 78 = .ok (.if_icmp .ne 7, 3) := by decide +kernel
theorem dX1_worth_81 : decode cX1_worth 81 = .ok (.iload_n 2, 1) := by decide +kernel
theorem dX1_worth_82 : decode cX1_worth 82 = .ok (.goto 4, 3) := by decide +kernel
theorem dX1_worth_85 : decode cX1_worth 85 = .ok (.iload_n 3, 1) := by decide +kernel
theorem dX1_worth_86 : decode cX1_worth 86 = .ok (.iastore, 1) := by decide +kernel
theorem dX1_worth_87 : decode cX1_worth 87 = .ok (.goto 78, 3) := by decide +kernel
theorem dX1_worth_90 : decode cX1_worth 90 = .ok (.iload 6, 2) := by decide +kernel
theorem dX1_worth_92 : decode cX1_worth 92 = .ok (.bipush (-33), 2) := by decide +kernel
theorem dX1_worth_94 : decode cX1_worth 94 = .ok (.if_icmp .ne 33, 3) := by decide +kernel
theorem dX1_worth_97 : decode cX1_worth 97 = .ok (.iload 4, 2) := by decide +kernel
theorem dX1_worth_99 : decode cX1_worth 99 = .ok (.ifCond .lt 66, 3) := by decide +kernel
theorem dX1_worth_102 : decode cX1_worth 102 = .ok (.aload_n 0, 1) := by decide +kernel
theorem dX1_worth_103 : decode cX1_worth 103 = .ok (.getfield 15, 3) := by decide +kernel
theorem dX1_worth_106 : decode cX1_worth 106 = .ok (.iload 4, 2) := by decide +kernel
theorem dX1_worth_108 : decode cX1_worth 108 = .ok (.aload_n 0, 1) := by decide +kernel
theorem dX1_worth_109 : decode cX1_worth 109 = .ok (.getfield 15, 3) := by decide +kernel
theorem dX1_worth_112 : decode cX1_worth 112 = .ok (.iload 4, 2) := by decide +kernel
theorem dX1_worth_114 : decode cX1_worth 114 = .ok (.iaload, 1) := by decide +kernel
theorem dX1_worth_115 : decode cX1_worth 115 = .ok (.ifCond .ne 7, 3) := by decide +kernel
theorem dX1_worth_118 : decode cX1_worth 118 = .ok (.iconst 1, 1) := by decide +kernel
theorem dX1_worth_119 : decode cX1_worth 119 = .ok (.goto 4, 3) := by decide +kernel
theorem dX1_worth_122 : decode cX1_worth 122 = .ok (.iconst 0, 1) := by decide +kernel
theorem dX1_worth_123 : decode cX1_worth 123 = .ok (.iastore, 1) := by decide +kernel
theorem dX1_worth_124 : decode cX1_worth 124 = .ok (.goto 41, 3) := by decide +kernel
theorem dX1_worth_127 : decode cX1_worth 127 = .ok (.iload 4, 2) := by decide +kernel
theorem dX1_worth_129 : decode cX1_worth 129 = .ok (.iconst 1, 1) := by decide +kernel
theorem dX1_worth_130 : decode cX1_worth 130 = .ok (.if_icmp .lt 35, 3) := by decide +kernel
theorem dX1_worth_133 : decode cX1_worth 133 = .ok (.iinc 4 (-1), 3) := by decide +kernel
theorem dX1_worth_136 : decode cX1_worth 136 = .ok (.aload_n 0, 1) := by decide +kernel
theorem dX1_worth_137 : decode cX1_worth 137 = .ok (.getfield 15, 3) := by decide +kernel
theorem dX1_worth_140 : decode cX1_worth 140 = .ok (.iload 4, 2) := by decide +kernel
theorem dX1_worth_142 : decode cX1_worth 142 = .ok (.iload 6, 2) := by decide +kernel
theorem dX1_worth_144 : decode cX1_worth 144 = .ok (.ineg, 1) := by decide +kernel
theorem dX1_worth_145 : decode cX1_worth 145 = .ok (.aload_n 0, 1) := by decide +kernel
theorem dX1_worth_146 : decode cX1_worth 146 = .ok (.getfield 15, 3) := by decide +kernel
theorem dX1_worth_149 : decode cX1_worth 149 = .ok (.iload 4, 2) := by decide +kernel
theorem dX1_worth_151 : decode cX1_worth 151 = .ok (.iaload, 1) := by decide +kernel
theorem dX1_worth_152 : decode cX1_worth 152 = .ok (.aload_n 0, 1) := by decide +kernel
theorem dX1_worth_153 : decode cX1_worth 153 = .ok (.getfield 15, 3) := by decide +kernel
theorem dX1_worth_156 : decode cX1_worth 156 = .ok (.iload 4, 2) := by decide +kernel
theorem dX1_worth_158 : decode cX1_worth 158 = .ok (.iconst 1, 1) := by decide +kernel
theorem dX1_worth_159 : decode cX1_worth 159 = .ok (.iadd, 1) := by decide +kernel
theorem dX1_worth_160 : decode cX1_worth 160 = .ok (.iaload, 1) := by decide +kernel
theorem dX1_worth_161 : decode cX1_worth 161 = .ok (.invokestatic 28, 3) := by decide +kernel
theorem dX1_worth_164 : decode cX1_worth 164 = .ok (.iastore, 1) := by decide +kernel
theorem dX1_worth_165 : decode cX1_worth 165 = .ok (.iinc 5 1, 3) := by decide +kernel
theorem dX1_worth_168 : decode cX1_worth 168 = .ok (.goto (-162), 3) := by decide +kernel
theorem dX1_worth_171 : decode cX1_worth 171 = .ok (.iload 4, 2) := by decide +kernel
theorem dX1_worth_173 : decode cX1_worth 173 = .ok (.ifCond .lt 12, 3) := by decide +kernel
theorem dX1_worth_176 : decode cX1_worth 176 = .ok (.aload_n 0, 1) := by decide +kernel
theorem dX1_worth_177 : decode cX1_worth 177 = .ok (.getfield 15, 3) := by decide +kernel
theorem dX1_worth_180 : decode cX1_worth 180 = .ok (.iconst 0, 1) := by decide +kernel
theorem dX1_worth_181 : decode cX1_worth 181 = .ok (.iaload, 1) := by decide +kernel
theorem dX1_worth_182 : decode cX1_worth 182 = .ok (.goto 4, 3) := by decide +kernel
theorem dX1_worth_185 : decode cX1_worth 185 = .ok (.iconst 0, 1) := by decide +kernel
theorem dX1_worth_186 : decode cX1_worth 186 = .ok (.ireturn, 1) := by decide +kernel
theorem dX1_joined_0 : decode cX1_joined 0 = .ok (.iload_n 0, 1) := by decide +kernel
theorem dX1_joined_1 : decode cX1_joined 1 = .ok (.tableswitch 202 37 62 #[143, 188, 202, 202, 202, 127, 119, 202, 123, 202, 131, 202, 202, 202, 202, 202, 202, 202, 202, 202, 202, 202, 202, 155, 166, 177], 119) := by decide +kernel
theorem dX1_joined_120 : decode cX1_joined 120 = .ok (.iload_n 1, 1) := by decide +kernel
theorem dX1_joined_121 : decode cX1_joined 121 = .ok (.iload_n 2, 1) := by decide +kernel
theorem dX1_joined_122 : decode cX1_joined 122 = .ok (.iadd, 1) := by decide +kernel
theorem dX1_joined_123 : decode cX1_joined 123 = .ok (.ireturn, 1) := by decide +kernel
theorem dX1_joined_124 : decode cX1_joined 124 = .ok (.iload_n 1, 1) := by decide +kernel
theorem dX1_joined_125 : decode cX1_joined 125 = .ok (.iload_n 2, 1) := by decide +kernel
theorem dX1_joined_126 : decode cX1_joined 126 = .ok (.isub, 1) := by decide +kernel
theorem dX1_joined_127 : decode cX1_joined 127 = .ok (.ireturn, 1) := by decide +kernel
theorem dX1_joined_128 : decode cX1_joined 128 = .ok (.iload_n 1, 1) := by decide +kernel
theorem dX1_joined_129 : decode cX1_joined 129 = .ok (.iload_n 2, 1) := by decide +kernel
theorem dX1_joined_130 : decode cX1_joined 130 = .ok (.imul, 1) := by decide +kernel
theorem dX1_joined_131 : decode cX1_joined 131 = .ok (.ireturn, 1) := by decide +kernel
theorem dX1_joined_132 : decode cX1_joined 132 = .ok (.iload_n 2, 1) := by decide +kernel
theorem dX1_joined_133 : decode cX1_joined 133 = .ok (.ifCond .ne 7, 3) := by decide +kernel
theorem dX1_joined_136 : decode cX1_joined 136 = .ok (.iconst 0, 1) := by decide +kernel
theorem dX1_joined_137 : decode cX1_joined 137 = .ok (.goto 6, 3) := by decide +kernel
theorem dX1_joined_140 : decode cX1_joined 140 = .ok (.iload_n 1, 1) := by decide +kernel
theorem dX1_joined_141 : decode cX1_joined 141 = .ok (.iload_n 2, 1) := by decide +kernel
theorem dX1_joined_142 : decode cX1_joined 142 = .ok (.idiv, 1) := by decide +kernel
theorem dX1_joined_143 : decode cX1_joined 143 = .ok (.ireturn, 1) := by decide +kernel
theorem dX1_joined_144 : decode cX1_joined 144 = .ok (.iload_n 2, 1) := by decide +kernel
theorem dX1_joined_145 : decode cX1_joined 145 = .ok (.ifCond .ne 7, 3) := by decide +kernel
theorem dX1_joined_148 : decode cX1_joined 148 = .ok (.iconst 0, 1) := by decide +kernel
theorem dX1_joined_149 : decode cX1_joined 149 = .ok (.goto 6, 3) := by decide +kernel
theorem dX1_joined_152 : decode cX1_joined 152 = .ok (.iload_n 1, 1) := by decide +kernel
theorem dX1_joined_153 : decode cX1_joined 153 = .ok (.iload_n 2, 1) := by decide +kernel
theorem dX1_joined_154 : decode cX1_joined 154 = .ok (.irem, 1) := by decide +kernel
theorem dX1_joined_155 : decode cX1_joined 155 = .ok (.ireturn, 1) := by decide +kernel
theorem dX1_joined_156 : decode cX1_joined 156 = .ok (.iload_n 1, 1) := by decide +kernel
theorem dX1_joined_157 : decode cX1_joined 157 = .ok (.iload_n 2, 1) := by decide +kernel
theorem dX1_joined_158 : decode cX1_joined 158 = .ok (.if_icmp .ge 7, 3) := by decide +kernel
theorem dX1_joined_161 : decode cX1_joined 161 = .ok (.iconst 1, 1) := by decide +kernel
theorem dX1_joined_162 : decode cX1_joined 162 = .ok (.goto 4, 3) := by decide +kernel
theorem dX1_joined_165 : decode cX1_joined 165 = .ok (.iconst 0, 1) := by decide +kernel
theorem dX1_joined_166 : decode cX1_joined 166 = .ok (.ireturn, 1) := by decide +kernel
theorem dX1_joined_167 : decode cX1_joined 167 = .ok (.iload_n 1, 1) := by decide +kernel
theorem dX1_joined_168 : decode cX1_joined 168 = .ok (.iload_n 2, 1) := by decide +kernel
theorem dX1_joined_169 : decode cX1_joined 169 = .ok (.if_icmp .ne 7, 3) := by decide +kernel
theorem dX1_joined_172 : decode cX1_joined 172 = .ok (.iconst 1, 1) := by decide +kernel
theorem dX1_joined_173 : decode cX1_joined 173 = .ok (.goto 4, 3) := by decide +kernel
theorem dX1_joined_176 : decode cX1_joined 176 = .ok (.iconst 0, 1) := by decide +kernel
theorem dX1_joined_177 : decode cX1_joined 177 = .ok (.ireturn, 1) := by decide +kernel
theorem dX1_joined_178 : decode cX1_joined 178 = .ok (.iload_n 1, 1) := by decide +kernel
theorem dX1_joined_179 : decode cX1_joined 179 = .ok (.iload_n 2, 1) := by decide +kernel
theorem dX1_joined_180 : decode cX1_joined 180 = .ok (.if_icmp .le 7, 3) := by decide +kernel
theorem dX1_joined_183 : decode cX1_joined 183 = .ok (.iconst 1, 1) := by decide +kernel
theorem dX1_joined_184 : decode cX1_joined 184 = .ok (.goto 4, 3) := by decide +kernel
theorem dX1_joined_187 : decode cX1_joined 187 = .ok (.iconst 0, 1) := by decide +kernel
theorem dX1_joined_188 : decode cX1_joined 188 = .ok (.ireturn, 1) := by decide +kernel
theorem dX1_joined_189 : decode cX1_joined 189 = .ok (.iload_n 1, 1) := by decide +kernel
theorem dX1_joined_190 : decode cX1_joined 190 = .ok (.ifCond .eq 11, 3) := by decide +kernel
theorem dX1_joined_193 : decode cX1_joined 193 = .ok (.iload_n 2, 1) := by decide +kernel
theorem dX1_joined_194 : decode cX1_joined 194 = .ok (.ifCond .eq 7, 3) := by decide +kernel
theorem dX1_joined_197 : decode cX1_joined 197 = .ok (.iconst 1, 1) := by decide +kernel
theorem dX1_joined_198 : decode cX1_joined 198 = .ok (.goto 4, 3) := by decide +kernel
theorem dX1_joined_201 : decode cX1_joined 201 = .ok (.iconst 0, 1) := by decide +kernel
theorem dX1_joined_202 : decode cX1_joined 202 = .ok (.ireturn, 1) := by decide +kernel
theorem dX1_joined_203 : decode cX1_joined 203 = .ok (.iload_n 1, 1) := by decide +kernel
theorem dX1_joined_204 : decode cX1_joined 204 = .ok (.ifCond .ne 7, 3) := by decide +kernel
theorem dX1_joined_207 : decode cX1_joined 207 = .ok (.iload_n 2, 1) := by decide +kernel
theorem dX1_joined_208 : decode cX1_joined 208 = .ok (.ifCond .eq 7, 3) := by decide +kernel
theorem dX1_joined_211 : decode cX1_joined 211 = .ok (.iconst 1, 1) := by decide +kernel
theorem dX1_joined_212 : decode cX1_joined 212 = .ok (.goto 4, 3) := by decide +kernel
theorem dX1_joined_215 : decode cX1_joined 215 = .ok (.iconst 0, 1) := by decide +kernel
theorem dX1_joined_216 : decode cX1_joined 216 = .ok (.ireturn, 1) := by decide +kernel
theorem dX2_init_0 : decode cX2_init 0 = .ok (.aload_n 0, 1) := by decide +kernel
theorem dX2_init_1 : decode cX2_init 1 = .ok (.invokespecial 3, 3) := by decide +kernel
theorem dX2_init_4 : decode cX2_init 4 = .ok (.aload_n 0, 1) := by decide +kernel
theorem dX2_init_5 : decode cX2_init 5 = .ok (.bipush 10, 2) := by decide +kernel
theorem dX2_init_7 : decode cX2_init 7 = .ok (.newarray .int, 2) := by decide +kernel
theorem dX2_init_9 : decode cX2_init 9 = .ok (.putfield 9, 3) := by decide +kernel
theorem dX2_init_12 : decode cX2_init 12 = .ok (.aload_n 0, 1) := by decide +kernel
theorem dX2_init_13 : decode cX2_init 13 = .ok (.bipush 10, 2) := by decide +kernel
theorem dX2_init_15 : decode cX2_init 15 = .ok (.newarray .int, 2) := by decide +kernel
theorem dX2_init_17 : decode cX2_init 17 = .ok (.putfield 15, 3) := by decide +kernel
theorem dX2_init_20 : decode cX2_init 20 = .ok (.return_, 1) := by decide +kernel
theorem dX2_copyOf_0 : decode cX2_copyOf 0 = .ok (.aload_n 0, 1) := by decide +kernel
theorem dX2_copyOf_1 : decode cX2_copyOf 1 = .ok (.aload_n 1, 1) := by decide +kernel
theorem dX2_copyOf_2 : decode cX2_copyOf 2 = .ok (.getfield 18, 3) := by decide +kernel
theorem dX2_copyOf_5 : decode cX2_copyOf 5 = .ok (.putfield 18, 3) := by decide +kernel
theorem dX2_copyOf_8 : decode cX2_copyOf 8 = .ok (.aload_n 1, 1) := by decide +kernel
theorem dX2_copyOf_9 : decode cX2_copyOf 9 = .ok (.getfield 9, 3) := by decide +kernel
theorem dX2_copyOf_12 : decode cX2_copyOf 12 = .ok (.iconst 0, 1) := by decide +kernel
theorem dX2_copyOf_13 : decode cX2_copyOf 13 = .ok (.aload_n 0, 1) := by decide +kernel
theorem dX2_copyOf_14 : decode cX2_copyOf 14 = .ok (.getfield 9, 3) := by decide +kernel
theorem dX2_copyOf_17 : decode cX2_copyOf 17 = .ok (.iconst 0, 1) := by decide +kernel
theorem dX2_copyOf_18 : decode cX2_copyOf 18 = .ok (.bipush 10, 2) := by decide +kernel
theorem dX2_copyOf_20 : decode cX2_copyOf 20 = .ok (.invokestatic 22, 3) := by decide +kernel
theorem dX2_copyOf_23 : decode cX2_copyOf 23 = .ok (.aload_n 1, 1) := by decide +kernel
theorem dX2_copyOf_24 : decode cX2_copyOf 24 = .ok (.getfield 15, 3) := by decide +kernel
theorem dX2_copyOf_27 : decode cX2_copyOf 27 = .ok (.iconst 0, 1) := by decide +kernel
theorem dX2_copyOf_28 : decode cX2_copyOf 28 = .ok (.aload_n 0, 1) := by decide +kernel
theorem dX2_copyOf_29 : decode cX2_copyOf 29 = .ok (.getfield 15, 3) := by decide +kernel
theorem dX2_copyOf_32 : decode cX2_copyOf 32 = .ok (.iconst 0, 1) := by decide +kernel
theorem dX2_copyOf_33 : decode cX2_copyOf 33 = .ok (.bipush 10, 2) := by decide +kernel
theorem dX2_copyOf_35 : decode cX2_copyOf 35 = .ok (.invokestatic 22, 3) := by decide +kernel
theorem dX2_copyOf_38 : decode cX2_copyOf 38 = .ok (.return_, 1) := by decide +kernel
theorem dX2_add_0 : decode cX2_add 0 = .ok (.iload_n 1, 1) := by decide +kernel
theorem dX2_add_1 : decode cX2_add 1 = .ok (.bipush 10, 2) := by decide +kernel
theorem dX2_add_3 : decode cX2_add 3 = .ok (.if_icmp .lt 10, 3) := by decide +kernel
theorem dX2_add_6 : decode cX2_add 6 = .ok (.aload_n 0, 1) := by decide +kernel
theorem dX2_add_7 : decode cX2_add 7 = .ok (.getfield 15, 3) := by decide +kernel
theorem dX2_add_10 : decode cX2_add 10 = .ok (.goto 7, 3) := by decide +kernel
theorem dX2_add_13 : decode cX2_add 13 = .ok (.aload_n 0, 1) := by decide +kernel
theorem dX2_add_14 : decode cX2_add 14 = .ok (.getfield 9, 3) := by decide +kernel
theorem dX2_add_17 : decode cX2_add 17 = .ok (.astore_n 2, 1) := by decide +kernel
theorem dX2_add_18 : decode cX2_add 18 = .ok (.aload_n 0, 1) := by decide +kernel
theorem dX2_add_19 : decode cX2_add 19 = .ok (.getfield 18, 3) := by decide +kernel
theorem dX2_add_22 : decode cX2_add 22 = .ok (.iconst 0, 1) := by decide +kernel
theorem dX2_add_23 : decode cX2_add 23 = .ok (.bipush 9, 2) := by decide +kernel
theorem dX2_add_25 : decode cX2_add 25 = .ok (.invokestatic 28, 3) := by decide +kernel
theorem dX2_add_28 : decode cX2_add 28 = .ok (.ifCond .eq 25, 3) := by decide +kernel
theorem dX2_add_31 : decode cX2_add 31 = .ok (.aload_n 2, 1) := by decide +kernel
theorem dX2_add_32 : decode cX2_add 32 = .ok (.aload_n 0, 1) := by decide +kernel
theorem dX2_add_33 : decode cX2_add 33 = .ok (.getfield 18, 3) := by decide +kernel
theorem dX2_add_36 : decode cX2_add 36 = .ok (.iaload, 1) := by decide +kernel
theorem dX2_add_37 : decode cX2_add 37 = .ok (.sipush 9999, 3) := by decide +kernel
theorem dX2_add_40 : decode cX2_add 40 = .ok (.if_icmp .ge 13, 3) := by decide +kernel
theorem dX2_add_43 : decode cX2_add 43 = .ok (.aload_n 2, 1) := by decide +kernel
theorem dX2_add_44 : decode cX2_add 44 = .ok (.aload_n 0, 1) := by decide +kernel
theorem dX2_add_45 : decode cX2_add 45 = .ok (.getfield 18, 3) := by decide +kernel
theorem dX2_add_48 : decode cX2_add 48 = .ok (.dup2, 1) := by decide +kernel
theorem dX2_add_49 : decode cX2_add 49 = .ok (.iaload, 1) := by decide +kernel
theorem dX2_add_50 : decode cX2_add 50 = .ok (.iconst 1, 1) := by decide +kernel
theorem dX2_add_51 : decode cX2_add 51 = .ok (.iadd, 1) := by decide +kernel
theorem dX2_add_52 : decode cX2_add 52 = .ok (.iastore, 1) := by decide +kernel
theorem dX2_add_53 : decode cX2_add 53 = .ok (.return_, 1) := by decide +kernel
theorem dX2_above_0 : decode cX2_above 0 = .ok (.iload_n 1, 1) := by decide +kernel
theorem dX2_above_1 : decode cX2_above 1 = .ok (.iconst 0, 1) := by decide +kernel
theorem dX2_above_2 : decode cX2_above 2 = .ok (.bipush 9, 2) := by decide +kernel
theorem dX2_above_4 : decode cX2_above 4 = .ok (.invokestatic 28, 3) := by decide +kernel
theorem dX2_above_7 : decode cX2_above 7 = .ok (.ifCond .eq 27, 3) := by decide +kernel
theorem dX2_above_10 : decode cX2_above 10 = .ok (.aload_n 0, 1) := by decide +kernel
theorem dX2_above_11 : decode cX2_above 11 = .ok (.getfield 15, 3) := by decide +kernel
theorem dX2_above_14 : decode cX2_above 14 = .ok (.iload_n 1, 1) := by decide +kernel
theorem dX2_above_15 : decode cX2_above 15 = .ok (.iaload, 1) := by decide +kernel
theorem dX2_above_16 : decode cX2_above 16 = .ok (.aload_n 0, 1) := by decide +kernel
theorem dX2_above_17 : decode cX2_above 17 = .ok (.getfield 15, 3) := by decide +kernel
theorem dX2_above_20 : decode cX2_above 20 = .ok (.iload_n 1, 1) := by decide +kernel
theorem dX2_above_21 : decode cX2_above 21 = .ok (.iaload, 1) := by decide +kernel
theorem dX2_above_22 : decode cX2_above 22 = .ok (.aload_n 0, 1) := by decide +kernel
theorem dX2_above_23 : decode cX2_above 23 = .ok (.getfield 9, 3) := by decide +kernel
theorem dX2_above_26 : decode cX2_above 26 = .ok (.iload_n 1, 1) := by decide +kernel
theorem dX2_above_27 : decode cX2_above 27 = .ok (.iaload, 1) := by decide +kernel
theorem dX2_above_28 : decode cX2_above 28 = .ok (.invokestatic 32, 3) := by decide +kernel
theorem dX2_above_31 : decode cX2_above 31 = .ok (.goto 4, 3) := by decide +kernel
theorem dX2_above_34 : decode cX2_above 34 = .ok (.iconst 0, 1) := by decide +kernel
theorem dX2_above_35 : decode cX2_above 35 = .ok (.ireturn, 1) := by decide +kernel
theorem dX2_below_0 : decode cX2_below 0 = .ok (.iload_n 1, 1) := by decide +kernel
theorem dX2_below_1 : decode cX2_below 1 = .ok (.iconst 0, 1) := by decide +kernel
theorem dX2_below_2 : decode cX2_below 2 = .ok (.bipush 9, 2) := by decide +kernel
theorem dX2_below_4 : decode cX2_below 4 = .ok (.invokestatic 28, 3) := by decide +kernel
theorem dX2_below_7 : decode cX2_below 7 = .ok (.ifCond .eq 38, 3) := by decide +kernel
theorem dX2_below_10 : decode cX2_below 10 = .ok (.iconst 1, 1) := by decide +kernel
theorem dX2_below_11 : decode cX2_below 11 = .ok (.aload_n 0, 1) := by decide +kernel
theorem dX2_below_12 : decode cX2_below 12 = .ok (.getfield 15, 3) := by decide +kernel
theorem dX2_below_15 : decode cX2_below 15 = .ok (.iload_n 1, 1) := by decide +kernel
theorem dX2_below_16 : decode cX2_below 16 = .ok (.iaload, 1) := by decide +kernel
theorem dX2_below_17 : decode cX2_below 17 = .ok (.aload_n 0, 1) := by decide +kernel
theorem dX2_below_18 : decode cX2_below 18 = .ok (.getfield 9, 3) := by decide +kernel
theorem dX2_below_21 : decode cX2_below 21 = .ok (.iload_n 1, 1) := by decide +kernel
theorem dX2_below_22 : decode cX2_below 22 = .ok (.iaload, 1) := by decide +kernel
theorem dX2_below_23 : decode cX2_below 23 = .ok (.iadd, 1) := by decide +kernel
theorem dX2_below_24 : decode cX2_below 24 = .ok (.aload_n 0, 1) := by decide +kernel
theorem dX2_below_25 : decode cX2_below 25 = .ok (.getfield 15, 3) := by decide +kernel
theorem dX2_below_28 : decode cX2_below 28 = .ok (.iload_n 1, 1) := by decide +kernel
theorem dX2_below_29 : decode cX2_below 29 = .ok (.iaload, 1) := by decide +kernel
theorem dX2_below_30 : decode cX2_below 30 = .ok (.aload_n 0, 1) := by decide +kernel
theorem dX2_below_31 : decode cX2_below 31 = .ok (.getfield 9, 3) := by decide +kernel
theorem dX2_below_34 : decode cX2_below 34 = .ok (.iload_n 1, 1) := by decide +kernel
theorem dX2_below_35 : decode cX2_below 35 = .ok (.iaload, 1) := by decide +kernel
theorem dX2_below_36 : decode cX2_below 36 = .ok (.invokestatic 32, 3) := by decide +kernel
theorem dX2_below_39 : decode cX2_below 39 = .ok (.invokestatic 36, 3) := by decide +kernel
theorem dX2_below_42 : decode cX2_below 42 = .ok (.goto 4, 3) := by decide +kernel
theorem dX2_below_45 : decode cX2_below 45 = .ok (.iconst 1, 1) := by decide +kernel
theorem dX2_below_46 : decode cX2_below 46 = .ok (.ireturn, 1) := by decide +kernel
theorem dX2_reduced_0 : decode cX2_reduced 0 = .ok (.iload_n 1, 1) := by decide +kernel
theorem dX2_reduced_1 : decode cX2_reduced 1 = .ok (.istore_n 3, 1) := by decide +kernel
theorem dX2_reduced_2 : decode cX2_reduced 2 = .ok (.iload_n 2, 1) := by decide +kernel
theorem dX2_reduced_3 : decode cX2_reduced 3 = .ok (.istore 4, 2) := by decide +kernel
theorem dX2_reduced_5 : decode cX2_reduced 5 = .ok (.iconst 0, 1) := by decide +kernel
theorem dX2_reduced_6 : decode cX2_reduced 6 = .ok (.istore 5, 2) := by decide +kernel
theorem dX2_reduced_8 : decode cX2_reduced 8 = .ok (.iload 5, 2) := by decide +kernel
theorem dX2_reduced_10 : decode cX2_reduced 10 = .ok (.bipush 100, 2) := by decide +kernel
theorem dX2_reduced_12 : decode cX2_reduced 12 = .ok (.if_icmp .ge 27, 3) := by decide +kernel
theorem dX2_reduced_15 : decode cX2_reduced 15 = .ok (.iload 4, 2) := by decide +kernel
theorem dX2_reduced_17 : decode cX2_reduced 17 = .ok (.ifCond .le 22, 3) := by decide +kernel
theorem dX2_reduced_20 : decode cX2_reduced 20 = .ok (.iload_n 3, 1) := by decide +kernel
theorem dX2_reduced_21 : decode cX2_reduced 21 = .ok (.iload 4, 2) := by decide +kernel
theorem dX2_reduced_23 : decode cX2_reduced 23 = .ok (.irem, 1) := by decide +kernel
theorem dX2_reduced_24 : decode cX2_reduced 24 = .ok (.istore 6, 2) := by decide +kernel
theorem dX2_reduced_26 : decode cX2_reduced 26 = .ok (.iload 4, 2) := by decide +kernel
theorem dX2_reduced_28 : decode cX2_reduced 28 = .ok (.istore_n 3, 1) := by decide +kernel
theorem dX2_reduced_29 : decode cX2_reduced 29 = .ok (.iload 6, 2) := by decide +kernel
theorem dX2_reduced_31 : decode cX2_reduced 31 = .ok (.istore 4, 2) := by decide +kernel
theorem dX2_reduced_33 : decode cX2_reduced 33 = .ok (.iinc 5 1, 3) := by decide +kernel
theorem dX2_reduced_36 : decode cX2_reduced 36 = .ok (.goto (-28), 3) := by decide +kernel
theorem dX2_reduced_39 : decode cX2_reduced 39 = .ok (.iload_n 3, 1) := by decide +kernel
theorem dX2_reduced_40 : decode cX2_reduced 40 = .ok (.ifCond .le 9, 3) := by decide +kernel
theorem dX2_reduced_43 : decode cX2_reduced 43 = .ok (.iload_n 0, 1) := by decide +kernel
theorem dX2_reduced_44 : decode cX2_reduced 44 = .ok (.iload_n 3, 1) := by decide +kernel
theorem dX2_reduced_45 : decode cX2_reduced 45 = .ok (.idiv, 1) := by decide +kernel
theorem dX2_reduced_46 : decode cX2_reduced 46 = .ok (.goto 4, 3) := by decide +kernel
theorem dX2_reduced_49 : decode cX2_reduced 49 = .ok (.iconst 0, 1) := by decide +kernel
theorem dX2_reduced_50 : decode cX2_reduced 50 = .ok (.ireturn, 1) := by decide +kernel
theorem dX3_init_0 : decode cX3_init 0 = .ok (.aload_n 0, 1) := by decide +kernel
theorem dX3_init_1 : decode cX3_init 1 = .ok (.invokespecial 3, 3) := by decide +kernel
theorem dX3_init_4 : decode cX3_init 4 = .ok (.aload_n 0, 1) := by decide +kernel
theorem dX3_init_5 : decode cX3_init 5 = .ok (.new 9, 3) := by decide +kernel
theorem dX3_init_8 : decode cX3_init 8 = .ok (.dup, 1) := by decide +kernel
theorem dX3_init_9 : decode cX3_init 9 = .ok (.invokespecial 11, 3) := by decide +kernel
theorem dX3_init_12 : decode cX3_init 12 = .ok (.putfield 12, 3) := by decide +kernel
theorem dX3_init_15 : decode cX3_init 15 = .ok (.aload_n 0, 1) := by decide +kernel
theorem dX3_init_16 : decode cX3_init 16 = .ok (.ldc 18, 2) := by decide +kernel
theorem dX3_init_18 : decode cX3_init 18 = .ok (.putfield 20, 3) := by decide +kernel
theorem dX3_init_21 : decode cX3_init 21 = .ok (.return_, 1) := by decide +kernel
theorem dX3_faultOf_0 : decode cX3_faultOf 0 = .ok (.aload_n 0, 1) := by decide +kernel
theorem dX3_faultOf_1 : decode cX3_faultOf 1 = .ok (.aload_n 1, 1) := by decide +kernel
theorem dX3_faultOf_2 : decode cX3_faultOf 2 = .ok (.putfield 24, 3) := by decide +kernel
theorem dX3_faultOf_5 : decode cX3_faultOf 5 = .ok (.aload_n 0, 1) := by decide +kernel
theorem dX3_faultOf_6 : decode cX3_faultOf 6 = .ok (.aload_n 2, 1) := by decide +kernel
theorem dX3_faultOf_7 : decode cX3_faultOf 7 = .ok (.putfield 20, 3) := by decide +kernel
theorem dX3_faultOf_10 : decode cX3_faultOf 10 = .ok (.aload_n 0, 1) := by decide +kernel
theorem dX3_faultOf_11 : decode cX3_faultOf 11 = .ok (.iconst 0, 1) := by decide +kernel
theorem dX3_faultOf_12 : decode cX3_faultOf 12 = .ok (.putfield 28, 3) := by decide +kernel
theorem dX3_faultOf_15 : decode cX3_faultOf 15 = .ok (.aload_n 0, 1) := by decide +kernel
theorem dX3_faultOf_16 : decode cX3_faultOf 16 = .ok (.iconst 0, 1) := by decide +kernel
theorem dX3_faultOf_17 : decode cX3_faultOf 17 = .ok (.putfield 32, 3) := by decide +kernel
theorem dX3_faultOf_20 : decode cX3_faultOf 20 = .ok (.aload_n 0, 1) := by decide +kernel
theorem dX3_faultOf_21 : decode cX3_faultOf 21 = .ok (.getfield 12, 3) := by decide +kernel
theorem dX3_faultOf_24 : decode cX3_faultOf 24 = .ok (.invokevirtual 36, 3) := by decide +kernel
theorem dX3_faultOf_27 : decode cX3_faultOf 27 = .ok (.aload_n 0, 1) := by decide +kernel
theorem dX3_faultOf_28 : decode cX3_faultOf 28 = .ok (.iconst 0, 1) := by decide +kernel
theorem dX3_faultOf_29 : decode cX3_faultOf 29 = .ok (.invokevirtual 39, 3) := by decide +kernel
theorem dX3_faultOf_32 : decode cX3_faultOf 32 = .ok (.aload_n 0, 1) := by decide +kernel
theorem dX3_faultOf_33 : decode cX3_faultOf 33 = .ok (.getfield 32, 3) := by decide +kernel
theorem dX3_faultOf_36 : decode cX3_faultOf 36 = .ok (.ifCond .ne 14, 3) := by decide +kernel
theorem dX3_faultOf_39 : decode cX3_faultOf 39 = .ok (.aload_n 0, 1) := by decide +kernel
theorem dX3_faultOf_40 : decode cX3_faultOf 40 = .ok (.getfield 28, 3) := by decide +kernel
theorem dX3_faultOf_43 : decode cX3_faultOf 43 = .ok (.aload_n 1, 1) := by decide +kernel
theorem dX3_faultOf_44 : decode cX3_faultOf 44 = .ok (.getfield 43, 3) := by decide +kernel
theorem dX3_faultOf_47 : decode cX3_faultOf 47 = .ok (.if_icmp .ge 10, 3) := by decide +kernel
theorem dX3_faultOf_50 : decode cX3_faultOf 50 = .ok (.aload_n 0, 1) := by decide +kernel
theorem dX3_faultOf_51 : decode cX3_faultOf 51 = .ok (.getfield 28, 3) := by decide +kernel
theorem dX3_faultOf_54 : decode cX3_faultOf 54 = .ok (.goto 4, 3) := by decide +kernel
theorem dX3_faultOf_57 : decode cX3_faultOf 57 = .ok (.iconst (-1), 1) := by decide +kernel
theorem dX3_faultOf_58 : decode cX3_faultOf 58 = .ok (.ireturn, 1) := by decide +kernel
theorem dX3_next_0 : decode cX3_next 0 = .ok (.aload_n 0, 1) := by decide +kernel
theorem dX3_next_1 : decode cX3_next 1 = .ok (.getfield 32, 3) := by decide +kernel
theorem dX3_next_4 : decode cX3_next 4 = .ok (.ifCond .ne 10, 3) := by decide +kernel
theorem dX3_next_7 : decode cX3_next 7 = .ok (.aload_n 0, 1) := by decide +kernel
theorem dX3_next_8 : decode cX3_next 8 = .ok (.getfield 24, 3) := by decide +kernel
theorem dX3_next_11 : decode cX3_next 11 = .ok (.ifnonnull 7, 3) := by decide +kernel
theorem dX3_next_14 : decode cX3_next 14 = .ok (.iconst (-1), 1) := by decide +kernel
theorem dX3_next_15 : decode cX3_next 15 = .ok (.goto 14, 3) := by decide +kernel
theorem dX3_next_18 : decode cX3_next 18 = .ok (.aload_n 0, 1) := by decide +kernel
theorem dX3_next_19 : decode cX3_next 19 = .ok (.getfield 24, 3) := by decide +kernel
theorem dX3_next_22 : decode cX3_next 22 = .ok (.aload_n 0, 1) := by decide +kernel
theorem dX3_next_23 : decode cX3_next 23 = .ok (.getfield 28, 3) := by decide +kernel
theorem dX3_next_26 : decode cX3_next 26 = .ok (.invokevirtual 48, 3) := by decide +kernel
theorem dX3_next_29 : decode cX3_next 29 = .ok (.ireturn, 1) := by decide +kernel
theorem dX3_readOr_0 : decode cX3_readOr 0 = .ok (.aload_n 0, 1) := by decide +kernel
theorem dX3_readOr_1 : decode cX3_readOr 1 = .ok (.iload_n 1, 1) := by decide +kernel
theorem dX3_readOr_2 : decode cX3_readOr 2 = .ok (.invokevirtual 52, 3) := by decide +kernel
theorem dX3_readOr_5 : decode cX3_readOr 5 = .ok (.iconst 0, 1) := by decide +kernel
theorem dX3_readOr_6 : decode cX3_readOr 6 = .ok (.istore_n 2, 1) := by decide +kernel
theorem dX3_readOr_7 : decode cX3_readOr 7 = .ok (.iload_n 2, 1) := by decide +kernel
theorem dX3_readOr_8 : decode cX3_readOr 8 = .ok (.bipush 50, 2) := by decide +kernel
theorem dX3_readOr_10 : decode cX3_readOr 10 = .ok (.if_icmp .ge 42, 3) := by decide +kernel
theorem dX3_readOr_13 : decode cX3_readOr 13 = .ok (.aload_n 0, 1) := by decide +kernel
theorem dX3_readOr_14 : decode cX3_readOr 14 = .ok (.invokevirtual 55, 3) := by decide +kernel
theorem dX3_readOr_17 : decode cX3_readOr 17 = .ok (.bipush 124, 2) := by decide +kernel
theorem dX3_readOr_19 : decode cX3_readOr 19 = .ok (.if_icmp .ne 33, 3) := by decide +kernel
theorem dX3_readOr_22 : decode cX3_readOr 22 = .ok (.aload_n 0, 1) := by decide +kernel
theorem dX3_readOr_23 : decode cX3_readOr 23 = .ok (.dup, 1) := by decide +kernel
theorem dX3_readOr_24 : decode cX3_readOr 24 = .ok (.getfield 28, 3) := by decide +kernel
theorem dX3_readOr_27 : decode cX3_readOr 27 = .ok (.iconst 1, 1) := by decide +kernel
theorem dX3_readOr_28 : decode cX3_readOr 28 = .ok (.iadd, 1) := by decide +kernel
theorem dX3_readOr_29 : decode cX3_readOr 29 = .ok (.putfield 28, 3) := by decide +kernel
theorem dX3_readOr_32 : decode cX3_readOr 32 = .ok (.aload_n 0, 1) := by decide +kernel
theorem dX3_readOr_33 : decode cX3_readOr 33 = .ok (.iload_n 1, 1) := by decide +kernel
theorem dX3_readOr_34 : decode cX3_readOr 34 = .ok (.invokevirtual 52, 3) := by decide +kernel
theorem dX3_readOr_37 : decode cX3_readOr 37 = .ok (.aload_n 0, 1) := by decide +kernel
theorem dX3_readOr_38 : decode cX3_readOr 38 = .ok (.getfield 12, 3) := by decide +kernel
theorem dX3_readOr_41 : decode cX3_readOr 41 = .ok (.bipush (-124), 2) := by decide +kernel
theorem dX3_readOr_43 : decode cX3_readOr 43 = .ok (.invokevirtual 59, 3) := by decide +kernel
theorem dX3_readOr_46 : decode cX3_readOr 46 = .ok (.iinc 2 1, 3) := by decide +kernel
theorem dX3_readOr_49 : decode cX3_readOr 49 = .ok (.goto (-42), 3) := by decide +kernel
theorem dX3_readOr_52 : decode cX3_readOr 52 = .ok (.return_, 1) := by decide +kernel
theorem dX3_readAnd_0 : decode cX3_readAnd 0 = .ok (.aload_n 0, 1) := by decide +kernel
theorem dX3_readAnd_1 : decode cX3_readAnd 1 = .ok (.iload_n 1, 1) := by decide +kernel
theorem dX3_readAnd_2 : decode cX3_readAnd 2 = .ok (.invokevirtual 62, 3) := by decide +kernel
theorem dX3_readAnd_5 : decode cX3_readAnd 5 = .ok (.iconst 0, 1) := by decide +kernel
theorem dX3_readAnd_6 : decode cX3_readAnd 6 = .ok (.istore_n 2, 1) := by decide +kernel
theorem dX3_readAnd_7 : decode cX3_readAnd 7 = .ok (.iload_n 2, 1) := by decide +kernel
theorem dX3_readAnd_8 : decode cX3_readAnd 8 = .ok (.bipush 50, 2) := by decide +kernel
theorem dX3_readAnd_10 : decode cX3_readAnd 10 = .ok (.if_icmp .ge 42, 3) := by decide +kernel
theorem dX3_readAnd_13 : decode cX3_readAnd 13 = .ok (.aload_n 0, 1) := by decide +kernel
theorem dX3_readAnd_14 : decode cX3_readAnd 14 = .ok (.invokevirtual 55, 3) := by decide +kernel
theorem dX3_readAnd_17 : decode cX3_readAnd 17 = .ok (.bipush 38, 2) := by decide +kernel
theorem dX3_readAnd_19 : decode cX3_readAnd 19 = .ok (.if_icmp .ne 33, 3) := by decide +kernel
theorem dX3_readAnd_22 : decode cX3_readAnd 22 = .ok (.aload_n 0, 1) := by decide +kernel
theorem dX3_readAnd_23 : decode cX3_readAnd 23 = .ok (.dup, 1) := by decide +kernel
theorem dX3_readAnd_24 : decode cX3_readAnd 24 = .ok (.getfield 28, 3) := by decide +kernel
theorem dX3_readAnd_27 : decode cX3_readAnd 27 = .ok (.iconst 1, 1) := by decide +kernel
theorem dX3_readAnd_28 : decode cX3_readAnd 28 = .ok (.iadd, 1) := by decide +kernel
theorem dX3_readAnd_29 : decode cX3_readAnd 29 = .ok (.putfield 28, 3) := by decide +kernel
theorem dX3_readAnd_32 : decode cX3_readAnd 32 = .ok (.aload_n 0, 1) := by decide +kernel
theorem dX3_readAnd_33 : decode cX3_readAnd 33 = .ok (.iload_n 1, 1) := by decide +kernel
theorem dX3_readAnd_34 : decode cX3_readAnd 34 = .ok (.invokevirtual 62, 3) := by decide +kernel
theorem dX3_readAnd_37 : decode cX3_readAnd 37 = .ok (.aload_n 0, 1) := by decide +kernel
theorem dX3_readAnd_38 : decode cX3_readAnd 38 = .ok (.getfield 12, 3) := by decide +kernel
theorem dX3_readAnd_41 : decode cX3_readAnd 41 = .ok (.bipush (-38), 2) := by decide +kernel
theorem dX3_readAnd_43 : decode cX3_readAnd 43 = .ok (.invokevirtual 59, 3) := by decide +kernel
theorem dX3_readAnd_46 : decode cX3_readAnd 46 = .ok (.iinc 2 1, 3) := by decide +kernel
theorem dX3_readAnd_49 : decode cX3_readAnd 49 = .ok (.goto (-42), 3) := by decide +kernel
theorem dX3_readAnd_52 : decode cX3_readAnd 52 = .ok (.return_, 1) := by decide +kernel
theorem dX3_readCompared_0 : decode cX3_readCompared 0 = .ok (.aload_n 0, 1) := by decide +kernel
theorem dX3_readCompared_1 : decode cX3_readCompared 1 = .ok (.iload_n 1, 1) := by decide +kernel
theorem dX3_readCompared_2 : decode cX3_readCompared 2 = .ok (.invokevirtual 65, 3) := by decide +kernel
theorem dX3_readCompared_5 : decode cX3_readCompared 5 = .ok (.aload_n 0, 1) := by decide +kernel
theorem dX3_readCompared_6 : decode cX3_readCompared 6 = .ok (.invokevirtual 55, 3) := by decide +kernel
theorem dX3_readCompared_9 : decode cX3_readCompared 9 = .ok (.istore_n 2, 1) := by decide +kernel
theorem dX3_readCompared_10 : decode cX3_readCompared 10 = .ok (.iload_n 2, 1) := by decide +kernel
theorem dX3_readCompared_11 : decode cX3_readCompared 11 = .ok (.bipush 60, 2) := by decide +kernel
theorem dX3_readCompared_13 : decode cX3_readCompared 13 = .ok (.if_icmp .eq 15, 3) := by decide +kernel
theorem dX3_readCompared_16 : decode cX3_readCompared 16 = .ok (.iload_n 2, 1) := by decide +kernel
theorem dX3_readCompared_17 : decode cX3_readCompared 17 = .ok (.bipush 61, 2) := by decide +kernel
theorem dX3_readCompared_19 : decode cX3_readCompared 19 = .ok (.if_icmp .eq 9, 3) := by decide +kernel
theorem dX3_readCompared_22 : decode cX3_readCompared 22 = .ok (.iload_n 2, 1) := by decide +kernel
theorem dX3_readCompared_23 : decode cX3_readCompared 23 = .ok (.bipush 62, 2) := by decide +kernel
theorem dX3_readCompared_25 : decode cX3_readCompared 25 = .ok (.if_icmp .ne 27, 3) := by decide +kernel
theorem dX3_readCompared_28 : decode cX3_readCompared 28 = .ok (.aload_n 0, 1) := by decide +kernel
theorem dX3_readCompared_29 : decode cX3_readCompared 29 = .ok (.dup, 1) := by decide +kernel
theorem dX3_readCompared_30 : decode cX3_readCompared 30 = .ok (.getfield 28, 3) := by decide +kernel
theorem dX3_readCompared_33 : decode cX3_readCompared 33 = .ok (.iconst 1, 1) := by decide +kernel
theorem dX3_readCompared_34 : decode cX3_readCompared 34 = .ok (.iadd, 1) := by decide +kernel
theorem dX3_readCompared_35 : decode cX3_readCompared 35 = .ok (.putfield 28, 3) := by decide +kernel
theorem dX3_readCompared_38 : decode cX3_readCompared 38 = .ok (.aload_n 0, 1) := by decide +kernel
theorem dX3_readCompared_39 : decode cX3_readCompared 39 = .ok (.iload_n 1, 1) := by decide +kernel
theorem dX3_readCompared_40 : decode cX3_readCompared 40 = .ok (.invokevirtual 65, 3) := by decide +kernel
theorem dX3_readCompared_43 : decode cX3_readCompared 43 = .ok (.aload_n 0, 1) := by decide +kernel
theorem dX3_readCompared_44 : decode cX3_readCompared 44 = .ok (.getfield 12, 3) := by decide +kernel
theorem dX3_readCompared_47 : decode cX3_readCompared 47 = .ok (.iload_n 2, 1) := by decide +kernel
theorem dX3_readCompared_48 : decode cX3_readCompared 48 = .ok (.ineg, 1) := by decide +kernel
theorem dX3_readCompared_49 : decode cX3_readCompared 49 = .ok (.invokevirtual 59, 3) := by decide +kernel
theorem dX3_readCompared_52 : decode cX3_readCompared 52 = .ok (.return_, 1) := by decide +kernel
theorem dX3_readSum_0 : decode cX3_readSum 0 = .ok (.aload_n 0, 1) := by decide +kernel
theorem dX3_readSum_1 : decode cX3_readSum 1 = .ok (.iload_n 1, 1) := by decide +kernel
theorem dX3_readSum_2 : decode cX3_readSum 2 = .ok (.invokevirtual 68, 3) := by decide +kernel
theorem dX3_readSum_5 : decode cX3_readSum 5 = .ok (.aload_n 0, 1) := by decide +kernel
theorem dX3_readSum_6 : decode cX3_readSum 6 = .ok (.invokevirtual 55, 3) := by decide +kernel
theorem dX3_readSum_9 : decode cX3_readSum 9 = .ok (.istore_n 2, 1) := by decide +kernel
theorem dX3_readSum_10 : decode cX3_readSum 10 = .ok (.iconst 0, 1) := by decide +kernel
theorem dX3_readSum_11 : decode cX3_readSum 11 = .ok (.istore_n 3, 1) := by decide +kernel
theorem dX3_readSum_12 : decode cX3_readSum 12 = .ok (.iload_n 3, 1) := by decide +kernel
theorem dX3_readSum_13 : decode cX3_readSum 13 = .ok (.bipush 50, 2) := by decide +kernel
theorem dX3_readSum_15 : decode cX3_readSum 15 = .ok (.if_icmp .ge 50, 3) := by decide +kernel
theorem dX3_readSum_18 : decode cX3_readSum 18 = .ok (.iload_n 2, 1) := by decide +kernel
theorem dX3_readSum_19 : decode cX3_readSum 19 = .ok (.bipush 43, 2) := by decide +kernel
theorem dX3_readSum_21 : decode cX3_readSum 21 = .ok (.if_icmp .eq 9, 3) := by decide +kernel
theorem dX3_readSum_24 : decode cX3_readSum 24 = .ok (.iload_n 2, 1) := by decide +kernel
theorem dX3_readSum_25 : decode cX3_readSum 25 = .ok (.bipush 45, 2) := by decide +kernel
theorem dX3_readSum_27 : decode cX3_readSum 27 = .ok (.if_icmp .ne 38, 3) := by decide +kernel
theorem dX3_readSum_30 : decode cX3_readSum 30 = .ok (.aload_n 0, 1) := by decide +kernel
theorem dX3_readSum_31 : decode cX3_readSum 31 = .ok (.dup, 1) := by decide +kernel
theorem dX3_readSum_32 : decode cX3_readSum 32 = .ok (.getfield 28, 3) := by decide +kernel
theorem dX3_readSum_35 : decode cX3_readSum 35 = .ok (.iconst 1, 1) := by decide +kernel
theorem dX3_readSum_36 : decode cX3_readSum 36 = .ok (.iadd, 1) := by decide +kernel
theorem dX3_readSum_37 : decode cX3_readSum 37 = .ok (.putfield 28, 3) := by decide +kernel
theorem dX3_readSum_40 : decode cX3_readSum 40 = .ok (.aload_n 0, 1) := by decide +kernel
theorem dX3_readSum_41 : decode cX3_readSum 41 = .ok (.iload_n 1, 1) := by decide +kernel
theorem dX3_readSum_42 : decode cX3_readSum 42 = .ok (.invokevirtual 68, 3) := by decide +kernel
theorem dX3_readSum_45 : decode cX3_readSum 45 = .ok (.aload_n 0, 1) := by decide +kernel
theorem dX3_readSum_46 : decode cX3_readSum 46 = .ok (.getfield 12, 3) := by decide +kernel
theorem dX3_readSum_49 : decode cX3_readSum 49 = .ok (.iload_n 2, 1) := by decide +kernel
theorem dX3_readSum_50 : decode cX3_readSum 50 = .ok (.ineg, 1) := by decide +kernel
theorem dX3_readSum_51 : decode cX3_readSum 51 = .ok (.invokevirtual 59, 3) := by decide +kernel
theorem dX3_readSum_54 : decode cX3_readSum 54 = .ok (.aload_n 0, 1) := by decide +kernel
theorem dX3_readSum_55 : decode cX3_readSum 55 = .ok (.invokevirtual 55, 3) := by decide +kernel
theorem dX3_readSum_58 : decode cX3_readSum 58 = .ok (.istore_n 2, 1) := by decide +kernel
theorem dX3_readSum_59 : decode cX3_readSum 59 = .ok (.iinc 3 1, 3) := by decide +kernel
theorem dX3_readSum_62 : decode cX3_readSum 62 = .ok (.goto (-50), 3) := by decide +kernel
theorem dX3_readSum_65 : decode cX3_readSum 65 = .ok (.return_, 1) := by decide +kernel
theorem dX3_readProduct_0 : decode cX3_readProduct 0 = .ok (.aload_n 0, 1) := by decide +kernel
theorem dX3_readProduct_1 : decode cX3_readProduct 1 = .ok (.iload_n 1, 1) := by decide +kernel
theorem dX3_readProduct_2 : decode cX3_readProduct 2 = .ok (.invokevirtual 71, 3) := by decide +kernel
theorem dX3_readProduct_5 : decode cX3_readProduct 5 = .ok (.aload_n 0, 1) := by decide +kernel
theorem dX3_readProduct_6 : decode cX3_readProduct 6 = .ok (.invokevirtual 55, 3) := by decide +kernel
theorem dX3_readProduct_9 : decode cX3_readProduct 9 = .ok (.istore_n 2, 1) := by decide +kernel
theorem dX3_readProduct_10 : decode cX3_readProduct 10 = .ok (.iconst 0, 1) := by decide +kernel
theorem dX3_readProduct_11 : decode cX3_readProduct 11 = .ok (.istore_n 3, 1) := by decide +kernel
theorem dX3_readProduct_12 : decode cX3_readProduct 12 = .ok (.iload_n 3, 1) := by decide +kernel
theorem dX3_readProduct_13 : decode cX3_readProduct 13 = .ok (.bipush 50, 2) := by decide +kernel
theorem dX3_readProduct_15 : decode cX3_readProduct 15 = .ok (.if_icmp .ge 56, 3) := by decide +kernel
theorem dX3_readProduct_18 : decode cX3_readProduct 18 = .ok (.iload_n 2, 1) := by decide +kernel
theorem dX3_readProduct_19 : decode cX3_readProduct 19 = .ok (.bipush 42, 2) := by decide +kernel
theorem dX3_readProduct_21 : decode cX3_readProduct 21 = .ok (.if_icmp .eq 15, 3) := by decide +kernel
theorem dX3_readProduct_24 : decode cX3_readProduct 24 = .ok (.iload_n 2, 1) := by decide +kernel
theorem dX3_readProduct_25 : decode cX3_readProduct 25 = .ok (.bipush 47, 2) := by decide +kernel
theorem dX3_readProduct_27 : decode cX3_readProduct 27 = .ok (.if_icmp .eq 9, 3) := by decide +kernel
theorem dX3_readProduct_30 : decode cX3_readProduct 30 = .ok (.iload_n 2, 1) := by decide +kernel
theorem dX3_readProduct_31 : decode cX3_readProduct 31 = .ok (.bipush 37, 2) := by decide +kernel
theorem dX3_readProduct_33 : decode cX3_readProduct 33 = .ok (.if_icmp .ne 38, 3) := by decide +kernel
theorem dX3_readProduct_36 : decode cX3_readProduct 36 = .ok (.aload_n 0, 1) := by decide +kernel
theorem dX3_readProduct_37 : decode cX3_readProduct 37 = .ok (.dup, 1) := by decide +kernel
theorem dX3_readProduct_38 : decode cX3_readProduct 38 = .ok (.getfield 28, 3) := by decide +kernel
theorem dX3_readProduct_41 : decode cX3_readProduct 41 = .ok (.iconst 1, 1) := by decide +kernel
theorem dX3_readProduct_42 : decode cX3_readProduct 42 = .ok (.iadd, 1) := by decide +kernel
theorem dX3_readProduct_43 : decode cX3_readProduct 43 = .ok (.putfield 28, 3) := by decide +kernel
theorem dX3_readProduct_46 : decode cX3_readProduct 46 = .ok (.aload_n 0, 1) := by decide +kernel
theorem dX3_readProduct_47 : decode cX3_readProduct 47 = .ok (.iload_n 1, 1) := by decide +kernel
theorem dX3_readProduct_48 : decode cX3_readProduct 48 = .ok (.invokevirtual 71, 3) := by decide +kernel
theorem dX3_readProduct_51 : decode cX3_readProduct 51 = .ok (.aload_n 0, 1) := by decide +kernel
theorem dX3_readProduct_52 : decode cX3_readProduct 52 = .ok (.getfield 12, 3) := by decide +kernel
theorem dX3_readProduct_55 : decode cX3_readProduct 55 = .ok (.iload_n 2, 1) := by decide +kernel
theorem dX3_readProduct_56 : decode cX3_readProduct 56 = .ok (.ineg, 1) := by decide +kernel
theorem dX3_readProduct_57 : decode cX3_readProduct 57 = .ok (.invokevirtual 59, 3) := by decide +kernel
theorem dX3_readProduct_60 : decode cX3_readProduct 60 = .ok (.aload_n 0, 1) := by decide +kernel
theorem dX3_readProduct_61 : decode cX3_readProduct 61 = .ok (.invokevirtual 55, 3) := by decide +kernel
theorem dX3_readProduct_64 : decode cX3_readProduct 64 = .ok (.istore_n 2, 1) := by decide +kernel
theorem dX3_readProduct_65 : decode cX3_readProduct 65 = .ok (.iinc 3 1, 3) := by decide +kernel
theorem dX3_readProduct_68 : decode cX3_readProduct 68 = .ok (.goto (-56), 3) := by decide +kernel
theorem dX3_readProduct_71 : decode cX3_readProduct 71 = .ok (.return_, 1) := by decide +kernel
theorem dX3_readUnit_0 : decode cX3_readUnit 0 = .ok (.aload_n 0, 1) := by decide +kernel
theorem dX3_readUnit_1 : decode cX3_readUnit 1 = .ok (.invokevirtual 55, 3) := by decide +kernel
theorem dX3_readUnit_4 : decode cX3_readUnit 4 = .ok (.istore_n 2, 1) := by decide +kernel
theorem dX3_readUnit_5 : decode cX3_readUnit 5 = .ok (.iload_n 2, 1) := by decide +kernel
theorem dX3_readUnit_6 : decode cX3_readUnit 6 = .ok (.ifCond .ge 7, 3) := by decide +kernel
theorem dX3_readUnit_9 : decode cX3_readUnit 9 = .ok (.iconst (-1), 1) := by decide +kernel
theorem dX3_readUnit_10 : decode cX3_readUnit 10 = .ok (.goto 12, 3) := by decide +kernel
theorem dX3_readUnit_13 : decode cX3_readUnit 13 = .ok (.aload_n 0, 1) := by decide +kernel
theorem dX3_readUnit_14 : decode cX3_readUnit 14 = .ok (.getfield 20, 3) := by decide +kernel
theorem dX3_readUnit_17 : decode cX3_readUnit 17 = .ok (.iload_n 2, 1) := by decide +kernel
theorem dX3_readUnit_18 : decode cX3_readUnit 18 = .ok (.i2c, 1) := by decide +kernel
theorem dX3_readUnit_19 : decode cX3_readUnit 19 = .ok (.invokevirtual 74, 3) := by decide +kernel
theorem dX3_readUnit_22 : decode cX3_readUnit 22 = .ok (.istore_n 3, 1) := by decide +kernel
theorem dX3_readUnit_23 : decode cX3_readUnit 23 = .ok (.iload_n 2, 1) := by decide +kernel
theorem dX3_readUnit_24 : decode cX3_readUnit 24 = .ok (.bipush 48, 2) := by decide +kernel
theorem dX3_readUnit_26 : decode cX3_readUnit 26 = .ok (.bipush 57, 2) := by decide +kernel
theorem dX3_readUnit_28 : decode cX3_readUnit 28 = .ok (.invokestatic 79, 3) := by decide +kernel
theorem dX3_readUnit_31 : decode cX3_readUnit 31 = .ok (.ifCond .eq 10, 3) := by decide +kernel
theorem dX3_readUnit_34 : decode cX3_readUnit 34 = .ok (.aload_n 0, 1) := by decide +kernel
theorem dX3_readUnit_35 : decode cX3_readUnit 35 = .ok (.invokevirtual 83, 3) := by decide +kernel
theorem dX3_readUnit_38 : decode cX3_readUnit 38 = .ok (.goto 110, 3) := by decide +kernel
theorem dX3_readUnit_41 : decode cX3_readUnit 41 = .ok (.iload_n 3, 1) := by decide +kernel
theorem dX3_readUnit_42 : decode cX3_readUnit 42 = .ok (.ifCond .lt 26, 3) := by decide +kernel
theorem dX3_readUnit_45 : decode cX3_readUnit 45 = .ok (.aload_n 0, 1) := by decide +kernel
theorem dX3_readUnit_46 : decode cX3_readUnit 46 = .ok (.dup, 1) := by decide +kernel
theorem dX3_readUnit_47 : decode cX3_readUnit 47 = .ok (.getfield 28, 3) := by decide +kernel
theorem dX3_readUnit_50 : decode cX3_readUnit 50 = .ok (.iconst 1, 1) := by decide +kernel
theorem dX3_readUnit_51 : decode cX3_readUnit 51 = .ok (.iadd, 1) := by decide +kernel
theorem dX3_readUnit_52 : decode cX3_readUnit 52 = .ok (.putfield 28, 3) := by decide +kernel
theorem dX3_readUnit_55 : decode cX3_readUnit 55 = .ok (.aload_n 0, 1) := by decide +kernel
theorem dX3_readUnit_56 : decode cX3_readUnit 56 = .ok (.getfield 12, 3) := by decide +kernel
theorem dX3_readUnit_59 : decode cX3_readUnit 59 = .ok (.iconst (-1), 1) := by decide +kernel
theorem dX3_readUnit_60 : decode cX3_readUnit 60 = .ok (.iload_n 3, 1) := by decide +kernel
theorem dX3_readUnit_61 : decode cX3_readUnit 61 = .ok (.isub, 1) := by decide +kernel
theorem dX3_readUnit_62 : decode cX3_readUnit 62 = .ok (.invokevirtual 59, 3) := by decide +kernel
theorem dX3_readUnit_65 : decode cX3_readUnit 65 = .ok (.goto 83, 3) := by decide +kernel
theorem dX3_readUnit_68 : decode cX3_readUnit 68 = .ok (.iload_n 2, 1) := by decide +kernel
theorem dX3_readUnit_69 : decode cX3_readUnit 69 = .ok (.bipush 33, 2) := by decide +kernel
theorem dX3_readUnit_71 : decode cX3_readUnit 71 = .ok (.if_icmp .ne 37, 3) := by decide +kernel
theorem dX3_readUnit_74 : decode cX3_readUnit 74 = .ok (.iload_n 1, 1) := by decide +kernel
theorem dX3_readUnit_75 : decode cX3_readUnit 75 = .ok (.iconst 5, 1) := by decide +kernel
theorem dX3_readUnit_76 : decode cX3_readUnit 76 = .ok (.if_icmp .ge 32, 3) := by decide +kernel
theorem dX3_readUnit_79 : decode cX3_readUnit 79 = .ok (.aload_n 0, 1) := by decide +kernel
theorem dX3_readUnit_80 : decode cX3_readUnit 80 = .ok (.dup, 1) := by decide +kernel
theorem dX3_readUnit_81 : decode cX3_readUnit 81 = .ok (.getfield 28, 3) := by decide +kernel
theorem dX3_readUnit_84 : decode cX3_readUnit 84 = .ok (.iconst 1, 1) := by decide +kernel
theorem dX3_readUnit_85 : decode cX3_readUnit 85 = .ok (.iadd, 1) := by decide +kernel
theorem dX3_readUnit_86 : decode cX3_readUnit 86 = .ok (.putfield 28, 3) := by decide +kernel
theorem dX3_readUnit_89 : decode cX3_readUnit 89 = .ok (.aload_n 0, 1) := by decide +kernel
theorem dX3_readUnit_90 : decode cX3_readUnit 90 = .ok (.iload_n 1, 1) := by decide +kernel
theorem dX3_readUnit_91 : decode cX3_readUnit 91 = .ok (.iconst 1, 1) := by decide +kernel
theorem dX3_readUnit_92 : decode cX3_readUnit 92 = .ok (.iadd, 1) := by decide +kernel
theorem dX3_readUnit_93 : decode cX3_readUnit 93 = .ok (.invokevirtual 71, 3) := by decide +kernel
theorem dX3_readUnit_96 : decode cX3_readUnit 96 = .ok (.aload_n 0, 1) := by decide +kernel
theorem dX3_readUnit_97 : decode cX3_readUnit 97 = .ok (.getfield 12, 3) := by decide +kernel
theorem dX3_readUnit_100 : decode cX3_readUnit 100 = .ok (.bipush (-33), 2) := by decide +kernel
theorem dX3_readUnit_102 : decode cX3_readUnit 102 = .ok (.invokevirtual 59, 3) := by decide +kernel
theorem dX3_readUnit_105 : decode cX3_readUnit 105 = .ok (.goto 43, 3) := by decide +kernel
theorem dX3_readUnit_108 : decode cX3_readUnit 108 = .ok (.iload_n 2, 1) := by decide +kernel
theorem dX3_readUnit_109 : decode cX3_readUnit 109 = .ok (.bipush 40, 2) := by decide +kernel
theorem dX3_readUnit_111 : decode cX3_readUnit 111 = .ok (.if_icmp .ne 32, 3) := by decide +kernel
theorem dX3_readUnit_114 : decode cX3_readUnit 114 = .ok (.iload_n 1, 1) := by decide +kernel
theorem dX3_readUnit_115 : decode cX3_readUnit 115 = .ok (.iconst 5, 1) := by decide +kernel
theorem dX3_readUnit_116 : decode cX3_readUnit 116 = .ok (.if_icmp .ge 27, 3) := by decide +kernel
theorem dX3_readUnit_119 : decode cX3_readUnit 119 = .ok (.aload_n 0, 1) := by decide +kernel
theorem dX3_readUnit_120 : decode cX3_readUnit 120 = .ok (.dup, 1) := by decide +kernel
theorem dX3_readUnit_121 : decode cX3_readUnit 121 = .ok (.getfield 28, 3) := by decide +kernel
theorem dX3_readUnit_124 : decode cX3_readUnit 124 = .ok (.iconst 1, 1) := by decide +kernel
theorem dX3_readUnit_125 : decode cX3_readUnit 125 = .ok (.iadd, 1) := by decide +kernel
theorem dX3_readUnit_126 : decode cX3_readUnit 126 = .ok (.putfield 28, 3) := by decide +kernel
theorem dX3_readUnit_129 : decode cX3_readUnit 129 = .ok (.aload_n 0, 1) := by decide +kernel
theorem dX3_readUnit_130 : decode cX3_readUnit 130 = .ok (.iload_n 1, 1) := by decide +kernel
theorem dX3_readUnit_131 : decode cX3_readUnit 131 = .ok (.iconst 1, 1) := by decide +kernel
theorem dX3_readUnit_132 : decode cX3_readUnit 132 = .ok (.iadd, 1) := by decide +kernel
theorem dX3_readUnit_133 : decode cX3_readUnit 133 = .ok (.invokevirtual 39, 3) := by decide +kernel
theorem dX3_readUnit_136 : decode cX3_readUnit 136 = .ok (.aload_n 0, 1) := by decide +kernel
theorem dX3_readUnit_137 : decode cX3_readUnit 137 = .ok (.invokevirtual 86, 3) := by decide +kernel
theorem dX3_readUnit_140 : decode cX3_readUnit 140 = .ok (.goto 8, 3) := by decide +kernel
theorem dX3_readUnit_143 : decode cX3_readUnit 143 = .ok (.aload_n 0, 1) := by decide +kernel
theorem dX3_readUnit_144 : decode cX3_readUnit 144 = .ok (.iconst 1, 1) := by decide +kernel
theorem dX3_readUnit_145 : decode cX3_readUnit 145 = .ok (.putfield 32, 3) := by decide +kernel
theorem dX3_readUnit_148 : decode cX3_readUnit 148 = .ok (.return_, 1) := by decide +kernel
theorem dX3_readClosing_0 : decode cX3_readClosing 0 = .ok (.aload_n 0, 1) := by decide +kernel
theorem dX3_readClosing_1 : decode cX3_readClosing 1 = .ok (.invokevirtual 55, 3) := by decide +kernel
theorem dX3_readClosing_4 : decode cX3_readClosing 4 = .ok (.bipush 41, 2) := by decide +kernel
theorem dX3_readClosing_6 : decode cX3_readClosing 6 = .ok (.if_icmp .ne 16, 3) := by decide +kernel
theorem dX3_readClosing_9 : decode cX3_readClosing 9 = .ok (.aload_n 0, 1) := by decide +kernel
theorem dX3_readClosing_10 : decode cX3_readClosing 10 = .ok (.dup, 1) := by decide +kernel
theorem dX3_readClosing_11 : decode cX3_readClosing 11 = .ok (.getfield 28, 3) := by decide +kernel
theorem dX3_readClosing_14 : decode cX3_readClosing 14 = .ok (.iconst 1, 1) := by decide +kernel
theorem dX3_readClosing_15 : decode cX3_readClosing 15 = .ok (.iadd, 1) := by decide +kernel
theorem dX3_readClosing_16 : decode cX3_readClosing 16 = .ok (.putfield 28, 3) := by decide +kernel
theorem dX3_readClosing_19 : decode cX3_readClosing 19 = .ok (.goto 8, 3) := by decide +kernel
theorem dX3_readClosing_22 : decode cX3_readClosing 22 = .ok (.aload_n 0, 1) := by decide +kernel
theorem dX3_readClosing_23 : decode cX3_readClosing 23 = .ok (.iconst 1, 1) := by decide +kernel
theorem dX3_readClosing_24 : decode cX3_readClosing 24 = .ok (.putfield 32, 3) := by decide +kernel
theorem dX3_readClosing_27 : decode cX3_readClosing 27 = .ok (.return_, 1) := by decide +kernel
theorem dX3_readNumber_0 : decode cX3_readNumber 0 = .ok (.iconst 0, 1) := by decide +kernel
theorem dX3_readNumber_1 : decode cX3_readNumber 1 = .ok (.istore_n 1, 1) := by decide +kernel
theorem dX3_readNumber_2 : decode cX3_readNumber 2 = .ok (.aload_n 0, 1) := by decide +kernel
theorem dX3_readNumber_3 : decode cX3_readNumber 3 = .ok (.invokevirtual 55, 3) := by decide +kernel
theorem dX3_readNumber_6 : decode cX3_readNumber 6 = .ok (.istore_n 2, 1) := by decide +kernel
theorem dX3_readNumber_7 : decode cX3_readNumber 7 = .ok (.iconst 0, 1) := by decide +kernel
theorem dX3_readNumber_8 : decode cX3_readNumber 8 = .ok (.istore_n 3, 1) := by decide +kernel
theorem dX3_readNumber_9 : decode cX3_readNumber 9 = .ok (.iload_n 3, 1) := by decide +kernel
theorem dX3_readNumber_10 : decode cX3_readNumber 10 = .ok (.iconst 4, 1) := by decide +kernel
theorem dX3_readNumber_11 : decode cX3_readNumber 11 = .ok (.if_icmp .ge 45, 3) := by decide +kernel
theorem dX3_readNumber_14 : decode cX3_readNumber 14 = .ok (.iload_n 2, 1) := by decide +kernel
theorem dX3_readNumber_15 : decode cX3_readNumber 15 = .ok (.bipush 48, 2) := by decide +kernel
theorem dX3_readNumber_17 : decode cX3_readNumber 17 = .ok (.bipush 57, 2) := by decide +kernel
theorem dX3_readNumber_19 : decode cX3_readNumber 19 = .ok (.invokestatic 79, 3) := by decide +kernel
theorem dX3_readNumber_22 : decode cX3_readNumber 22 = .ok (.ifCond .eq 34, 3) := by decide +kernel
theorem dX3_readNumber_25 : decode cX3_readNumber 25 = .ok (.iload_n 1, 1) := by decide +kernel
theorem dX3_readNumber_26 : decode cX3_readNumber 26 = .ok (.bipush 10, 2) := by decide +kernel
theorem dX3_readNumber_28 : decode cX3_readNumber 28 = .ok (.imul, 1) := by decide +kernel
theorem dX3_readNumber_29 : decode cX3_readNumber 29 = .ok (.iload_n 2, 1) := by decide +kernel
theorem dX3_readNumber_30 : decode cX3_readNumber 30 = .ok (.iadd, 1) := by decide +kernel
theorem dX3_readNumber_31 : decode cX3_readNumber 31 = .ok (.bipush 48, 2) := by decide +kernel
theorem dX3_readNumber_33 : decode cX3_readNumber 33 = .ok (.isub, 1) := by decide +kernel
theorem dX3_readNumber_34 : decode cX3_readNumber 34 = .ok (.istore_n 1, 1) := by decide +kernel
theorem dX3_readNumber_35 : decode cX3_readNumber 35 = .ok (.aload_n 0, 1) := by decide +kernel
theorem dX3_readNumber_36 : decode cX3_readNumber 36 = .ok (.dup, 1) := by decide +kernel
theorem dX3_readNumber_37 : decode cX3_readNumber 37 = .ok (.getfield 28, 3) := by decide +kernel
theorem dX3_readNumber_40 : decode cX3_readNumber 40 = .ok (.iconst 1, 1) := by decide +kernel
theorem dX3_readNumber_41 : decode cX3_readNumber 41 = .ok (.iadd, 1) := by decide +kernel
theorem dX3_readNumber_42 : decode cX3_readNumber 42 = .ok (.putfield 28, 3) := by decide +kernel
theorem dX3_readNumber_45 : decode cX3_readNumber 45 = .ok (.aload_n 0, 1) := by decide +kernel
theorem dX3_readNumber_46 : decode cX3_readNumber 46 = .ok (.invokevirtual 55, 3) := by decide +kernel
theorem dX3_readNumber_49 : decode cX3_readNumber 49 = .ok (.istore_n 2, 1) := by decide +kernel
theorem dX3_readNumber_50 : decode cX3_readNumber 50 = .ok (.iinc 3 1, 3) := by decide +kernel
theorem dX3_readNumber_53 : decode cX3_readNumber 53 = .ok (.goto (-44), 3) := by decide +kernel
theorem dX3_readNumber_56 : decode cX3_readNumber 56 = .ok (.aload_n 0, 1) := by decide +kernel
theorem dX3_readNumber_57 : decode cX3_readNumber 57 = .ok (.getfield 12, 3) := by decide +kernel
theorem dX3_readNumber_60 : decode cX3_readNumber 60 = .ok (.iload_n 1, 1) := by decide +kernel
theorem dX3_readNumber_61 : decode cX3_readNumber 61 = .ok (.invokevirtual 59, 3) := by decide +kernel
theorem dX3_readNumber_64 : decode cX3_readNumber 64 = .ok (.return_, 1) := by decide +kernel
theorem dX4_init_0 : decode cX4_init 0 = .ok (.aload_n 0, 1) := by decide +kernel
theorem dX4_init_1 : decode cX4_init 1 = .ok (.invokespecial 3, 3) := by decide +kernel
theorem dX4_init_4 : decode cX4_init 4 = .ok (.aload_n 0, 1) := by decide +kernel
theorem dX4_init_5 : decode cX4_init 5 = .ok (.bipush 40, 2) := by decide +kernel
theorem dX4_init_7 : decode cX4_init 7 = .ok (.newarray .int, 2) := by decide +kernel
theorem dX4_init_9 : decode cX4_init 9 = .ok (.putfield 9, 3) := by decide +kernel
theorem dX4_init_12 : decode cX4_init 12 = .ok (.return_, 1) := by decide +kernel
theorem dX4_lay_0 : decode cX4_lay 0 = .ok (.aload_n 0, 1) := by decide +kernel
theorem dX4_lay_1 : decode cX4_lay 1 = .ok (.iload_n 1, 1) := by decide +kernel
theorem dX4_lay_2 : decode cX4_lay 2 = .ok (.putfield 15, 3) := by decide +kernel
theorem dX4_lay_5 : decode cX4_lay 5 = .ok (.aload_n 0, 1) := by decide +kernel
theorem dX4_lay_6 : decode cX4_lay 6 = .ok (.iload_n 2, 1) := by decide +kernel
theorem dX4_lay_7 : decode cX4_lay 7 = .ok (.iconst 0, 1) := by decide +kernel
theorem dX4_lay_8 : decode cX4_lay 8 = .ok (.bipush 40, 2) := by decide +kernel
theorem dX4_lay_10 : decode cX4_lay 10 = .ok (.invokestatic 19, 3) := by decide +kernel
theorem dX4_lay_13 : decode cX4_lay 13 = .ok (.putfield 23, 3) := by decide +kernel
theorem dX4_lay_16 : decode cX4_lay 16 = .ok (.aload_n 0, 1) := by decide +kernel
theorem dX4_lay_17 : decode cX4_lay 17 = .ok (.getfield 9, 3) := by decide +kernel
theorem dX4_lay_20 : decode cX4_lay 20 = .ok (.iconst 0, 1) := by decide +kernel
theorem dX4_lay_21 : decode cX4_lay 21 = .ok (.invokestatic 26, 3) := by decide +kernel
theorem dX4_lay_24 : decode cX4_lay 24 = .ok (.return_, 1) := by decide +kernel
theorem dX4_isMissing_0 : decode cX4_isMissing 0 = .ok (.aload_n 0, 1) := by decide +kernel
theorem dX4_isMissing_1 : decode cX4_isMissing 1 = .ok (.getfield 15, 3) := by decide +kernel
theorem dX4_isMissing_4 : decode cX4_isMissing 4 = .ok (.ifCond .ne 7, 3) := by decide +kernel
theorem dX4_isMissing_7 : decode cX4_isMissing 7 = .ok (.iconst 1, 1) := by decide +kernel
theorem dX4_isMissing_8 : decode cX4_isMissing 8 = .ok (.goto 4, 3) := by decide +kernel
theorem dX4_isMissing_11 : decode cX4_isMissing 11 = .ok (.iconst 0, 1) := by decide +kernel
theorem dX4_isMissing_12 : decode cX4_isMissing 12 = .ok (.ireturn, 1) := by decide +kernel
theorem dX4_lowest_0 : decode cX4_lowest 0 = .ok (.aload_n 0, 1) := by decide +kernel
theorem dX4_lowest_1 : decode cX4_lowest 1 = .ok (.getfield 15, 3) := by decide +kernel
theorem dX4_lowest_4 : decode cX4_lowest 4 = .ok (.bipush 8, 2) := by decide +kernel
theorem dX4_lowest_6 : decode cX4_lowest 6 = .ok (.if_icmp .ne 11, 3) := by decide +kernel
theorem dX4_lowest_9 : decode cX4_lowest 9 = .ok (.iload_n 1, 1) := by decide +kernel
theorem dX4_lowest_10 : decode cX4_lowest 10 = .ok (.sipush 255, 3) := by decide +kernel
theorem dX4_lowest_13 : decode cX4_lowest 13 = .ok (.iand, 1) := by decide +kernel
theorem dX4_lowest_14 : decode cX4_lowest 14 = .ok (.goto 20, 3) := by decide +kernel
theorem dX4_lowest_17 : decode cX4_lowest 17 = .ok (.aload_n 0, 1) := by decide +kernel
theorem dX4_lowest_18 : decode cX4_lowest 18 = .ok (.getfield 15, 3) := by decide +kernel
theorem dX4_lowest_21 : decode cX4_lowest 21 = .ok (.bipush 16, 2) := by decide +kernel
theorem dX4_lowest_23 : decode cX4_lowest 23 = .ok (.if_icmp .ne 10, 3) := by decide +kernel
theorem dX4_lowest_26 : decode cX4_lowest 26 = .ok (.iload_n 1, 1) := by decide +kernel
theorem dX4_lowest_27 : decode cX4_lowest 27 = .ok (.ldc 32, 2) := by decide +kernel
theorem dX4_lowest_29 : decode cX4_lowest 29 = .ok (.iand, 1) := by decide +kernel
theorem dX4_lowest_30 : decode cX4_lowest 30 = .ok (.goto 4, 3) := by decide +kernel
theorem dX4_lowest_33 : decode cX4_lowest 33 = .ok (.iload_n 1, 1) := by decide +kernel
theorem dX4_lowest_34 : decode cX4_lowest 34 = .ok (.ireturn, 1) := by decide +kernel
theorem dX4_holds_0 : decode cX4_holds 0 = .ok (.iload_n 2, 1) := by decide +kernel
theorem dX4_holds_1 : decode cX4_holds 1 = .ok (.ifCond .lt 29, 3) := by decide +kernel
theorem dX4_holds_4 : decode cX4_holds 4 = .ok (.iload_n 2, 1) := by decide +kernel
theorem dX4_holds_5 : decode cX4_holds 5 = .ok (.aload_n 0, 1) := by decide +kernel
theorem dX4_holds_6 : decode cX4_holds 6 = .ok (.getfield 23, 3) := by decide +kernel
theorem dX4_holds_9 : decode cX4_holds 9 = .ok (.if_icmp .gt 21, 3) := by decide +kernel
theorem dX4_holds_12 : decode cX4_holds 12 = .ok (.iload_n 1, 1) := by decide +kernel
theorem dX4_holds_13 : decode cX4_holds 13 = .ok (.ifCond .lt 17, 3) := by decide +kernel
theorem dX4_holds_16 : decode cX4_holds 16 = .ok (.iload_n 1, 1) := by decide +kernel
theorem dX4_holds_17 : decode cX4_holds 17 = .ok (.aload_n 0, 1) := by decide +kernel
theorem dX4_holds_18 : decode cX4_holds 18 = .ok (.getfield 23, 3) := by decide +kernel
theorem dX4_holds_21 : decode cX4_holds 21 = .ok (.iload_n 2, 1) := by decide +kernel
theorem dX4_holds_22 : decode cX4_holds 22 = .ok (.isub, 1) := by decide +kernel
theorem dX4_holds_23 : decode cX4_holds 23 = .ok (.if_icmp .gt 7, 3) := by decide +kernel
theorem dX4_holds_26 : decode cX4_holds 26 = .ok (.iconst 1, 1) := by decide +kernel
theorem dX4_holds_27 : decode cX4_holds 27 = .ok (.goto 4, 3) := by decide +kernel
theorem dX4_holds_30 : decode cX4_holds 30 = .ok (.iconst 0, 1) := by decide +kernel
theorem dX4_holds_31 : decode cX4_holds 31 = .ok (.ireturn, 1) := by decide +kernel
theorem dX5_init_0 : decode cX5_init 0 = .ok (.aload_n 0, 1) := by decide +kernel
theorem dX5_init_1 : decode cX5_init 1 = .ok (.invokespecial 3, 3) := by decide +kernel
theorem dX5_init_4 : decode cX5_init 4 = .ok (.aload_n 0, 1) := by decide +kernel
theorem dX5_init_5 : decode cX5_init 5 = .ok (.iconst 3, 1) := by decide +kernel
theorem dX5_init_6 : decode cX5_init 6 = .ok (.newarray .int, 2) := by decide +kernel
theorem dX5_init_8 : decode cX5_init 8 = .ok (.dup, 1) := by decide +kernel
theorem dX5_init_9 : decode cX5_init 9 = .ok (.iconst 0, 1) := by decide +kernel
theorem dX5_init_10 : decode cX5_init 10 = .ok (.iconst 2, 1) := by decide +kernel
theorem dX5_init_11 : decode cX5_init 11 = .ok (.iastore, 1) := by decide +kernel
theorem dX5_init_12 : decode cX5_init 12 = .ok (.dup, 1) := by decide +kernel
theorem dX5_init_13 : decode cX5_init 13 = .ok (.iconst 1, 1) := by decide +kernel
theorem dX5_init_14 : decode cX5_init 14 = .ok (.iconst 2, 1) := by decide +kernel
theorem dX5_init_15 : decode cX5_init 15 = .ok (.iastore, 1) := by decide +kernel
theorem dX5_init_16 : decode cX5_init 16 = .ok (.dup, 1) := by decide +kernel
theorem dX5_init_17 : decode cX5_init 17 = .ok (.iconst 2, 1) := by decide +kernel
theorem dX5_init_18 : decode cX5_init 18 = .ok (.iconst 2, 1) := by decide +kernel
theorem dX5_init_19 : decode cX5_init 19 = .ok (.iastore, 1) := by decide +kernel
theorem dX5_init_20 : decode cX5_init 20 = .ok (.putfield 9, 3) := by decide +kernel
theorem dX5_init_23 : decode cX5_init 23 = .ok (.aload_n 0, 1) := by decide +kernel
theorem dX5_init_24 : decode cX5_init 24 = .ok (.bipush 72, 2) := by decide +kernel
theorem dX5_init_26 : decode cX5_init 26 = .ok (.newarray .int, 2) := by decide +kernel
theorem dX5_init_28 : decode cX5_init 28 = .ok (.putfield 15, 3) := by decide +kernel
theorem dX5_init_31 : decode cX5_init 31 = .ok (.return_, 1) := by decide +kernel
theorem dX5_copyOf_0 : decode cX5_copyOf 0 = .ok (.aload_n 1, 1) := by decide +kernel
theorem dX5_copyOf_1 : decode cX5_copyOf 1 = .ok (.getfield 9, 3) := by decide +kernel
theorem dX5_copyOf_4 : decode cX5_copyOf 4 = .ok (.iconst 0, 1) := by decide +kernel
theorem dX5_copyOf_5 : decode cX5_copyOf 5 = .ok (.aload_n 0, 1) := by decide +kernel
theorem dX5_copyOf_6 : decode cX5_copyOf 6 = .ok (.getfield 9, 3) := by decide +kernel
theorem dX5_copyOf_9 : decode cX5_copyOf 9 = .ok (.iconst 0, 1) := by decide +kernel
theorem dX5_copyOf_10 : decode cX5_copyOf 10 = .ok (.iconst 3, 1) := by decide +kernel
theorem dX5_copyOf_11 : decode cX5_copyOf 11 = .ok (.invokestatic 18, 3) := by decide +kernel
theorem dX5_copyOf_14 : decode cX5_copyOf 14 = .ok (.aload_n 1, 1) := by decide +kernel
theorem dX5_copyOf_15 : decode cX5_copyOf 15 = .ok (.getfield 15, 3) := by decide +kernel
theorem dX5_copyOf_18 : decode cX5_copyOf 18 = .ok (.iconst 0, 1) := by decide +kernel
theorem dX5_copyOf_19 : decode cX5_copyOf 19 = .ok (.aload_n 0, 1) := by decide +kernel
theorem dX5_copyOf_20 : decode cX5_copyOf 20 = .ok (.getfield 15, 3) := by decide +kernel
theorem dX5_copyOf_23 : decode cX5_copyOf 23 = .ok (.iconst 0, 1) := by decide +kernel
theorem dX5_copyOf_24 : decode cX5_copyOf 24 = .ok (.bipush 72, 2) := by decide +kernel
theorem dX5_copyOf_26 : decode cX5_copyOf 26 = .ok (.invokestatic 18, 3) := by decide +kernel
theorem dX5_copyOf_29 : decode cX5_copyOf 29 = .ok (.return_, 1) := by decide +kernel
theorem dX5_rainAt_0 : decode cX5_rainAt 0 = .ok (.iload_n 1, 1) := by decide +kernel
theorem dX5_rainAt_1 : decode cX5_rainAt 1 = .ok (.bipush 24, 2) := by decide +kernel
theorem dX5_rainAt_3 : decode cX5_rainAt 3 = .ok (.imul, 1) := by decide +kernel
theorem dX5_rainAt_4 : decode cX5_rainAt 4 = .ok (.iload_n 2, 1) := by decide +kernel
theorem dX5_rainAt_5 : decode cX5_rainAt 5 = .ok (.iadd, 1) := by decide +kernel
theorem dX5_rainAt_6 : decode cX5_rainAt 6 = .ok (.istore_n 3, 1) := by decide +kernel
theorem dX5_rainAt_7 : decode cX5_rainAt 7 = .ok (.iload_n 3, 1) := by decide +kernel
theorem dX5_rainAt_8 : decode cX5_rainAt 8 = .ok (.iconst 0, 1) := by decide +kernel
theorem dX5_rainAt_9 : decode cX5_rainAt 9 = .ok (.bipush 71, 2) := by decide +kernel
theorem dX5_rainAt_11 : decode cX5_rainAt 11 = .ok (.invokestatic 24, 3) := by decide +kernel
theorem dX5_rainAt_14 : decode cX5_rainAt 14 = .ok (.ifCond .eq 12, 3) := by decide +kernel
theorem dX5_rainAt_17 : decode cX5_rainAt 17 = .ok (.aload_n 0, 1) := by decide +kernel
theorem dX5_rainAt_18 : decode cX5_rainAt 18 = .ok (.getfield 15, 3) := by decide +kernel
theorem dX5_rainAt_21 : decode cX5_rainAt 21 = .ok (.iload_n 3, 1) := by decide +kernel
theorem dX5_rainAt_22 : decode cX5_rainAt 22 = .ok (.iaload, 1) := by decide +kernel
theorem dX5_rainAt_23 : decode cX5_rainAt 23 = .ok (.goto 4, 3) := by decide +kernel
theorem dX5_rainAt_26 : decode cX5_rainAt 26 = .ok (.iconst 0, 1) := by decide +kernel
theorem dX5_rainAt_27 : decode cX5_rainAt 27 = .ok (.ireturn, 1) := by decide +kernel
theorem dX5_putRain_0 : decode cX5_putRain 0 = .ok (.iload_n 1, 1) := by decide +kernel
theorem dX5_putRain_1 : decode cX5_putRain 1 = .ok (.bipush 24, 2) := by decide +kernel
theorem dX5_putRain_3 : decode cX5_putRain 3 = .ok (.imul, 1) := by decide +kernel
theorem dX5_putRain_4 : decode cX5_putRain 4 = .ok (.iload_n 2, 1) := by decide +kernel
theorem dX5_putRain_5 : decode cX5_putRain 5 = .ok (.iadd, 1) := by decide +kernel
theorem dX5_putRain_6 : decode cX5_putRain 6 = .ok (.istore 4, 2) := by decide +kernel
theorem dX5_putRain_8 : decode cX5_putRain 8 = .ok (.iload 4, 2) := by decide +kernel
theorem dX5_putRain_10 : decode cX5_putRain 10 = .ok (.iconst 0, 1) := by decide +kernel
theorem dX5_putRain_11 : decode cX5_putRain 11 = .ok (.bipush 71, 2) := by decide +kernel
theorem dX5_putRain_13 : decode cX5_putRain 13 = .ok (.invokestatic 24, 3) := by decide +kernel
theorem dX5_putRain_16 : decode cX5_putRain 16 = .ok (.ifCond .eq 11, 3) := by decide +kernel
theorem dX5_putRain_19 : decode cX5_putRain 19 = .ok (.aload_n 0, 1) := by decide +kernel
theorem dX5_putRain_20 : decode cX5_putRain 20 = .ok (.getfield 15, 3) := by decide +kernel
theorem dX5_putRain_23 : decode cX5_putRain 23 = .ok (.iload 4, 2) := by decide +kernel
theorem dX5_putRain_25 : decode cX5_putRain 25 = .ok (.iload_n 3, 1) := by decide +kernel
theorem dX5_putRain_26 : decode cX5_putRain 26 = .ok (.iastore, 1) := by decide +kernel
theorem dX5_putRain_27 : decode cX5_putRain 27 = .ok (.return_, 1) := by decide +kernel
theorem dX5_flowAt_0 : decode cX5_flowAt 0 = .ok (.iconst 0, 1) := by decide +kernel
theorem dX5_flowAt_1 : decode cX5_flowAt 1 = .ok (.istore_n 2, 1) := by decide +kernel
theorem dX5_flowAt_2 : decode cX5_flowAt 2 = .ok (.iconst 0, 1) := by decide +kernel
theorem dX5_flowAt_3 : decode cX5_flowAt 3 = .ok (.istore_n 3, 1) := by decide +kernel
theorem dX5_flowAt_4 : decode cX5_flowAt 4 = .ok (.iload_n 3, 1) := by decide +kernel
theorem dX5_flowAt_5 : decode cX5_flowAt 5 = .ok (.iconst 3, 1) := by decide +kernel
theorem dX5_flowAt_6 : decode cX5_flowAt 6 = .ok (.if_icmp .ge 25, 3) := by decide +kernel
theorem dX5_flowAt_9 : decode cX5_flowAt 9 = .ok (.iload_n 2, 1) := by decide +kernel
theorem dX5_flowAt_10 : decode cX5_flowAt 10 = .ok (.aload_n 0, 1) := by decide +kernel
theorem dX5_flowAt_11 : decode cX5_flowAt 11 = .ok (.iload_n 3, 1) := by decide +kernel
theorem dX5_flowAt_12 : decode cX5_flowAt 12 = .ok (.iload_n 1, 1) := by decide +kernel
theorem dX5_flowAt_13 : decode cX5_flowAt 13 = .ok (.invokevirtual 28, 3) := by decide +kernel
theorem dX5_flowAt_16 : decode cX5_flowAt 16 = .ok (.aload_n 0, 1) := by decide +kernel
theorem dX5_flowAt_17 : decode cX5_flowAt 17 = .ok (.getfield 9, 3) := by decide +kernel
theorem dX5_flowAt_20 : decode cX5_flowAt 20 = .ok (.iload_n 3, 1) := by decide +kernel
theorem dX5_flowAt_21 : decode cX5_flowAt 21 = .ok (.iaload, 1) := by decide +kernel
theorem dX5_flowAt_22 : decode cX5_flowAt 22 = .ok (.imul, 1) := by decide +kernel
theorem dX5_flowAt_23 : decode cX5_flowAt 23 = .ok (.iadd, 1) := by decide +kernel
theorem dX5_flowAt_24 : decode cX5_flowAt 24 = .ok (.istore_n 2, 1) := by decide +kernel
theorem dX5_flowAt_25 : decode cX5_flowAt 25 = .ok (.iinc 3 1, 3) := by decide +kernel
theorem dX5_flowAt_28 : decode cX5_flowAt 28 = .ok (.goto (-24), 3) := by decide +kernel
theorem dX5_flowAt_31 : decode cX5_flowAt 31 = .ok (.iload_n 2, 1) := by decide +kernel
theorem dX5_flowAt_32 : decode cX5_flowAt 32 = .ok (.ireturn, 1) := by decide +kernel
theorem dX5_leading_0 : decode cX5_leading 0 = .ok (.iconst 0, 1) := by decide +kernel
theorem dX5_leading_1 : decode cX5_leading 1 = .ok (.istore_n 2, 1) := by decide +kernel
theorem dX5_leading_2 : decode cX5_leading 2 = .ok (.iconst (-1), 1) := by decide +kernel
theorem dX5_leading_3 : decode cX5_leading 3 = .ok (.istore_n 3, 1) := by decide +kernel
theorem dX5_leading_4 : decode cX5_leading 4 = .ok (.iconst 0, 1) := by decide +kernel
theorem dX5_leading_5 : decode cX5_leading 5 = .ok (.istore 4, 2) := by decide +kernel
theorem dX5_leading_7 : decode cX5_leading 7 = .ok (.iload 4, 2) := by decide +kernel
theorem dX5_leading_9 : decode cX5_leading 9 = .ok (.iconst 3, 1) := by decide +kernel
theorem dX5_leading_10 : decode cX5_leading 10 = .ok (.if_icmp .ge 38, 3) := by decide +kernel
theorem dX5_leading_13 : decode cX5_leading 13 = .ok (.aload_n 0, 1) := by decide +kernel
theorem dX5_leading_14 : decode cX5_leading 14 = .ok (.iload 4, 2) := by decide +kernel
theorem dX5_leading_16 : decode cX5_leading 16 = .ok (.iload_n 1, 1) := by decide +kernel
theorem dX5_leading_17 : decode cX5_leading 17 = .ok (.invokevirtual 28, 3) := by decide +kernel
theorem dX5_leading_20 : decode cX5_leading 20 = .ok (.aload_n 0, 1) := by decide +kernel
theorem dX5_leading_21 : decode cX5_leading 21 = .ok (.getfield 9, 3) := by decide +kernel
theorem dX5_leading_24 : decode cX5_leading 24 = .ok (.iload 4, 2) := by decide +kernel
theorem dX5_leading_26 : decode cX5_leading 26 = .ok (.iaload, 1) := by decide +kernel
theorem dX5_leading_27 : decode cX5_leading 27 = .ok (.imul, 1) := by decide +kernel
theorem dX5_leading_28 : decode cX5_leading 28 = .ok (.istore 5, 2) := by decide +kernel
theorem dX5_leading_30 : decode cX5_leading 30 = .ok (.iload 5, 2) := by decide +kernel
theorem dX5_leading_32 : decode cX5_leading 32 = .ok (.iload_n 2, 1) := by decide +kernel
theorem dX5_leading_33 : decode cX5_leading 33 = .ok (.if_icmp .le 9, 3) := by decide +kernel
theorem dX5_leading_36 : decode cX5_leading 36 = .ok (.iload 5, 2) := by decide +kernel
theorem dX5_leading_38 : decode cX5_leading 38 = .ok (.istore_n 2, 1) := by decide +kernel
theorem dX5_leading_39 : decode cX5_leading 39 = .ok (.iload 4, 2) := by decide +kernel
theorem dX5_leading_41 : decode cX5_leading 41 = .ok (.istore_n 3, 1) := by decide +kernel
theorem dX5_leading_42 : decode cX5_leading 42 = .ok (.iinc 4 1, 3) := by decide +kernel
theorem dX5_leading_45 : decode cX5_leading 45 = .ok (.goto (-38), 3) := by decide +kernel
theorem dX5_leading_48 : decode cX5_leading 48 = .ok (.iload_n 3, 1) := by decide +kernel
theorem dX5_leading_49 : decode cX5_leading 49 = .ok (.ireturn, 1) := by decide +kernel
theorem dX6_init_0 : decode cX6_init 0 = .ok (.aload_n 0, 1) := by decide +kernel
theorem dX6_init_1 : decode cX6_init 1 = .ok (.invokespecial 3, 3) := by decide +kernel
theorem dX6_init_4 : decode cX6_init 4 = .ok (.aload_n 0, 1) := by decide +kernel
theorem dX6_init_5 : decode cX6_init 5 = .ok (.bipush 50, 2) := by decide +kernel
theorem dX6_init_7 : decode cX6_init 7 = .ok (.newarray .int, 2) := by decide +kernel
theorem dX6_init_9 : decode cX6_init 9 = .ok (.putfield 9, 3) := by decide +kernel
theorem dX6_init_12 : decode cX6_init 12 = .ok (.return_, 1) := by decide +kernel
theorem dX6_copyOf_0 : decode cX6_copyOf 0 = .ok (.aload_n 1, 1) := by decide +kernel
theorem dX6_copyOf_1 : decode cX6_copyOf 1 = .ok (.getfield 9, 3) := by decide +kernel
theorem dX6_copyOf_4 : decode cX6_copyOf 4 = .ok (.iconst 0, 1) := by decide +kernel
theorem dX6_copyOf_5 : decode cX6_copyOf 5 = .ok (.aload_n 0, 1) := by decide +kernel
theorem dX6_copyOf_6 : decode cX6_copyOf 6 = .ok (.getfield 9, 3) := by decide +kernel
theorem dX6_copyOf_9 : decode cX6_copyOf 9 = .ok (.iconst 0, 1) := by decide +kernel
theorem dX6_copyOf_10 : decode cX6_copyOf 10 = .ok (.bipush 50, 2) := by decide +kernel
theorem dX6_copyOf_12 : decode cX6_copyOf 12 = .ok (.invokestatic 15, 3) := by decide +kernel
theorem dX6_copyOf_15 : decode cX6_copyOf 15 = .ok (.aload_n 0, 1) := by decide +kernel
theorem dX6_copyOf_16 : decode cX6_copyOf 16 = .ok (.aload_n 1, 1) := by decide +kernel
theorem dX6_copyOf_17 : decode cX6_copyOf 17 = .ok (.getfield 21, 3) := by decide +kernel
theorem dX6_copyOf_20 : decode cX6_copyOf 20 = .ok (.putfield 21, 3) := by decide +kernel
theorem dX6_copyOf_23 : decode cX6_copyOf 23 = .ok (.return_, 1) := by decide +kernel
theorem dX6_append_0 : decode cX6_append 0 = .ok (.iconst 0, 1) := by decide +kernel
theorem dX6_append_1 : decode cX6_append 1 = .ok (.istore 4, 2) := by decide +kernel
theorem dX6_append_3 : decode cX6_append 3 = .ok (.iload 4, 2) := by decide +kernel
theorem dX6_append_5 : decode cX6_append 5 = .ok (.iload_n 3, 1) := by decide +kernel
theorem dX6_append_6 : decode cX6_append 6 = .ok (.if_icmp .ge 49, 3) := by decide +kernel
theorem dX6_append_9 : decode cX6_append 9 = .ok (.aload_n 0, 1) := by decide +kernel
theorem dX6_append_10 : decode cX6_append 10 = .ok (.getfield 21, 3) := by decide +kernel
theorem dX6_append_13 : decode cX6_append 13 = .ok (.bipush 50, 2) := by decide +kernel
theorem dX6_append_15 : decode cX6_append 15 = .ok (.if_icmp .ge 40, 3) := by decide +kernel
theorem dX6_append_18 : decode cX6_append 18 = .ok (.aload_n 0, 1) := by decide +kernel
theorem dX6_append_19 : decode cX6_append 19 = .ok (.getfield 9, 3) := by decide +kernel
theorem dX6_append_22 : decode cX6_append 22 = .ok (.aload_n 0, 1) := by decide +kernel
theorem dX6_append_23 : decode cX6_append 23 = .ok (.getfield 21, 3) := by decide +kernel
theorem dX6_append_26 : decode cX6_append 26 = .ok (.lload_n 1, 1) := by decide +kernel
theorem dX6_append_27 : decode cX6_append 27 = .ok (.bipush 8, 2) := by decide +kernel
theorem dX6_append_29 : decode cX6_append 29 = .ok (.iload 4, 2) := by decide +kernel
theorem dX6_append_31 : decode cX6_append 31 = .ok (.imul, 1) := by decide +kernel
theorem dX6_append_32 : decode cX6_append 32 = .ok (.lushr, 1) := by decide +kernel
theorem dX6_append_33 : decode cX6_append 33 = .ok (.l2i, 1) := by decide +kernel
theorem dX6_append_34 : decode cX6_append 34 = .ok (.sipush 255, 3) := by decide +kernel
theorem dX6_append_37 : decode cX6_append 37 = .ok (.iand, 1) := by decide +kernel
theorem dX6_append_38 : decode cX6_append 38 = .ok (.iastore, 1) := by decide +kernel
theorem dX6_append_39 : decode cX6_append 39 = .ok (.aload_n 0, 1) := by decide +kernel
theorem dX6_append_40 : decode cX6_append 40 = .ok (.dup, 1) := by decide +kernel
theorem dX6_append_41 : decode cX6_append 41 = .ok (.getfield 21, 3) := by decide +kernel
theorem dX6_append_44 : decode cX6_append 44 = .ok (.iconst 1, 1) := by decide +kernel
theorem dX6_append_45 : decode cX6_append 45 = .ok (.iadd, 1) := by decide +kernel
theorem dX6_append_46 : decode cX6_append 46 = .ok (.putfield 21, 3) := by decide +kernel
theorem dX6_append_49 : decode cX6_append 49 = .ok (.iinc 4 1, 3) := by decide +kernel
theorem dX6_append_52 : decode cX6_append 52 = .ok (.goto (-49), 3) := by decide +kernel
theorem dX6_append_55 : decode cX6_append 55 = .ok (.return_, 1) := by decide +kernel
theorem dX6_byteAt_0 : decode cX6_byteAt 0 = .ok (.iload_n 1, 1) := by decide +kernel
theorem dX6_byteAt_1 : decode cX6_byteAt 1 = .ok (.iconst 0, 1) := by decide +kernel
theorem dX6_byteAt_2 : decode cX6_byteAt 2 = .ok (.aload_n 0, 1) := by decide +kernel
theorem dX6_byteAt_3 : decode cX6_byteAt 3 = .ok (.getfield 21, 3) := by decide +kernel
theorem dX6_byteAt_6 : decode cX6_byteAt 6 = .ok (.iconst 1, 1) := by decide +kernel
theorem dX6_byteAt_7 : decode cX6_byteAt 7 = .ok (.isub, 1) := by decide +kernel
theorem dX6_byteAt_8 : decode cX6_byteAt 8 = .ok (.invokestatic 25, 3) := by decide +kernel
theorem dX6_byteAt_11 : decode cX6_byteAt 11 = .ok (.ifCond .eq 18, 3) := by decide +kernel
theorem dX6_byteAt_14 : decode cX6_byteAt 14 = .ok (.iload_n 1, 1) := by decide +kernel
theorem dX6_byteAt_15 : decode cX6_byteAt 15 = .ok (.bipush 50, 2) := by decide +kernel
theorem dX6_byteAt_17 : decode cX6_byteAt 17 = .ok (.if_icmp .ge 12, 3) := by decide +kernel
theorem dX6_byteAt_20 : decode cX6_byteAt 20 = .ok (.aload_n 0, 1) := by decide +kernel
theorem dX6_byteAt_21 : decode cX6_byteAt 21 = .ok (.getfield 9, 3) := by decide +kernel
theorem dX6_byteAt_24 : decode cX6_byteAt 24 = .ok (.iload_n 1, 1) := by decide +kernel
theorem dX6_byteAt_25 : decode cX6_byteAt 25 = .ok (.iaload, 1) := by decide +kernel
theorem dX6_byteAt_26 : decode cX6_byteAt 26 = .ok (.goto 4, 3) := by decide +kernel
theorem dX6_byteAt_29 : decode cX6_byteAt 29 = .ok (.iconst (-1), 1) := by decide +kernel
theorem dX6_byteAt_30 : decode cX6_byteAt 30 = .ok (.ireturn, 1) := by decide +kernel
theorem dX7_init_0 : decode cX7_init 0 = .ok (.aload_n 0, 1) := by decide +kernel
theorem dX7_init_1 : decode cX7_init 1 = .ok (.invokespecial 3, 3) := by decide +kernel
theorem dX7_init_4 : decode cX7_init 4 = .ok (.aload_n 0, 1) := by decide +kernel
theorem dX7_init_5 : decode cX7_init 5 = .ok (.bipush 40, 2) := by decide +kernel
theorem dX7_init_7 : decode cX7_init 7 = .ok (.newarray .int, 2) := by decide +kernel
theorem dX7_init_9 : decode cX7_init 9 = .ok (.putfield 9, 3) := by decide +kernel
theorem dX7_init_12 : decode cX7_init 12 = .ok (.return_, 1) := by decide +kernel
theorem dX7_speak_0 : decode cX7_speak 0 = .ok (.aload_n 0, 1) := by decide +kernel
theorem dX7_speak_1 : decode cX7_speak 1 = .ok (.iconst 0, 1) := by decide +kernel
theorem dX7_speak_2 : decode cX7_speak 2 = .ok (.putfield 15, 3) := by decide +kernel
theorem dX7_speak_5 : decode cX7_speak 5 = .ok (.aload_n 0, 1) := by decide +kernel
theorem dX7_speak_6 : decode cX7_speak 6 = .ok (.aload_n 1, 1) := by decide +kernel
theorem dX7_speak_7 : decode cX7_speak 7 = .ok (.getfield 19, 3) := by decide +kernel
theorem dX7_speak_10 : decode cX7_speak 10 = .ok (.putfield 24, 3) := by decide +kernel
theorem dX7_speak_13 : decode cX7_speak 13 = .ok (.aload_n 0, 1) := by decide +kernel
theorem dX7_speak_14 : decode cX7_speak 14 = .ok (.aload_n 1, 1) := by decide +kernel
theorem dX7_speak_15 : decode cX7_speak 15 = .ok (.getfield 25, 3) := by decide +kernel
theorem dX7_speak_18 : decode cX7_speak 18 = .ok (.putfield 28, 3) := by decide +kernel
theorem dX7_speak_21 : decode cX7_speak 21 = .ok (.aload_n 0, 1) := by decide +kernel
theorem dX7_speak_22 : decode cX7_speak 22 = .ok (.iload_n 2, 1) := by decide +kernel
theorem dX7_speak_23 : decode cX7_speak 23 = .ok (.putfield 29, 3) := by decide +kernel
theorem dX7_speak_26 : decode cX7_speak 26 = .ok (.aload_n 0, 1) := by decide +kernel
theorem dX7_speak_27 : decode cX7_speak 27 = .ok (.aload_n 0, 1) := by decide +kernel
theorem dX7_speak_28 : decode cX7_speak 28 = .ok (.getfield 24, 3) := by decide +kernel
theorem dX7_speak_31 : decode cX7_speak 31 = .ok (.iload_n 3, 1) := by decide +kernel
theorem dX7_speak_32 : decode cX7_speak 32 = .ok (.iload 4, 2) := by decide +kernel
theorem dX7_speak_34 : decode cX7_speak 34 = .ok (.iconst 0, 1) := by decide +kernel
theorem dX7_speak_35 : decode cX7_speak 35 = .ok (.invokevirtual 32, 3) := by decide +kernel
theorem dX7_speak_38 : decode cX7_speak 38 = .ok (.ireturn, 1) := by decide +kernel
theorem dX7_say_0 : decode cX7_say 0 = .ok (.iload 4, 2) := by decide +kernel
theorem dX7_say_2 : decode cX7_say 2 = .ok (.bipush 40, 2) := by decide +kernel
theorem dX7_say_4 : decode cX7_say 4 = .ok (.if_icmp .lt 5, 3) := by decide +kernel
theorem dX7_say_7 : decode cX7_say 7 = .ok (.iconst 0, 1) := by decide +kernel
theorem dX7_say_8 : decode cX7_say 8 = .ok (.ireturn, 1) := by decide +kernel
theorem dX7_say_9 : decode cX7_say 9 = .ok (.iload_n 1, 1) := by decide +kernel
theorem dX7_say_10 : decode cX7_say 10 = .ok (.iload_n 2, 1) := by decide +kernel
theorem dX7_say_11 : decode cX7_say 11 = .ok (.invokestatic 36, 3) := by decide +kernel
theorem dX7_say_14 : decode cX7_say 14 = .ok (.istore 5, 2) := by decide +kernel
theorem dX7_say_16 : decode cX7_say 16 = .ok (.aload_n 0, 1) := by decide +kernel
theorem dX7_say_17 : decode cX7_say 17 = .ok (.getfield 15, 3) := by decide +kernel
theorem dX7_say_20 : decode cX7_say 20 = .ok (.bipush 40, 2) := by decide +kernel
theorem dX7_say_22 : decode cX7_say 22 = .ok (.if_icmp .ge 24, 3) := by decide +kernel
theorem dX7_say_25 : decode cX7_say 25 = .ok (.aload_n 0, 1) := by decide +kernel
theorem dX7_say_26 : decode cX7_say 26 = .ok (.getfield 9, 3) := by decide +kernel
theorem dX7_say_29 : decode cX7_say 29 = .ok (.aload_n 0, 1) := by decide +kernel
theorem dX7_say_30 : decode cX7_say 30 = .ok (.getfield 15, 3) := by decide +kernel
theorem dX7_say_33 : decode cX7_say 33 = .ok (.iload 5, 2) := by decide +kernel
theorem dX7_say_35 : decode cX7_say 35 = .ok (.iastore, 1) := by decide +kernel
theorem dX7_say_36 : decode cX7_say 36 = .ok (.aload_n 0, 1) := by decide +kernel
theorem dX7_say_37 : decode cX7_say 37 = .ok (.dup, 1) := by decide +kernel
theorem dX7_say_38 : decode cX7_say 38 = .ok (.getfield 15, 3) := by decide +kernel
theorem dX7_say_41 : decode cX7_say 41 = .ok (.iconst 1, 1) := by decide +kernel
theorem dX7_say_42 : decode cX7_say 42 = .ok (.iadd, 1) := by decide +kernel
theorem dX7_say_43 : decode cX7_say 43 = .ok (.putfield 15, 3) := by decide +kernel
theorem dX7_say_46 : decode cX7_say 46 = .ok (.aload_n 0, 1) := by decide +kernel
theorem dX7_say_47 : decode cX7_say 47 = .ok (.iload 5, 2) := by decide +kernel
theorem dX7_say_49 : decode cX7_say 49 = .ok (.iload_n 3, 1) := by decide +kernel
theorem dX7_say_50 : decode cX7_say 50 = .ok (.iload 4, 2) := by decide +kernel
theorem dX7_say_52 : decode cX7_say 52 = .ok (.iconst 1, 1) := by decide +kernel
theorem dX7_say_53 : decode cX7_say 53 = .ok (.iadd, 1) := by decide +kernel
theorem dX7_say_54 : decode cX7_say 54 = .ok (.invokevirtual 40, 3) := by decide +kernel
theorem dX7_say_57 : decode cX7_say 57 = .ok (.ireturn, 1) := by decide +kernel
theorem dX7_bodyOf_0 : decode cX7_bodyOf 0 = .ok (.iload_n 0, 1) := by decide +kernel
theorem dX7_bodyOf_1 : decode cX7_bodyOf 1 = .ok (.istore_n 2, 1) := by decide +kernel
theorem dX7_bodyOf_2 : decode cX7_bodyOf 2 = .ok (.iconst 0, 1) := by decide +kernel
theorem dX7_bodyOf_3 : decode cX7_bodyOf 3 = .ok (.istore_n 3, 1) := by decide +kernel
theorem dX7_bodyOf_4 : decode cX7_bodyOf 4 = .ok (.iload_n 3, 1) := by decide +kernel
theorem dX7_bodyOf_5 : decode cX7_bodyOf 5 = .ok (.bipush 7, 2) := by decide +kernel
theorem dX7_bodyOf_7 : decode cX7_bodyOf 7 = .ok (.if_icmp .ge 59, 3) := by decide +kernel
theorem dX7_bodyOf_10 : decode cX7_bodyOf 10 = .ok (.iload_n 2, 1) := by decide +kernel
theorem dX7_bodyOf_11 : decode cX7_bodyOf 11 = .ok (.iconst 0, 1) := by decide +kernel
theorem dX7_bodyOf_12 : decode cX7_bodyOf 12 = .ok (.bipush 6, 2) := by decide +kernel
theorem dX7_bodyOf_14 : decode cX7_bodyOf 14 = .ok (.invokestatic 44, 3) := by decide +kernel
theorem dX7_bodyOf_17 : decode cX7_bodyOf 17 = .ok (.ifCond .eq 49, 3) := by decide +kernel
theorem dX7_bodyOf_20 : decode cX7_bodyOf 20 = .ok (.iload_n 2, 1) := by decide +kernel
theorem dX7_bodyOf_21 : decode cX7_bodyOf 21 = .ok (.iconst 4, 1) := by decide +kernel
theorem dX7_bodyOf_22 : decode cX7_bodyOf 22 = .ok (.imul, 1) := by decide +kernel
theorem dX7_bodyOf_23 : decode cX7_bodyOf 23 = .ok (.iload_n 1, 1) := by decide +kernel
theorem dX7_bodyOf_24 : decode cX7_bodyOf 24 = .ok (.iadd, 1) := by decide +kernel
theorem dX7_bodyOf_25 : decode cX7_bodyOf 25 = .ok (.istore 4, 2) := by decide +kernel
theorem dX7_bodyOf_27 : decode cX7_bodyOf 27 = .ok (.iload 4, 2) := by decide +kernel
theorem dX7_bodyOf_29 : decode cX7_bodyOf 29 = .ok (.iconst 0, 1) := by decide +kernel
theorem dX7_bodyOf_30 : decode cX7_bodyOf 30 = .ok (.bipush 27, 2) := by decide +kernel
theorem dX7_bodyOf_32 : decode cX7_bodyOf 32 = .ok (.invokestatic 44, 3) := by decide +kernel
theorem dX7_bodyOf_35 : decode cX7_bodyOf 35 = .ok (.ifCond .eq 19, 3) := by decide +kernel
theorem dX7_bodyOf_38 : decode cX7_bodyOf 38 = .ok (.getstatic 48, 3) := by decide +kernel
theorem dX7_bodyOf_41 : decode cX7_bodyOf 41 = .ok (.iload 4, 2) := by decide +kernel
theorem dX7_bodyOf_43 : decode cX7_bodyOf 43 = .ok (.iaload, 1) := by decide +kernel
theorem dX7_bodyOf_44 : decode cX7_bodyOf 44 = .ok (.ifCond .eq 10, 3) := by decide +kernel
theorem dX7_bodyOf_47 : decode cX7_bodyOf 47 = .ok (.getstatic 48, 3) := by decide +kernel
theorem dX7_bodyOf_50 : decode cX7_bodyOf 50 = .ok (.iload 4, 2) := by decide +kernel
theorem dX7_bodyOf_52 : decode cX7_bodyOf 52 = .ok (.iaload, 1) := by decide +kernel
theorem dX7_bodyOf_53 : decode cX7_bodyOf 53 = .ok (.ireturn, 1) := by decide +kernel
theorem dX7_bodyOf_54 : decode cX7_bodyOf 54 = .ok (.getstatic 51, 3) := by decide +kernel
theorem dX7_bodyOf_57 : decode cX7_bodyOf 57 = .ok (.iload_n 2, 1) := by decide +kernel
theorem dX7_bodyOf_58 : decode cX7_bodyOf 58 = .ok (.iaload, 1) := by decide +kernel
theorem dX7_bodyOf_59 : decode cX7_bodyOf 59 = .ok (.istore_n 2, 1) := by decide +kernel
theorem dX7_bodyOf_60 : decode cX7_bodyOf 60 = .ok (.iinc 3 1, 3) := by decide +kernel
theorem dX7_bodyOf_63 : decode cX7_bodyOf 63 = .ok (.goto (-59), 3) := by decide +kernel
theorem dX7_bodyOf_66 : decode cX7_bodyOf 66 = .ok (.iconst 0, 1) := by decide +kernel
theorem dX7_bodyOf_67 : decode cX7_bodyOf 67 = .ok (.ireturn, 1) := by decide +kernel
theorem dX7_worked_0 : decode cX7_worked 0 = .ok (.iload_n 1, 1) := by decide +kernel
theorem dX7_worked_1 : decode cX7_worked 1 = .ok (.lookupswitch 276 #[(10, 99), (11, 106), (12, 120), (13, 127), (20, 155), (30, 180), (40, 191), (50, 201), (60, 212), (70, 237), (71, 251)], 99) := by decide +kernel
theorem dX7_worked_100 : decode cX7_worked 100 = .ok (.iload_n 2, 1) := by decide +kernel
theorem dX7_worked_101 : decode cX7_worked 101 = .ok (.aload_n 0, 1) := by decide +kernel
theorem dX7_worked_102 : decode cX7_worked 102 = .ok (.getfield 29, 3) := by decide +kernel
theorem dX7_worked_105 : decode cX7_worked 105 = .ok (.iadd, 1) := by decide +kernel
theorem dX7_worked_106 : decode cX7_worked 106 = .ok (.ireturn, 1) := by decide +kernel
theorem dX7_worked_107 : decode cX7_worked 107 = .ok (.aload_n 0, 1) := by decide +kernel
theorem dX7_worked_108 : decode cX7_worked 108 = .ok (.aload_n 0, 1) := by decide +kernel
theorem dX7_worked_109 : decode cX7_worked 109 = .ok (.getfield 24, 3) := by decide +kernel
theorem dX7_worked_112 : decode cX7_worked 112 = .ok (.iconst 0, 1) := by decide +kernel
theorem dX7_worked_113 : decode cX7_worked 113 = .ok (.iload_n 2, 1) := by decide +kernel
theorem dX7_worked_114 : decode cX7_worked 114 = .ok (.iload_n 3, 1) := by decide +kernel
theorem dX7_worked_115 : decode cX7_worked 115 = .ok (.invokevirtual 32, 3) := by decide +kernel
theorem dX7_worked_118 : decode cX7_worked 118 = .ok (.iconst 2, 1) := by decide +kernel
theorem dX7_worked_119 : decode cX7_worked 119 = .ok (.imul, 1) := by decide +kernel
theorem dX7_worked_120 : decode cX7_worked 120 = .ok (.ireturn, 1) := by decide +kernel
theorem dX7_worked_121 : decode cX7_worked 121 = .ok (.iload_n 2, 1) := by decide +kernel
theorem dX7_worked_122 : decode cX7_worked 122 = .ok (.aload_n 0, 1) := by decide +kernel
theorem dX7_worked_123 : decode cX7_worked 123 = .ok (.getfield 28, 3) := by decide +kernel
theorem dX7_worked_126 : decode cX7_worked 126 = .ok (.isub, 1) := by decide +kernel
theorem dX7_worked_127 : decode cX7_worked 127 = .ok (.ireturn, 1) := by decide +kernel
theorem dX7_worked_128 : decode cX7_worked 128 = .ok (.aload_n 0, 1) := by decide +kernel
theorem dX7_worked_129 : decode cX7_worked 129 = .ok (.aload_n 0, 1) := by decide +kernel
theorem dX7_worked_130 : decode cX7_worked 130 = .ok (.getfield 24, 3) := by decide +kernel
theorem dX7_worked_133 : decode cX7_worked 133 = .ok (.iconst 1, 1) := by decide +kernel
theorem dX7_worked_134 : decode cX7_worked 134 = .ok (.iload_n 2, 1) := by decide +kernel
theorem dX7_worked_135 : decode cX7_worked 135 = .ok (.iload_n 3, 1) := by decide +kernel
theorem dX7_worked_136 : decode cX7_worked 136 = .ok (.invokevirtual 32, 3) := by decide +kernel
theorem dX7_worked_139 : decode cX7_worked 139 = .ok (.istore 4, 2) := by decide +kernel
theorem dX7_worked_141 : decode cX7_worked 141 = .ok (.iload 4, 2) := by decide +kernel
theorem dX7_worked_143 : decode cX7_worked 143 = .ok (.aload_n 0, 1) := by decide +kernel
theorem dX7_worked_144 : decode cX7_worked 144 = .ok (.aload_n 0, 1) := by decide +kernel
theorem dX7_worked_145 : decode cX7_worked 145 = .ok (.getfield 24, 3) := by decide +kernel
theorem dX7_worked_148 : decode cX7_worked 148 = .ok (.iconst 2, 1) := by decide +kernel
theorem dX7_worked_149 : decode cX7_worked 149 = .ok (.iload_n 2, 1) := by decide +kernel
theorem dX7_worked_150 : decode cX7_worked 150 = .ok (.iload_n 3, 1) := by decide +kernel
theorem dX7_worked_151 : decode cX7_worked 151 = .ok (.invokevirtual 32, 3) := by decide +kernel
theorem dX7_worked_154 : decode cX7_worked 154 = .ok (.ixor, 1) := by decide +kernel
theorem dX7_worked_155 : decode cX7_worked 155 = .ok (.ireturn, 1) := by decide +kernel
theorem dX7_worked_156 : decode cX7_worked 156 = .ok (.aload_n 0, 1) := by decide +kernel
theorem dX7_worked_157 : decode cX7_worked 157 = .ok (.iconst 0, 1) := by decide +kernel
theorem dX7_worked_158 : decode cX7_worked 158 = .ok (.iconst 1, 1) := by decide +kernel
theorem dX7_worked_159 : decode cX7_worked 159 = .ok (.iload_n 2, 1) := by decide +kernel
theorem dX7_worked_160 : decode cX7_worked 160 = .ok (.iload_n 3, 1) := by decide +kernel
theorem dX7_worked_161 : decode cX7_worked 161 = .ok (.invokevirtual 32, 3) := by decide +kernel
theorem dX7_worked_164 : decode cX7_worked 164 = .ok (.istore 4, 2) := by decide +kernel
theorem dX7_worked_166 : decode cX7_worked 166 = .ok (.iload 4, 2) := by decide +kernel
theorem dX7_worked_168 : decode cX7_worked 168 = .ok (.aload_n 0, 1) := by decide +kernel
theorem dX7_worked_169 : decode cX7_worked 169 = .ok (.aload_n 0, 1) := by decide +kernel
theorem dX7_worked_170 : decode cX7_worked 170 = .ok (.getfield 24, 3) := by decide +kernel
theorem dX7_worked_173 : decode cX7_worked 173 = .ok (.iconst 2, 1) := by decide +kernel
theorem dX7_worked_174 : decode cX7_worked 174 = .ok (.iconst 1, 1) := by decide +kernel
theorem dX7_worked_175 : decode cX7_worked 175 = .ok (.iload_n 3, 1) := by decide +kernel
theorem dX7_worked_176 : decode cX7_worked 176 = .ok (.invokevirtual 32, 3) := by decide +kernel
theorem dX7_worked_179 : decode cX7_worked 179 = .ok (.isub, 1) := by decide +kernel
theorem dX7_worked_180 : decode cX7_worked 180 = .ok (.ireturn, 1) := by decide +kernel
theorem dX7_worked_181 : decode cX7_worked 181 = .ok (.aload_n 0, 1) := by decide +kernel
theorem dX7_worked_182 : decode cX7_worked 182 = .ok (.iconst 0, 1) := by decide +kernel
theorem dX7_worked_183 : decode cX7_worked 183 = .ok (.iconst 0, 1) := by decide +kernel
theorem dX7_worked_184 : decode cX7_worked 184 = .ok (.iload_n 2, 1) := by decide +kernel
theorem dX7_worked_185 : decode cX7_worked 185 = .ok (.iload_n 3, 1) := by decide +kernel
theorem dX7_worked_186 : decode cX7_worked 186 = .ok (.invokevirtual 32, 3) := by decide +kernel
theorem dX7_worked_189 : decode cX7_worked 189 = .ok (.iconst 3, 1) := by decide +kernel
theorem dX7_worked_190 : decode cX7_worked 190 = .ok (.imul, 1) := by decide +kernel
theorem dX7_worked_191 : decode cX7_worked 191 = .ok (.ireturn, 1) := by decide +kernel
theorem dX7_worked_192 : decode cX7_worked 192 = .ok (.aload_n 0, 1) := by decide +kernel
theorem dX7_worked_193 : decode cX7_worked 193 = .ok (.iconst 0, 1) := by decide +kernel
theorem dX7_worked_194 : decode cX7_worked 194 = .ok (.iconst 2, 1) := by decide +kernel
theorem dX7_worked_195 : decode cX7_worked 195 = .ok (.iload_n 2, 1) := by decide +kernel
theorem dX7_worked_196 : decode cX7_worked 196 = .ok (.iload_n 3, 1) := by decide +kernel
theorem dX7_worked_197 : decode cX7_worked 197 = .ok (.invokevirtual 32, 3) := by decide +kernel
theorem dX7_worked_200 : decode cX7_worked 200 = .ok (.ineg, 1) := by decide +kernel
theorem dX7_worked_201 : decode cX7_worked 201 = .ok (.ireturn, 1) := by decide +kernel
theorem dX7_worked_202 : decode cX7_worked 202 = .ok (.aload_n 0, 1) := by decide +kernel
theorem dX7_worked_203 : decode cX7_worked 203 = .ok (.iconst 1, 1) := by decide +kernel
theorem dX7_worked_204 : decode cX7_worked 204 = .ok (.iconst 1, 1) := by decide +kernel
theorem dX7_worked_205 : decode cX7_worked 205 = .ok (.iload_n 2, 1) := by decide +kernel
theorem dX7_worked_206 : decode cX7_worked 206 = .ok (.iconst 1, 1) := by decide +kernel
theorem dX7_worked_207 : decode cX7_worked 207 = .ok (.iadd, 1) := by decide +kernel
theorem dX7_worked_208 : decode cX7_worked 208 = .ok (.iload_n 3, 1) := by decide +kernel
theorem dX7_worked_209 : decode cX7_worked 209 = .ok (.invokevirtual 32, 3) := by decide +kernel
theorem dX7_worked_212 : decode cX7_worked 212 = .ok (.ireturn, 1) := by decide +kernel
theorem dX7_worked_213 : decode cX7_worked 213 = .ok (.aload_n 0, 1) := by decide +kernel
theorem dX7_worked_214 : decode cX7_worked 214 = .ok (.iconst 2, 1) := by decide +kernel
theorem dX7_worked_215 : decode cX7_worked 215 = .ok (.iconst 3, 1) := by decide +kernel
theorem dX7_worked_216 : decode cX7_worked 216 = .ok (.iload_n 2, 1) := by decide +kernel
theorem dX7_worked_217 : decode cX7_worked 217 = .ok (.iload_n 3, 1) := by decide +kernel
theorem dX7_worked_218 : decode cX7_worked 218 = .ok (.invokevirtual 32, 3) := by decide +kernel
theorem dX7_worked_221 : decode cX7_worked 221 = .ok (.istore 4, 2) := by decide +kernel
theorem dX7_worked_223 : decode cX7_worked 223 = .ok (.iload 4, 2) := by decide +kernel
theorem dX7_worked_225 : decode cX7_worked 225 = .ok (.aload_n 0, 1) := by decide +kernel
theorem dX7_worked_226 : decode cX7_worked 226 = .ok (.aload_n 0, 1) := by decide +kernel
theorem dX7_worked_227 : decode cX7_worked 227 = .ok (.getfield 24, 3) := by decide +kernel
theorem dX7_worked_230 : decode cX7_worked 230 = .ok (.iconst 0, 1) := by decide +kernel
theorem dX7_worked_231 : decode cX7_worked 231 = .ok (.iconst 2, 1) := by decide +kernel
theorem dX7_worked_232 : decode cX7_worked 232 = .ok (.iload_n 3, 1) := by decide +kernel
theorem dX7_worked_233 : decode cX7_worked 233 = .ok (.invokevirtual 32, 3) := by decide +kernel
theorem dX7_worked_236 : decode cX7_worked 236 = .ok (.isub, 1) := by decide +kernel
theorem dX7_worked_237 : decode cX7_worked 237 = .ok (.ireturn, 1) := by decide +kernel
theorem dX7_worked_238 : decode cX7_worked 238 = .ok (.aload_n 0, 1) := by decide +kernel
theorem dX7_worked_239 : decode cX7_worked 239 = .ok (.iconst 3, 1) := by decide +kernel
theorem dX7_worked_240 : decode cX7_worked 240 = .ok (.iconst 2, 1) := by decide +kernel
theorem dX7_worked_241 : decode cX7_worked 241 = .ok (.iload_n 2, 1) := by decide +kernel
theorem dX7_worked_242 : decode cX7_worked 242 = .ok (.iload_n 3, 1) := by decide +kernel
theorem dX7_worked_243 : decode cX7_worked 243 = .ok (.invokevirtual 32, 3) := by decide +kernel
theorem dX7_worked_246 : decode cX7_worked 246 = .ok (.aload_n 0, 1) := by decide +kernel
theorem dX7_worked_247 : decode cX7_worked 247 = .ok (.getfield 29, 3) := by decide +kernel
theorem dX7_worked_250 : decode cX7_worked 250 = .ok (.ixor, 1) := by decide +kernel
theorem dX7_worked_251 : decode cX7_worked 251 = .ok (.ireturn, 1) := by decide +kernel
theorem dX7_worked_252 : decode cX7_worked 252 = .ok (.aload_n 0, 1) := by decide +kernel
theorem dX7_worked_253 : decode cX7_worked 253 = .ok (.aload_n 0, 1) := by decide +kernel
theorem dX7_worked_254 : decode cX7_worked 254 = .ok (.getfield 24, 3) := by decide +kernel
theorem dX7_worked_257 : decode cX7_worked 257 = .ok (.iconst 1, 1) := by decide +kernel
theorem dX7_worked_258 : decode cX7_worked 258 = .ok (.iload_n 2, 1) := by decide +kernel
theorem dX7_worked_259 : decode cX7_worked 259 = .ok (.iload_n 3, 1) := by decide +kernel
theorem dX7_worked_260 : decode cX7_worked 260 = .ok (.invokevirtual 32, 3) := by decide +kernel
theorem dX7_worked_263 : decode cX7_worked 263 = .ok (.istore 4, 2) := by decide +kernel
theorem dX7_worked_265 : decode cX7_worked 265 = .ok (.iload 4, 2) := by decide +kernel
theorem dX7_worked_267 : decode cX7_worked 267 = .ok (.aload_n 0, 1) := by decide +kernel
theorem dX7_worked_268 : decode cX7_worked 268 = .ok (.iconst 3, 1) := by decide +kernel
theorem dX7_worked_269 : decode cX7_worked 269 = .ok (.iconst 3, 1) := by decide +kernel
theorem dX7_worked_270 : decode cX7_worked 270 = .ok (.iload_n 2, 1) := by decide +kernel
theorem dX7_worked_271 : decode cX7_worked 271 = .ok (.iload_n 3, 1) := by decide +kernel
theorem dX7_worked_272 : decode cX7_worked 272 = .ok (.invokevirtual 32, 3) := by decide +kernel
theorem dX7_worked_275 : decode cX7_worked 275 = .ok (.isub, 1) := by decide +kernel
theorem dX7_worked_276 : decode cX7_worked 276 = .ok (.ireturn, 1) := by decide +kernel
theorem dX7_worked_277 : decode cX7_worked 277 = .ok (.iconst 0, 1) := by decide +kernel
theorem dX7_worked_278 : decode cX7_worked 278 = .ok (.ireturn, 1) := by decide +kernel
theorem dX8_init_0 : decode cX8_init 0 = .ok (.aload_n 0, 1) := by decide +kernel
theorem dX8_init_1 : decode cX8_init 1 = .ok (.invokespecial 3, 3) := by decide +kernel
theorem dX8_init_4 : decode cX8_init 4 = .ok (.aload_n 0, 1) := by decide +kernel
theorem dX8_init_5 : decode cX8_init 5 = .ok (.new 9, 3) := by decide +kernel
theorem dX8_init_8 : decode cX8_init 8 = .ok (.dup, 1) := by decide +kernel
theorem dX8_init_9 : decode cX8_init 9 = .ok (.invokespecial 11, 3) := by decide +kernel
theorem dX8_init_12 : decode cX8_init 12 = .ok (.putfield 12, 3) := by decide +kernel
theorem dX8_init_15 : decode cX8_init 15 = .ok (.aload_n 0, 1) := by decide +kernel
theorem dX8_init_16 : decode cX8_init 16 = .ok (.new 18, 3) := by decide +kernel
theorem dX8_init_19 : decode cX8_init 19 = .ok (.dup, 1) := by decide +kernel
theorem dX8_init_20 : decode cX8_init 20 = .ok (.invokespecial 20, 3) := by decide +kernel
theorem dX8_init_23 : decode cX8_init 23 = .ok (.putfield 21, 3) := by decide +kernel
theorem dX8_init_26 : decode cX8_init 26 = .ok (.aload_n 0, 1) := by decide +kernel
theorem dX8_init_27 : decode cX8_init 27 = .ok (.new 25, 3) := by decide +kernel
theorem dX8_init_30 : decode cX8_init 30 = .ok (.dup, 1) := by decide +kernel
theorem dX8_init_31 : decode cX8_init 31 = .ok (.invokespecial 27, 3) := by decide +kernel
theorem dX8_init_34 : decode cX8_init 34 = .ok (.putfield 28, 3) := by decide +kernel
theorem dX8_init_37 : decode cX8_init 37 = .ok (.aload_n 0, 1) := by decide +kernel
theorem dX8_init_38 : decode cX8_init 38 = .ok (.new 25, 3) := by decide +kernel
theorem dX8_init_41 : decode cX8_init 41 = .ok (.dup, 1) := by decide +kernel
theorem dX8_init_42 : decode cX8_init 42 = .ok (.invokespecial 27, 3) := by decide +kernel
theorem dX8_init_45 : decode cX8_init 45 = .ok (.putfield 32, 3) := by decide +kernel
theorem dX8_init_48 : decode cX8_init 48 = .ok (.aload_n 0, 1) := by decide +kernel
theorem dX8_init_49 : decode cX8_init 49 = .ok (.new 35, 3) := by decide +kernel
theorem dX8_init_52 : decode cX8_init 52 = .ok (.dup, 1) := by decide +kernel
theorem dX8_init_53 : decode cX8_init 53 = .ok (.invokespecial 37, 3) := by decide +kernel
theorem dX8_init_56 : decode cX8_init 56 = .ok (.putfield 38, 3) := by decide +kernel
theorem dX8_init_59 : decode cX8_init 59 = .ok (.aload_n 0, 1) := by decide +kernel
theorem dX8_init_60 : decode cX8_init 60 = .ok (.bipush 8, 2) := by decide +kernel
theorem dX8_init_62 : decode cX8_init 62 = .ok (.anewarray 42, 3) := by decide +kernel
theorem dX8_init_65 : decode cX8_init 65 = .ok (.putfield 44, 3) := by decide +kernel
theorem dX8_init_68 : decode cX8_init 68 = .ok (.aload_n 0, 1) := by decide +kernel
theorem dX8_init_69 : decode cX8_init 69 = .ok (.bipush 6, 2) := by decide +kernel
theorem dX8_init_71 : decode cX8_init 71 = .ok (.newarray .int, 2) := by decide +kernel
theorem dX8_init_73 : decode cX8_init 73 = .ok (.dup, 1) := by decide +kernel
theorem dX8_init_74 : decode cX8_init 74 = .ok (.iconst 0, 1) := by decide +kernel
theorem dX8_init_75 : decode cX8_init 75 = .ok (.bipush 100, 2) := by decide +kernel
theorem dX8_init_77 : decode cX8_init 77 = .ok (.iastore, 1) := by decide +kernel
theorem dX8_init_78 : decode cX8_init 78 = .ok (.dup, 1) := by decide +kernel
theorem dX8_init_79 : decode cX8_init 79 = .ok (.iconst 1, 1) := by decide +kernel
theorem dX8_init_80 : decode cX8_init 80 = .ok (.sipush 200, 3) := by decide +kernel
theorem dX8_init_83 : decode cX8_init 83 = .ok (.iastore, 1) := by decide +kernel
theorem dX8_init_84 : decode cX8_init 84 = .ok (.dup, 1) := by decide +kernel
theorem dX8_init_85 : decode cX8_init 85 = .ok (.iconst 2, 1) := by decide +kernel
theorem dX8_init_86 : decode cX8_init 86 = .ok (.sipush 300, 3) := by decide +kernel
theorem dX8_init_89 : decode cX8_init 89 = .ok (.iastore, 1) := by decide +kernel
theorem dX8_init_90 : decode cX8_init 90 = .ok (.dup, 1) := by decide +kernel
theorem dX8_init_91 : decode cX8_init 91 = .ok (.iconst 3, 1) := by decide +kernel
theorem dX8_init_92 : decode cX8_init 92 = .ok (.sipush 400, 3) := by decide +kernel
theorem dX8_init_95 : decode cX8_init 95 = .ok (.iastore, 1) := by decide +kernel
theorem dX8_init_96 : decode cX8_init 96 = .ok (.dup, 1) := by decide +kernel
theorem dX8_init_97 : decode cX8_init 97 = .ok (.iconst 4, 1) := by decide +kernel
theorem dX8_init_98 : decode cX8_init 98 = .ok (.sipush 500, 3) := by decide +kernel
theorem dX8_init_101 : decode cX8_init 101 = .ok (.iastore, 1) := by decide +kernel
theorem dX8_init_102 : decode cX8_init 102 = .ok (.dup, 1) := by decide +kernel
theorem dX8_init_103 : decode cX8_init 103 = .ok (.iconst 5, 1) := by decide +kernel
theorem dX8_init_104 : decode cX8_init 104 = .ok (.sipush 600, 3) := by decide +kernel
theorem dX8_init_107 : decode cX8_init 107 = .ok (.iastore, 1) := by decide +kernel
theorem dX8_init_108 : decode cX8_init 108 = .ok (.putfield 48, 3) := by decide +kernel
theorem dX8_init_111 : decode cX8_init 111 = .ok (.aload_n 0, 1) := by decide +kernel
theorem dX8_init_112 : decode cX8_init 112 = .ok (.bipush 20, 2) := by decide +kernel
theorem dX8_init_114 : decode cX8_init 114 = .ok (.newarray .int, 2) := by decide +kernel
theorem dX8_init_116 : decode cX8_init 116 = .ok (.putfield 52, 3) := by decide +kernel
theorem dX8_init_119 : decode cX8_init 119 = .ok (.aload_n 0, 1) := by decide +kernel
theorem dX8_init_120 : decode cX8_init 120 = .ok (.sipush 300, 3) := by decide +kernel
theorem dX8_init_123 : decode cX8_init 123 = .ok (.putfield 55, 3) := by decide +kernel
theorem dX8_init_126 : decode cX8_init 126 = .ok (.aload_n 0, 1) := by decide +kernel
theorem dX8_init_127 : decode cX8_init 127 = .ok (.iconst 5, 1) := by decide +kernel
theorem dX8_init_128 : decode cX8_init 128 = .ok (.putfield 59, 3) := by decide +kernel
theorem dX8_init_131 : decode cX8_init 131 = .ok (.aload_n 0, 1) := by decide +kernel
theorem dX8_init_132 : decode cX8_init 132 = .ok (.sipush 500, 3) := by decide +kernel
theorem dX8_init_135 : decode cX8_init 135 = .ok (.putfield 62, 3) := by decide +kernel
theorem dX8_init_138 : decode cX8_init 138 = .ok (.aload_n 0, 1) := by decide +kernel
theorem dX8_init_139 : decode cX8_init 139 = .ok (.iconst 1, 1) := by decide +kernel
theorem dX8_init_140 : decode cX8_init 140 = .ok (.putfield 65, 3) := by decide +kernel
theorem dX8_init_143 : decode cX8_init 143 = .ok (.iconst 0, 1) := by decide +kernel
theorem dX8_init_144 : decode cX8_init 144 = .ok (.istore_n 1, 1) := by decide +kernel
theorem dX8_init_145 : decode cX8_init 145 = .ok (.iload_n 1, 1) := by decide +kernel
theorem dX8_init_146 : decode cX8_init 146 = .ok (.bipush 8, 2) := by decide +kernel
theorem dX8_init_148 : decode cX8_init 148 = .ok (.if_icmp .ge 22, 3) := by decide +kernel
theorem dX8_init_151 : decode cX8_init 151 = .ok (.aload_n 0, 1) := by decide +kernel
theorem dX8_init_152 : decode cX8_init 152 = .ok (.getfield 44, 3) := by decide +kernel
theorem dX8_init_155 : decode cX8_init 155 = .ok (.iload_n 1, 1) := by decide +kernel
theorem dX8_init_156 : decode cX8_init 156 = .ok (.new 42, 3) := by decide +kernel
theorem dX8_init_159 : decode cX8_init 159 = .ok (.dup, 1) := by decide +kernel
theorem dX8_init_160 : decode cX8_init 160 = .ok (.invokespecial 68, 3) := by decide +kernel
theorem dX8_init_163 : decode cX8_init 163 = .ok (.aastore, 1) := by decide +kernel
theorem dX8_init_164 : decode cX8_init 164 = .ok (.iinc 1 1, 3) := by decide +kernel
theorem dX8_init_167 : decode cX8_init 167 = .ok (.goto (-22), 3) := by decide +kernel
theorem dX8_init_170 : decode cX8_init 170 = .ok (.return_, 1) := by decide +kernel
theorem dX8_copyOf_0 : decode cX8_copyOf 0 = .ok (.aload_n 0, 1) := by decide +kernel
theorem dX8_copyOf_1 : decode cX8_copyOf 1 = .ok (.getfield 12, 3) := by decide +kernel
theorem dX8_copyOf_4 : decode cX8_copyOf 4 = .ok (.aload_n 1, 1) := by decide +kernel
theorem dX8_copyOf_5 : decode cX8_copyOf 5 = .ok (.getfield 12, 3) := by decide +kernel
theorem dX8_copyOf_8 : decode cX8_copyOf 8 = .ok (.invokevirtual 69, 3) := by decide +kernel
theorem dX8_copyOf_11 : decode cX8_copyOf 11 = .ok (.aload_n 0, 1) := by decide +kernel
theorem dX8_copyOf_12 : decode cX8_copyOf 12 = .ok (.getfield 21, 3) := by decide +kernel
theorem dX8_copyOf_15 : decode cX8_copyOf 15 = .ok (.aload_n 1, 1) := by decide +kernel
theorem dX8_copyOf_16 : decode cX8_copyOf 16 = .ok (.getfield 21, 3) := by decide +kernel
theorem dX8_copyOf_19 : decode cX8_copyOf 19 = .ok (.invokevirtual 73, 3) := by decide +kernel
theorem dX8_copyOf_22 : decode cX8_copyOf 22 = .ok (.aload_n 0, 1) := by decide +kernel
theorem dX8_copyOf_23 : decode cX8_copyOf 23 = .ok (.getfield 28, 3) := by decide +kernel
theorem dX8_copyOf_26 : decode cX8_copyOf 26 = .ok (.aload_n 1, 1) := by decide +kernel
theorem dX8_copyOf_27 : decode cX8_copyOf 27 = .ok (.getfield 28, 3) := by decide +kernel
theorem dX8_copyOf_30 : decode cX8_copyOf 30 = .ok (.invokevirtual 76, 3) := by decide +kernel
theorem dX8_copyOf_33 : decode cX8_copyOf 33 = .ok (.aload_n 0, 1) := by decide +kernel
theorem dX8_copyOf_34 : decode cX8_copyOf 34 = .ok (.getfield 32, 3) := by decide +kernel
theorem dX8_copyOf_37 : decode cX8_copyOf 37 = .ok (.aload_n 1, 1) := by decide +kernel
theorem dX8_copyOf_38 : decode cX8_copyOf 38 = .ok (.getfield 32, 3) := by decide +kernel
theorem dX8_copyOf_41 : decode cX8_copyOf 41 = .ok (.invokevirtual 76, 3) := by decide +kernel
theorem dX8_copyOf_44 : decode cX8_copyOf 44 = .ok (.aload_n 0, 1) := by decide +kernel
theorem dX8_copyOf_45 : decode cX8_copyOf 45 = .ok (.getfield 38, 3) := by decide +kernel
theorem dX8_copyOf_48 : decode cX8_copyOf 48 = .ok (.aload_n 1, 1) := by decide +kernel
theorem dX8_copyOf_49 : decode cX8_copyOf 49 = .ok (.getfield 38, 3) := by decide +kernel
theorem dX8_copyOf_52 : decode cX8_copyOf 52 = .ok (.invokevirtual 79, 3) := by decide +kernel
theorem dX8_copyOf_55 : decode cX8_copyOf 55 = .ok (.iconst 0, 1) := by decide +kernel
theorem dX8_copyOf_56 : decode cX8_copyOf 56 = .ok (.istore_n 2, 1) := by decide +kernel
theorem dX8_copyOf_57 : decode cX8_copyOf 57 = .ok (.iload_n 2, 1) := by decide +kernel
theorem dX8_copyOf_58 : decode cX8_copyOf 58 = .ok (.bipush 8, 2) := by decide +kernel
theorem dX8_copyOf_60 : decode cX8_copyOf 60 = .ok (.if_icmp .ge 24, 3) := by decide +kernel
theorem dX8_copyOf_63 : decode cX8_copyOf 63 = .ok (.aload_n 0, 1) := by decide +kernel
theorem dX8_copyOf_64 : decode cX8_copyOf 64 = .ok (.getfield 44, 3) := by decide +kernel
theorem dX8_copyOf_67 : decode cX8_copyOf 67 = .ok (.iload_n 2, 1) := by decide +kernel
theorem dX8_copyOf_68 : decode cX8_copyOf 68 = .ok (.aaload, 1) := by decide +kernel
theorem dX8_copyOf_69 : decode cX8_copyOf 69 = .ok (.aload_n 1, 1) := by decide +kernel
theorem dX8_copyOf_70 : decode cX8_copyOf 70 = .ok (.getfield 44, 3) := by decide +kernel
theorem dX8_copyOf_73 : decode cX8_copyOf 73 = .ok (.iload_n 2, 1) := by decide +kernel
theorem dX8_copyOf_74 : decode cX8_copyOf 74 = .ok (.aaload, 1) := by decide +kernel
theorem dX8_copyOf_75 : decode cX8_copyOf 75 = .ok (.invokevirtual 82, 3) := by decide +kernel
theorem dX8_copyOf_78 : decode cX8_copyOf 78 = .ok (.iinc 2 1, 3) := by decide +kernel
theorem dX8_copyOf_81 : decode cX8_copyOf 81 = .ok (.goto (-24), 3) := by decide +kernel
theorem dX8_copyOf_84 : decode cX8_copyOf 84 = .ok (.aload_n 0, 1) := by decide +kernel
theorem dX8_copyOf_85 : decode cX8_copyOf 85 = .ok (.aload_n 1, 1) := by decide +kernel
theorem dX8_copyOf_86 : decode cX8_copyOf 86 = .ok (.getfield 85, 3) := by decide +kernel
theorem dX8_copyOf_89 : decode cX8_copyOf 89 = .ok (.putfield 85, 3) := by decide +kernel
theorem dX8_copyOf_92 : decode cX8_copyOf 92 = .ok (.aload_n 1, 1) := by decide +kernel
theorem dX8_copyOf_93 : decode cX8_copyOf 93 = .ok (.getfield 48, 3) := by decide +kernel
theorem dX8_copyOf_96 : decode cX8_copyOf 96 = .ok (.iconst 0, 1) := by decide +kernel
theorem dX8_copyOf_97 : decode cX8_copyOf 97 = .ok (.aload_n 0, 1) := by decide +kernel
theorem dX8_copyOf_98 : decode cX8_copyOf 98 = .ok (.getfield 48, 3) := by decide +kernel
theorem dX8_copyOf_101 : decode cX8_copyOf 101 = .ok (.iconst 0, 1) := by decide +kernel
theorem dX8_copyOf_102 : decode cX8_copyOf 102 = .ok (.bipush 6, 2) := by decide +kernel
theorem dX8_copyOf_104 : decode cX8_copyOf 104 = .ok (.invokestatic 88, 3) := by decide +kernel
theorem dX8_copyOf_107 : decode cX8_copyOf 107 = .ok (.aload_n 1, 1) := by decide +kernel
theorem dX8_copyOf_108 : decode cX8_copyOf 108 = .ok (.getfield 52, 3) := by decide +kernel
theorem dX8_copyOf_111 : decode cX8_copyOf 111 = .ok (.iconst 0, 1) := by decide +kernel
theorem dX8_copyOf_112 : decode cX8_copyOf 112 = .ok (.aload_n 0, 1) := by decide +kernel
theorem dX8_copyOf_113 : decode cX8_copyOf 113 = .ok (.getfield 52, 3) := by decide +kernel
theorem dX8_copyOf_116 : decode cX8_copyOf 116 = .ok (.iconst 0, 1) := by decide +kernel
theorem dX8_copyOf_117 : decode cX8_copyOf 117 = .ok (.bipush 20, 2) := by decide +kernel
theorem dX8_copyOf_119 : decode cX8_copyOf 119 = .ok (.invokestatic 88, 3) := by decide +kernel
theorem dX8_copyOf_122 : decode cX8_copyOf 122 = .ok (.aload_n 0, 1) := by decide +kernel
theorem dX8_copyOf_123 : decode cX8_copyOf 123 = .ok (.aload_n 1, 1) := by decide +kernel
theorem dX8_copyOf_124 : decode cX8_copyOf 124 = .ok (.getfield 94, 3) := by decide +kernel
theorem dX8_copyOf_127 : decode cX8_copyOf 127 = .ok (.putfield 94, 3) := by decide +kernel
theorem dX8_copyOf_130 : decode cX8_copyOf 130 = .ok (.aload_n 0, 1) := by decide +kernel
theorem dX8_copyOf_131 : decode cX8_copyOf 131 = .ok (.aload_n 1, 1) := by decide +kernel
theorem dX8_copyOf_132 : decode cX8_copyOf 132 = .ok (.getfield 97, 3) := by decide +kernel
theorem dX8_copyOf_135 : decode cX8_copyOf 135 = .ok (.putfield 97, 3) := by decide +kernel
theorem dX8_copyOf_138 : decode cX8_copyOf 138 = .ok (.aload_n 0, 1) := by decide +kernel
theorem dX8_copyOf_139 : decode cX8_copyOf 139 = .ok (.aload_n 1, 1) := by decide +kernel
theorem dX8_copyOf_140 : decode cX8_copyOf 140 = .ok (.getfield 55, 3) := by decide +kernel
theorem dX8_copyOf_143 : decode cX8_copyOf 143 = .ok (.putfield 55, 3) := by decide +kernel
theorem dX8_copyOf_146 : decode cX8_copyOf 146 = .ok (.aload_n 0, 1) := by decide +kernel
theorem dX8_copyOf_147 : decode cX8_copyOf 147 = .ok (.aload_n 1, 1) := by decide +kernel
theorem dX8_copyOf_148 : decode cX8_copyOf 148 = .ok (.getfield 59, 3) := by decide +kernel
theorem dX8_copyOf_151 : decode cX8_copyOf 151 = .ok (.putfield 59, 3) := by decide +kernel
theorem dX8_copyOf_154 : decode cX8_copyOf 154 = .ok (.aload_n 0, 1) := by decide +kernel
theorem dX8_copyOf_155 : decode cX8_copyOf 155 = .ok (.aload_n 1, 1) := by decide +kernel
theorem dX8_copyOf_156 : decode cX8_copyOf 156 = .ok (.getfield 100, 3) := by decide +kernel
theorem dX8_copyOf_159 : decode cX8_copyOf 159 = .ok (.putfield 100, 3) := by decide +kernel
theorem dX8_copyOf_162 : decode cX8_copyOf 162 = .ok (.aload_n 0, 1) := by decide +kernel
theorem dX8_copyOf_163 : decode cX8_copyOf 163 = .ok (.aload_n 1, 1) := by decide +kernel
theorem dX8_copyOf_164 : decode cX8_copyOf 164 = .ok (.getfield 103, 3) := by decide +kernel
theorem dX8_copyOf_167 : decode cX8_copyOf 167 = .ok (.putfield 103, 3) := by decide +kernel
theorem dX8_copyOf_170 : decode cX8_copyOf 170 = .ok (.aload_n 0, 1) := by decide +kernel
theorem dX8_copyOf_171 : decode cX8_copyOf 171 = .ok (.aload_n 1, 1) := by decide +kernel
theorem dX8_copyOf_172 : decode cX8_copyOf 172 = .ok (.getfield 106, 3) := by decide +kernel
theorem dX8_copyOf_175 : decode cX8_copyOf 175 = .ok (.putfield 106, 3) := by decide +kernel
theorem dX8_copyOf_178 : decode cX8_copyOf 178 = .ok (.aload_n 0, 1) := by decide +kernel
theorem dX8_copyOf_179 : decode cX8_copyOf 179 = .ok (.aload_n 1, 1) := by decide +kernel
theorem dX8_copyOf_180 : decode cX8_copyOf 180 = .ok (.getfield 109, 3) := by decide +kernel
theorem dX8_copyOf_183 : decode cX8_copyOf 183 = .ok (.putfield 109, 3) := by decide +kernel
theorem dX8_copyOf_186 : decode cX8_copyOf 186 = .ok (.aload_n 0, 1) := by decide +kernel
theorem dX8_copyOf_187 : decode cX8_copyOf 187 = .ok (.aload_n 1, 1) := by decide +kernel
theorem dX8_copyOf_188 : decode cX8_copyOf 188 = .ok (.getfield 62, 3) := by decide +kernel
theorem dX8_copyOf_191 : decode cX8_copyOf 191 = .ok (.putfield 62, 3) := by decide +kernel
theorem dX8_copyOf_194 : decode cX8_copyOf 194 = .ok (.aload_n 0, 1) := by decide +kernel
theorem dX8_copyOf_195 : decode cX8_copyOf 195 = .ok (.aload_n 1, 1) := by decide +kernel
theorem dX8_copyOf_196 : decode cX8_copyOf 196 = .ok (.getfield 65, 3) := by decide +kernel
theorem dX8_copyOf_199 : decode cX8_copyOf 199 = .ok (.putfield 65, 3) := by decide +kernel
theorem dX8_copyOf_202 : decode cX8_copyOf 202 = .ok (.return_, 1) := by decide +kernel
theorem dX8_maySet_0 : decode cX8_maySet 0 = .ok (.iload_n 0, 1) := by decide +kernel
theorem dX8_maySet_1 : decode cX8_maySet 1 = .ok (.tableswitch 94 0 7 #[47, 47, 47, 54, 63, 71, 79, 86], 47) := by decide +kernel
theorem dX8_maySet_48 : decode cX8_maySet 48 = .ok (.iload_n 1, 1) := by decide +kernel
theorem dX8_maySet_49 : decode cX8_maySet 49 = .ok (.iconst 1, 1) := by decide +kernel
theorem dX8_maySet_50 : decode cX8_maySet 50 = .ok (.iconst 5, 1) := by decide +kernel
theorem dX8_maySet_51 : decode cX8_maySet 51 = .ok (.invokestatic 112, 3) := by decide +kernel
theorem dX8_maySet_54 : decode cX8_maySet 54 = .ok (.ireturn, 1) := by decide +kernel
theorem dX8_maySet_55 : decode cX8_maySet 55 = .ok (.iload_n 1, 1) := by decide +kernel
theorem dX8_maySet_56 : decode cX8_maySet 56 = .ok (.iconst 0, 1) := by decide +kernel
theorem dX8_maySet_57 : decode cX8_maySet 57 = .ok (.sipush 600, 3) := by decide +kernel
theorem dX8_maySet_60 : decode cX8_maySet 60 = .ok (.invokestatic 112, 3) := by decide +kernel
theorem dX8_maySet_63 : decode cX8_maySet 63 = .ok (.ireturn, 1) := by decide +kernel
theorem dX8_maySet_64 : decode cX8_maySet 64 = .ok (.iload_n 1, 1) := by decide +kernel
theorem dX8_maySet_65 : decode cX8_maySet 65 = .ok (.iconst 0, 1) := by decide +kernel
theorem dX8_maySet_66 : decode cX8_maySet 66 = .ok (.bipush 90, 2) := by decide +kernel
theorem dX8_maySet_68 : decode cX8_maySet 68 = .ok (.invokestatic 112, 3) := by decide +kernel
theorem dX8_maySet_71 : decode cX8_maySet 71 = .ok (.ireturn, 1) := by decide +kernel
theorem dX8_maySet_72 : decode cX8_maySet 72 = .ok (.iload_n 1, 1) := by decide +kernel
theorem dX8_maySet_73 : decode cX8_maySet 73 = .ok (.iconst 0, 1) := by decide +kernel
theorem dX8_maySet_74 : decode cX8_maySet 74 = .ok (.bipush 90, 2) := by decide +kernel
theorem dX8_maySet_76 : decode cX8_maySet 76 = .ok (.invokestatic 112, 3) := by decide +kernel
theorem dX8_maySet_79 : decode cX8_maySet 79 = .ok (.ireturn, 1) := by decide +kernel
theorem dX8_maySet_80 : decode cX8_maySet 80 = .ok (.iload_n 1, 1) := by decide +kernel
theorem dX8_maySet_81 : decode cX8_maySet 81 = .ok (.iconst 0, 1) := by decide +kernel
theorem dX8_maySet_82 : decode cX8_maySet 82 = .ok (.iconst 1, 1) := by decide +kernel
theorem dX8_maySet_83 : decode cX8_maySet 83 = .ok (.invokestatic 112, 3) := by decide +kernel
theorem dX8_maySet_86 : decode cX8_maySet 86 = .ok (.ireturn, 1) := by decide +kernel
theorem dX8_maySet_87 : decode cX8_maySet 87 = .ok (.iload_n 1, 1) := by decide +kernel
theorem dX8_maySet_88 : decode cX8_maySet 88 = .ok (.iconst 1, 1) := by decide +kernel
theorem dX8_maySet_89 : decode cX8_maySet 89 = .ok (.ldc 116, 2) := by decide +kernel
theorem dX8_maySet_91 : decode cX8_maySet 91 = .ok (.invokestatic 112, 3) := by decide +kernel
theorem dX8_maySet_94 : decode cX8_maySet 94 = .ok (.ireturn, 1) := by decide +kernel
theorem dX8_maySet_95 : decode cX8_maySet 95 = .ok (.iconst 0, 1) := by decide +kernel
theorem dX8_maySet_96 : decode cX8_maySet 96 = .ok (.ireturn, 1) := by decide +kernel
theorem dX8_setting_0 : decode cX8_setting 0 = .ok (.iload_n 1, 1) := by decide +kernel
theorem dX8_setting_1 : decode cX8_setting 1 = .ok (.tableswitch 60 3 7 #[35, 40, 45, 50, 55], 35) := by decide +kernel
theorem dX8_setting_36 : decode cX8_setting 36 = .ok (.aload_n 0, 1) := by decide +kernel
theorem dX8_setting_37 : decode cX8_setting 37 = .ok (.getfield 55, 3) := by decide +kernel
theorem dX8_setting_40 : decode cX8_setting 40 = .ok (.ireturn, 1) := by decide +kernel
theorem dX8_setting_41 : decode cX8_setting 41 = .ok (.aload_n 0, 1) := by decide +kernel
theorem dX8_setting_42 : decode cX8_setting 42 = .ok (.getfield 59, 3) := by decide +kernel
theorem dX8_setting_45 : decode cX8_setting 45 = .ok (.ireturn, 1) := by decide +kernel
theorem dX8_setting_46 : decode cX8_setting 46 = .ok (.aload_n 0, 1) := by decide +kernel
theorem dX8_setting_47 : decode cX8_setting 47 = .ok (.getfield 103, 3) := by decide +kernel
theorem dX8_setting_50 : decode cX8_setting 50 = .ok (.ireturn, 1) := by decide +kernel
theorem dX8_setting_51 : decode cX8_setting 51 = .ok (.aload_n 0, 1) := by decide +kernel
theorem dX8_setting_52 : decode cX8_setting 52 = .ok (.getfield 106, 3) := by decide +kernel
theorem dX8_setting_55 : decode cX8_setting 55 = .ok (.ireturn, 1) := by decide +kernel
theorem dX8_setting_56 : decode cX8_setting 56 = .ok (.aload_n 0, 1) := by decide +kernel
theorem dX8_setting_57 : decode cX8_setting 57 = .ok (.getfield 62, 3) := by decide +kernel
theorem dX8_setting_60 : decode cX8_setting 60 = .ok (.ireturn, 1) := by decide +kernel
theorem dX8_setting_61 : decode cX8_setting 61 = .ok (.iload_n 1, 1) := by decide +kernel
theorem dX8_setting_62 : decode cX8_setting 62 = .ok (.iconst 0, 1) := by decide +kernel
theorem dX8_setting_63 : decode cX8_setting 63 = .ok (.iconst 2, 1) := by decide +kernel
theorem dX8_setting_64 : decode cX8_setting 64 = .ok (.invokestatic 112, 3) := by decide +kernel
theorem dX8_setting_67 : decode cX8_setting 67 = .ok (.ifCond .eq 15, 3) := by decide +kernel
theorem dX8_setting_70 : decode cX8_setting 70 = .ok (.aload_n 0, 1) := by decide +kernel
theorem dX8_setting_71 : decode cX8_setting 71 = .ok (.getfield 12, 3) := by decide +kernel
theorem dX8_setting_74 : decode cX8_setting 74 = .ok (.getfield 117, 3) := by decide +kernel
theorem dX8_setting_77 : decode cX8_setting 77 = .ok (.iload_n 1, 1) := by decide +kernel
theorem dX8_setting_78 : decode cX8_setting 78 = .ok (.iaload, 1) := by decide +kernel
theorem dX8_setting_79 : decode cX8_setting 79 = .ok (.goto 4, 3) := by decide +kernel
theorem dX8_setting_82 : decode cX8_setting 82 = .ok (.iconst 0, 1) := by decide +kernel
theorem dX8_setting_83 : decode cX8_setting 83 = .ok (.ireturn, 1) := by decide +kernel
theorem dX8_putSetting_0 : decode cX8_putSetting 0 = .ok (.iload_n 1, 1) := by decide +kernel
theorem dX8_putSetting_1 : decode cX8_putSetting 1 = .ok (.tableswitch 75 3 7 #[35, 43, 51, 59, 67], 35) := by decide +kernel
theorem dX8_putSetting_36 : decode cX8_putSetting 36 = .ok (.aload_n 0, 1) := by decide +kernel
theorem dX8_putSetting_37 : decode cX8_putSetting 37 = .ok (.iload_n 2, 1) := by decide +kernel
theorem dX8_putSetting_38 : decode cX8_putSetting 38 = .ok (.putfield 55, 3) := by decide +kernel
theorem dX8_putSetting_41 : decode cX8_putSetting 41 = .ok (.goto 54, 3) := by decide +kernel
theorem dX8_putSetting_44 : decode cX8_putSetting 44 = .ok (.aload_n 0, 1) := by decide +kernel
theorem dX8_putSetting_45 : decode cX8_putSetting 45 = .ok (.iload_n 2, 1) := by decide +kernel
theorem dX8_putSetting_46 : decode cX8_putSetting 46 = .ok (.putfield 59, 3) := by decide +kernel
theorem dX8_putSetting_49 : decode cX8_putSetting 49 = .ok (.goto 46, 3) := by decide +kernel
theorem dX8_putSetting_52 : decode cX8_putSetting 52 = .ok (.aload_n 0, 1) := by decide +kernel
theorem dX8_putSetting_53 : decode cX8_putSetting 53 = .ok (.iload_n 2, 1) := by decide +kernel
theorem dX8_putSetting_54 : decode cX8_putSetting 54 = .ok (.putfield 103, 3) := by decide +kernel
theorem dX8_putSetting_57 : decode cX8_putSetting 57 = .ok (.goto 38, 3) := by decide +kernel
theorem dX8_putSetting_60 : decode cX8_putSetting 60 = .ok (.aload_n 0, 1) := by decide +kernel
theorem dX8_putSetting_61 : decode cX8_putSetting 61 = .ok (.iload_n 2, 1) := by decide +kernel
theorem dX8_putSetting_62 : decode cX8_putSetting 62 = .ok (.putfield 106, 3) := by decide +kernel
theorem dX8_putSetting_65 : decode cX8_putSetting 65 = .ok (.goto 30, 3) := by decide +kernel
theorem dX8_putSetting_68 : decode cX8_putSetting 68 = .ok (.aload_n 0, 1) := by decide +kernel
theorem dX8_putSetting_69 : decode cX8_putSetting 69 = .ok (.iload_n 2, 1) := by decide +kernel
theorem dX8_putSetting_70 : decode cX8_putSetting 70 = .ok (.putfield 62, 3) := by decide +kernel
theorem dX8_putSetting_73 : decode cX8_putSetting 73 = .ok (.goto 22, 3) := by decide +kernel
theorem dX8_putSetting_76 : decode cX8_putSetting 76 = .ok (.iload_n 1, 1) := by decide +kernel
theorem dX8_putSetting_77 : decode cX8_putSetting 77 = .ok (.iconst 0, 1) := by decide +kernel
theorem dX8_putSetting_78 : decode cX8_putSetting 78 = .ok (.iconst 2, 1) := by decide +kernel
theorem dX8_putSetting_79 : decode cX8_putSetting 79 = .ok (.invokestatic 112, 3) := by decide +kernel
theorem dX8_putSetting_82 : decode cX8_putSetting 82 = .ok (.ifCond .eq 13, 3) := by decide +kernel
theorem dX8_putSetting_85 : decode cX8_putSetting 85 = .ok (.aload_n 0, 1) := by decide +kernel
theorem dX8_putSetting_86 : decode cX8_putSetting 86 = .ok (.getfield 12, 3) := by decide +kernel
theorem dX8_putSetting_89 : decode cX8_putSetting 89 = .ok (.getfield 117, 3) := by decide +kernel
theorem dX8_putSetting_92 : decode cX8_putSetting 92 = .ok (.iload_n 1, 1) := by decide +kernel
theorem dX8_putSetting_93 : decode cX8_putSetting 93 = .ok (.iload_n 2, 1) := by decide +kernel
theorem dX8_putSetting_94 : decode cX8_putSetting 94 = .ok (.iastore, 1) := by decide +kernel
theorem dX8_putSetting_95 : decode cX8_putSetting 95 = .ok (.return_, 1) := by decide +kernel
theorem dX8_reading_0 : decode cX8_reading 0 = .ok (.iload_n 1, 1) := by decide +kernel
theorem dX8_reading_1 : decode cX8_reading 1 = .ok (.tableswitch 142 0 11 #[63, 68, 77, 82, 91, 96, 101, 106, 111, 124, 129, 137], 63) := by decide +kernel
theorem dX8_reading_64 : decode cX8_reading 64 = .ok (.aload_n 0, 1) := by decide +kernel
theorem dX8_reading_65 : decode cX8_reading 65 = .ok (.invokevirtual 120, 3) := by decide +kernel
theorem dX8_reading_68 : decode cX8_reading 68 = .ok (.ireturn, 1) := by decide +kernel
theorem dX8_reading_69 : decode cX8_reading 69 = .ok (.aload_n 0, 1) := by decide +kernel
theorem dX8_reading_70 : decode cX8_reading 70 = .ok (.aload_n 0, 1) := by decide +kernel
theorem dX8_reading_71 : decode cX8_reading 71 = .ok (.invokevirtual 120, 3) := by decide +kernel
theorem dX8_reading_74 : decode cX8_reading 74 = .ok (.invokevirtual 124, 3) := by decide +kernel
theorem dX8_reading_77 : decode cX8_reading 77 = .ok (.ireturn, 1) := by decide +kernel
theorem dX8_reading_78 : decode cX8_reading 78 = .ok (.aload_n 0, 1) := by decide +kernel
theorem dX8_reading_79 : decode cX8_reading 79 = .ok (.invokevirtual 128, 3) := by decide +kernel
theorem dX8_reading_82 : decode cX8_reading 82 = .ok (.ireturn, 1) := by decide +kernel
theorem dX8_reading_83 : decode cX8_reading 83 = .ok (.aload_n 0, 1) := by decide +kernel
theorem dX8_reading_84 : decode cX8_reading 84 = .ok (.aload_n 0, 1) := by decide +kernel
theorem dX8_reading_85 : decode cX8_reading 85 = .ok (.invokevirtual 128, 3) := by decide +kernel
theorem dX8_reading_88 : decode cX8_reading 88 = .ok (.invokevirtual 131, 3) := by decide +kernel
theorem dX8_reading_91 : decode cX8_reading 91 = .ok (.ireturn, 1) := by decide +kernel
theorem dX8_reading_92 : decode cX8_reading 92 = .ok (.aload_n 0, 1) := by decide +kernel
theorem dX8_reading_93 : decode cX8_reading 93 = .ok (.getfield 55, 3) := by decide +kernel
theorem dX8_reading_96 : decode cX8_reading 96 = .ok (.ireturn, 1) := by decide +kernel
theorem dX8_reading_97 : decode cX8_reading 97 = .ok (.aload_n 0, 1) := by decide +kernel
theorem dX8_reading_98 : decode cX8_reading 98 = .ok (.getfield 59, 3) := by decide +kernel
theorem dX8_reading_101 : decode cX8_reading 101 = .ok (.ireturn, 1) := by decide +kernel
theorem dX8_reading_102 : decode cX8_reading 102 = .ok (.aload_n 0, 1) := by decide +kernel
theorem dX8_reading_103 : decode cX8_reading 103 = .ok (.getfield 103, 3) := by decide +kernel
theorem dX8_reading_106 : decode cX8_reading 106 = .ok (.ireturn, 1) := by decide +kernel
theorem dX8_reading_107 : decode cX8_reading 107 = .ok (.aload_n 0, 1) := by decide +kernel
theorem dX8_reading_108 : decode cX8_reading 108 = .ok (.getfield 109, 3) := by decide +kernel
theorem dX8_reading_111 : decode cX8_reading 111 = .ok (.ireturn, 1) := by decide +kernel
theorem dX8_reading_112 : decode cX8_reading 112 = .ok (.aload_n 0, 1) := by decide +kernel
theorem dX8_reading_113 : decode cX8_reading 113 = .ok (.invokevirtual 134, 3) := by decide +kernel
theorem dX8_reading_116 : decode cX8_reading 116 = .ok (.ifCond .eq 7, 3) := by decide +kernel
theorem dX8_reading_119 : decode cX8_reading 119 = .ok (.iconst 1, 1) := by decide +kernel
theorem dX8_reading_120 : decode cX8_reading 120 = .ok (.goto 4, 3) := by decide +kernel
theorem dX8_reading_123 : decode cX8_reading 123 = .ok (.iconst 0, 1) := by decide +kernel
theorem dX8_reading_124 : decode cX8_reading 124 = .ok (.ireturn, 1) := by decide +kernel
theorem dX8_reading_125 : decode cX8_reading 125 = .ok (.aload_n 0, 1) := by decide +kernel
theorem dX8_reading_126 : decode cX8_reading 126 = .ok (.getfield 100, 3) := by decide +kernel
theorem dX8_reading_129 : decode cX8_reading 129 = .ok (.ireturn, 1) := by decide +kernel
theorem dX8_reading_130 : decode cX8_reading 130 = .ok (.aload_n 0, 1) := by decide +kernel
theorem dX8_reading_131 : decode cX8_reading 131 = .ok (.getfield 21, 3) := by decide +kernel
theorem dX8_reading_134 : decode cX8_reading 134 = .ok (.getfield 138, 3) := by decide +kernel
theorem dX8_reading_137 : decode cX8_reading 137 = .ok (.ireturn, 1) := by decide +kernel
theorem dX8_reading_138 : decode cX8_reading 138 = .ok (.aload_n 0, 1) := by decide +kernel
theorem dX8_reading_139 : decode cX8_reading 139 = .ok (.getfield 106, 3) := by decide +kernel
theorem dX8_reading_142 : decode cX8_reading 142 = .ok (.ireturn, 1) := by decide +kernel
theorem dX8_reading_143 : decode cX8_reading 143 = .ok (.aload_n 0, 1) := by decide +kernel
theorem dX8_reading_144 : decode cX8_reading 144 = .ok (.getfield 62, 3) := by decide +kernel
theorem dX8_reading_147 : decode cX8_reading 147 = .ok (.ireturn, 1) := by decide +kernel
theorem dX8_hourOfDay_0 : decode cX8_hourOfDay 0 = .ok (.aload_n 0, 1) := by decide +kernel
theorem dX8_hourOfDay_1 : decode cX8_hourOfDay 1 = .ok (.getfield 97, 3) := by decide +kernel
theorem dX8_hourOfDay_4 : decode cX8_hourOfDay 4 = .ok (.bipush 24, 2) := by decide +kernel
theorem dX8_hourOfDay_6 : decode cX8_hourOfDay 6 = .ok (.invokestatic 141, 3) := by decide +kernel
theorem dX8_hourOfDay_9 : decode cX8_hourOfDay 9 = .ok (.ireturn, 1) := by decide +kernel
theorem dX8_flow_0 : decode cX8_flow 0 = .ok (.aload_n 0, 1) := by decide +kernel
theorem dX8_flow_1 : decode cX8_flow 1 = .ok (.getfield 12, 3) := by decide +kernel
theorem dX8_flow_4 : decode cX8_flow 4 = .ok (.aload_n 0, 1) := by decide +kernel
theorem dX8_flow_5 : decode cX8_flow 5 = .ok (.invokevirtual 147, 3) := by decide +kernel
theorem dX8_flow_8 : decode cX8_flow 8 = .ok (.invokevirtual 150, 3) := by decide +kernel
theorem dX8_flow_11 : decode cX8_flow 11 = .ok (.ireturn, 1) := by decide +kernel
theorem dX8_currentOf_0 : decode cX8_currentOf 0 = .ok (.iconst 0, 1) := by decide +kernel
theorem dX8_currentOf_1 : decode cX8_currentOf 1 = .ok (.iload_n 1, 1) := by decide +kernel
theorem dX8_currentOf_2 : decode cX8_currentOf 2 = .ok (.aload_n 0, 1) := by decide +kernel
theorem dX8_currentOf_3 : decode cX8_currentOf 3 = .ok (.getfield 55, 3) := by decide +kernel
theorem dX8_currentOf_6 : decode cX8_currentOf 6 = .ok (.bipush 60, 2) := by decide +kernel
theorem dX8_currentOf_8 : decode cX8_currentOf 8 = .ok (.idiv, 1) := by decide +kernel
theorem dX8_currentOf_9 : decode cX8_currentOf 9 = .ok (.isub, 1) := by decide +kernel
theorem dX8_currentOf_10 : decode cX8_currentOf 10 = .ok (.invokestatic 153, 3) := by decide +kernel
theorem dX8_currentOf_13 : decode cX8_currentOf 13 = .ok (.ireturn, 1) := by decide +kernel
theorem dX8_stands_0 : decode cX8_stands 0 = .ok (.aload_n 0, 1) := by decide +kernel
theorem dX8_stands_1 : decode cX8_stands 1 = .ok (.getfield 109, 3) := by decide +kernel
theorem dX8_stands_4 : decode cX8_stands 4 = .ok (.aload_n 0, 1) := by decide +kernel
theorem dX8_stands_5 : decode cX8_stands 5 = .ok (.getfield 62, 3) := by decide +kernel
theorem dX8_stands_8 : decode cX8_stands 8 = .ok (.if_icmp .ge 7, 3) := by decide +kernel
theorem dX8_stands_11 : decode cX8_stands 11 = .ok (.iconst 1, 1) := by decide +kernel
theorem dX8_stands_12 : decode cX8_stands 12 = .ok (.goto 4, 3) := by decide +kernel
theorem dX8_stands_15 : decode cX8_stands 15 = .ok (.iconst 0, 1) := by decide +kernel
theorem dX8_stands_16 : decode cX8_stands 16 = .ok (.ireturn, 1) := by decide +kernel
theorem dX8_strikes_0 : decode cX8_strikes 0 = .ok (.aload_n 0, 1) := by decide +kernel
theorem dX8_strikes_1 : decode cX8_strikes 1 = .ok (.aload_n 0, 1) := by decide +kernel
theorem dX8_strikes_2 : decode cX8_strikes 2 = .ok (.aload_n 0, 1) := by decide +kernel
theorem dX8_strikes_3 : decode cX8_strikes 3 = .ok (.invokevirtual 120, 3) := by decide +kernel
theorem dX8_strikes_6 : decode cX8_strikes 6 = .ok (.invokevirtual 124, 3) := by decide +kernel
theorem dX8_strikes_9 : decode cX8_strikes 9 = .ok (.invokevirtual 156, 3) := by decide +kernel
theorem dX8_strikes_12 : decode cX8_strikes 12 = .ok (.ireturn, 1) := by decide +kernel
theorem dX8_strikesBy_0 : decode cX8_strikesBy 0 = .ok (.aload_n 0, 1) := by decide +kernel
theorem dX8_strikesBy_1 : decode cX8_strikesBy 1 = .ok (.getfield 106, 3) := by decide +kernel
theorem dX8_strikesBy_4 : decode cX8_strikesBy 4 = .ok (.ifCond .ne 10, 3) := by decide +kernel
theorem dX8_strikesBy_7 : decode cX8_strikesBy 7 = .ok (.aload_n 0, 1) := by decide +kernel
theorem dX8_strikesBy_8 : decode cX8_strikesBy 8 = .ok (.invokevirtual 134, 3) := by decide +kernel
theorem dX8_strikesBy_11 : decode cX8_strikesBy 11 = .ok (.ifCond .ne 7, 3) := by decide +kernel
theorem dX8_strikesBy_14 : decode cX8_strikesBy 14 = .ok (.iconst 0, 1) := by decide +kernel
theorem dX8_strikesBy_15 : decode cX8_strikesBy 15 = .ok (.goto 16, 3) := by decide +kernel
theorem dX8_strikesBy_18 : decode cX8_strikesBy 18 = .ok (.aload_n 0, 1) := by decide +kernel
theorem dX8_strikesBy_19 : decode cX8_strikesBy 19 = .ok (.iload_n 1, 1) := by decide +kernel
theorem dX8_strikesBy_20 : decode cX8_strikesBy 20 = .ok (.aload_n 0, 1) := by decide +kernel
theorem dX8_strikesBy_21 : decode cX8_strikesBy 21 = .ok (.getfield 103, 3) := by decide +kernel
theorem dX8_strikesBy_24 : decode cX8_strikesBy 24 = .ok (.aload_n 0, 1) := by decide +kernel
theorem dX8_strikesBy_25 : decode cX8_strikesBy 25 = .ok (.getfield 55, 3) := by decide +kernel
theorem dX8_strikesBy_28 : decode cX8_strikesBy 28 = .ok (.invokevirtual 159, 3) := by decide +kernel
theorem dX8_strikesBy_31 : decode cX8_strikesBy 31 = .ok (.ireturn, 1) := by decide +kernel
theorem dX8_noteOf_0 : decode cX8_noteOf 0 = .ok (.iload_n 1, 1) := by decide +kernel
theorem dX8_noteOf_1 : decode cX8_noteOf 1 = .ok (.ifCond .ne 7, 3) := by decide +kernel
theorem dX8_noteOf_4 : decode cX8_noteOf 4 = .ok (.iconst 0, 1) := by decide +kernel
theorem dX8_noteOf_5 : decode cX8_noteOf 5 = .ok (.goto 17, 3) := by decide +kernel
theorem dX8_noteOf_8 : decode cX8_noteOf 8 = .ok (.iconst 1, 1) := by decide +kernel
theorem dX8_noteOf_9 : decode cX8_noteOf 9 = .ok (.aload_n 0, 1) := by decide +kernel
theorem dX8_noteOf_10 : decode cX8_noteOf 10 = .ok (.getfield 103, 3) := by decide +kernel
theorem dX8_noteOf_13 : decode cX8_noteOf 13 = .ok (.bipush 10, 2) := by decide +kernel
theorem dX8_noteOf_15 : decode cX8_noteOf 15 = .ok (.idiv, 1) := by decide +kernel
theorem dX8_noteOf_16 : decode cX8_noteOf 16 = .ok (.iload_n 1, 1) := by decide +kernel
theorem dX8_noteOf_17 : decode cX8_noteOf 17 = .ok (.iadd, 1) := by decide +kernel
theorem dX8_noteOf_18 : decode cX8_noteOf 18 = .ok (.bipush 9, 2) := by decide +kernel
theorem dX8_noteOf_20 : decode cX8_noteOf 20 = .ok (.irem, 1) := by decide +kernel
theorem dX8_noteOf_21 : decode cX8_noteOf 21 = .ok (.iadd, 1) := by decide +kernel
theorem dX8_noteOf_22 : decode cX8_noteOf 22 = .ok (.ireturn, 1) := by decide +kernel
theorem dX8_rung_0 : decode cX8_rung 0 = .ok (.aload_n 0, 1) := by decide +kernel
theorem dX8_rung_1 : decode cX8_rung 1 = .ok (.getfield 28, 3) := by decide +kernel
theorem dX8_rung_4 : decode cX8_rung 4 = .ok (.invokevirtual 163, 3) := by decide +kernel
theorem dX8_rung_7 : decode cX8_rung 7 = .ok (.ifCond .eq 16, 3) := by decide +kernel
theorem dX8_rung_10 : decode cX8_rung 10 = .ok (.aload_n 0, 1) := by decide +kernel
theorem dX8_rung_11 : decode cX8_rung 11 = .ok (.getfield 28, 3) := by decide +kernel
theorem dX8_rung_14 : decode cX8_rung 14 = .ok (.iload_n 1, 1) := by decide +kernel
theorem dX8_rung_15 : decode cX8_rung 15 = .ok (.iload_n 2, 1) := by decide +kernel
theorem dX8_rung_16 : decode cX8_rung 16 = .ok (.iload_n 3, 1) := by decide +kernel
theorem dX8_rung_17 : decode cX8_rung 17 = .ok (.invokevirtual 166, 3) := by decide +kernel
theorem dX8_rung_20 : decode cX8_rung 20 = .ok (.goto 11, 3) := by decide +kernel
theorem dX8_rung_23 : decode cX8_rung 23 = .ok (.iload_n 1, 1) := by decide +kernel
theorem dX8_rung_24 : decode cX8_rung 24 = .ok (.iconst 4, 1) := by decide +kernel
theorem dX8_rung_25 : decode cX8_rung 25 = .ok (.isub, 1) := by decide +kernel
theorem dX8_rung_26 : decode cX8_rung 26 = .ok (.iload_n 2, 1) := by decide +kernel
theorem dX8_rung_27 : decode cX8_rung 27 = .ok (.bipush 10, 2) := by decide +kernel
theorem dX8_rung_29 : decode cX8_rung 29 = .ok (.idiv, 1) := by decide +kernel
theorem dX8_rung_30 : decode cX8_rung 30 = .ok (.isub, 1) := by decide +kernel
theorem dX8_rung_31 : decode cX8_rung 31 = .ok (.istore 4, 2) := by decide +kernel
theorem dX8_rung_33 : decode cX8_rung 33 = .ok (.iload 4, 2) := by decide +kernel
theorem dX8_rung_35 : decode cX8_rung 35 = .ok (.iconst 0, 1) := by decide +kernel
theorem dX8_rung_36 : decode cX8_rung 36 = .ok (.bipush 20, 2) := by decide +kernel
theorem dX8_rung_38 : decode cX8_rung 38 = .ok (.invokestatic 169, 3) := by decide +kernel
theorem dX8_rung_41 : decode cX8_rung 41 = .ok (.ireturn, 1) := by decide +kernel
theorem dX8_letOut_0 : decode cX8_letOut 0 = .ok (.aload_n 0, 1) := by decide +kernel
theorem dX8_letOut_1 : decode cX8_letOut 1 = .ok (.getfield 32, 3) := by decide +kernel
theorem dX8_letOut_4 : decode cX8_letOut 4 = .ok (.invokevirtual 163, 3) := by decide +kernel
theorem dX8_letOut_7 : decode cX8_letOut 7 = .ok (.ifCond .eq 16, 3) := by decide +kernel
theorem dX8_letOut_10 : decode cX8_letOut 10 = .ok (.aload_n 0, 1) := by decide +kernel
theorem dX8_letOut_11 : decode cX8_letOut 11 = .ok (.getfield 32, 3) := by decide +kernel
theorem dX8_letOut_14 : decode cX8_letOut 14 = .ok (.iload_n 1, 1) := by decide +kernel
theorem dX8_letOut_15 : decode cX8_letOut 15 = .ok (.iload_n 2, 1) := by decide +kernel
theorem dX8_letOut_16 : decode cX8_letOut 16 = .ok (.iload_n 3, 1) := by decide +kernel
theorem dX8_letOut_17 : decode cX8_letOut 17 = .ok (.invokevirtual 166, 3) := by decide +kernel
theorem dX8_letOut_20 : decode cX8_letOut 20 = .ok (.goto 4, 3) := by decide +kernel
theorem dX8_letOut_23 : decode cX8_letOut 23 = .ok (.iload_n 3, 1) := by decide +kernel
theorem dX8_letOut_24 : decode cX8_letOut 24 = .ok (.istore 4, 2) := by decide +kernel
theorem dX8_letOut_26 : decode cX8_letOut 26 = .ok (.iload 4, 2) := by decide +kernel
theorem dX8_letOut_28 : decode cX8_letOut 28 = .ok (.iconst 0, 1) := by decide +kernel
theorem dX8_letOut_29 : decode cX8_letOut 29 = .ok (.iload_n 1, 1) := by decide +kernel
theorem dX8_letOut_30 : decode cX8_letOut 30 = .ok (.invokestatic 169, 3) := by decide +kernel
theorem dX8_letOut_33 : decode cX8_letOut 33 = .ok (.ireturn, 1) := by decide +kernel
theorem dX8_thingShows_0 : decode cX8_thingShows 0 = .ok (.iload_n 1, 1) := by decide +kernel
theorem dX8_thingShows_1 : decode cX8_thingShows 1 = .ok (.iconst 0, 1) := by decide +kernel
theorem dX8_thingShows_2 : decode cX8_thingShows 2 = .ok (.iconst 5, 1) := by decide +kernel
theorem dX8_thingShows_3 : decode cX8_thingShows 3 = .ok (.invokestatic 112, 3) := by decide +kernel
theorem dX8_thingShows_6 : decode cX8_thingShows 6 = .ok (.ifCond .eq 20, 3) := by decide +kernel
theorem dX8_thingShows_9 : decode cX8_thingShows 9 = .ok (.aload_n 0, 1) := by decide +kernel
theorem dX8_thingShows_10 : decode cX8_thingShows 10 = .ok (.getfield 48, 3) := by decide +kernel
theorem dX8_thingShows_13 : decode cX8_thingShows 13 = .ok (.iload_n 1, 1) := by decide +kernel
theorem dX8_thingShows_14 : decode cX8_thingShows 14 = .ok (.iaload, 1) := by decide +kernel
theorem dX8_thingShows_15 : decode cX8_thingShows 15 = .ok (.aload_n 0, 1) := by decide +kernel
theorem dX8_thingShows_16 : decode cX8_thingShows 16 = .ok (.getfield 55, 3) := by decide +kernel
theorem dX8_thingShows_19 : decode cX8_thingShows 19 = .ok (.if_icmp .le 7, 3) := by decide +kernel
theorem dX8_thingShows_22 : decode cX8_thingShows 22 = .ok (.iconst 1, 1) := by decide +kernel
theorem dX8_thingShows_23 : decode cX8_thingShows 23 = .ok (.goto 4, 3) := by decide +kernel
theorem dX8_thingShows_26 : decode cX8_thingShows 26 = .ok (.iconst 0, 1) := by decide +kernel
theorem dX8_thingShows_27 : decode cX8_thingShows 27 = .ok (.ireturn, 1) := by decide +kernel
theorem dX8_passHour_0 : decode cX8_passHour 0 = .ok (.aload_n 0, 1) := by decide +kernel
theorem dX8_passHour_1 : decode cX8_passHour 1 = .ok (.invokevirtual 120, 3) := by decide +kernel
theorem dX8_passHour_4 : decode cX8_passHour 4 = .ok (.istore_n 1, 1) := by decide +kernel
theorem dX8_passHour_5 : decode cX8_passHour 5 = .ok (.aload_n 0, 1) := by decide +kernel
theorem dX8_passHour_6 : decode cX8_passHour 6 = .ok (.iload_n 1, 1) := by decide +kernel
theorem dX8_passHour_7 : decode cX8_passHour 7 = .ok (.invokevirtual 124, 3) := by decide +kernel
theorem dX8_passHour_10 : decode cX8_passHour 10 = .ok (.istore_n 2, 1) := by decide +kernel
theorem dX8_passHour_11 : decode cX8_passHour 11 = .ok (.aload_n 0, 1) := by decide +kernel
theorem dX8_passHour_12 : decode cX8_passHour 12 = .ok (.iload_n 2, 1) := by decide +kernel
theorem dX8_passHour_13 : decode cX8_passHour 13 = .ok (.invokevirtual 156, 3) := by decide +kernel
theorem dX8_passHour_16 : decode cX8_passHour 16 = .ok (.istore_n 3, 1) := by decide +kernel
theorem dX8_passHour_17 : decode cX8_passHour 17 = .ok (.aload_n 0, 1) := by decide +kernel
theorem dX8_passHour_18 : decode cX8_passHour 18 = .ok (.iload_n 3, 1) := by decide +kernel
theorem dX8_passHour_19 : decode cX8_passHour 19 = .ok (.invokevirtual 131, 3) := by decide +kernel
theorem dX8_passHour_22 : decode cX8_passHour 22 = .ok (.istore 4, 2) := by decide +kernel
theorem dX8_passHour_24 : decode cX8_passHour 24 = .ok (.iconst 0, 1) := by decide +kernel
theorem dX8_passHour_25 : decode cX8_passHour 25 = .ok (.istore 5, 2) := by decide +kernel
theorem dX8_passHour_27 : decode cX8_passHour 27 = .ok (.iload 5, 2) := by decide +kernel
theorem dX8_passHour_29 : decode cX8_passHour 29 = .ok (.aload_n 0, 1) := by decide +kernel
theorem dX8_passHour_30 : decode cX8_passHour 30 = .ok (.getfield 85, 3) := by decide +kernel
theorem dX8_passHour_33 : decode cX8_passHour 33 = .ok (.if_icmp .ge 29, 3) := by decide +kernel
theorem dX8_passHour_36 : decode cX8_passHour 36 = .ok (.iload 5, 2) := by decide +kernel
theorem dX8_passHour_38 : decode cX8_passHour 38 = .ok (.bipush 8, 2) := by decide +kernel
theorem dX8_passHour_40 : decode cX8_passHour 40 = .ok (.if_icmp .ge 22, 3) := by decide +kernel
theorem dX8_passHour_43 : decode cX8_passHour 43 = .ok (.aload_n 0, 1) := by decide +kernel
theorem dX8_passHour_44 : decode cX8_passHour 44 = .ok (.getfield 44, 3) := by decide +kernel
theorem dX8_passHour_47 : decode cX8_passHour 47 = .ok (.iload 5, 2) := by decide +kernel
theorem dX8_passHour_49 : decode cX8_passHour 49 = .ok (.aaload, 1) := by decide +kernel
theorem dX8_passHour_50 : decode cX8_passHour 50 = .ok (.iload_n 3, 1) := by decide +kernel
theorem dX8_passHour_51 : decode cX8_passHour 51 = .ok (.iload 4, 2) := by decide +kernel
theorem dX8_passHour_53 : decode cX8_passHour 53 = .ok (.invokevirtual 172, 3) := by decide +kernel
theorem dX8_passHour_56 : decode cX8_passHour 56 = .ok (.iinc 5 1, 3) := by decide +kernel
theorem dX8_passHour_59 : decode cX8_passHour 59 = .ok (.goto (-32), 3) := by decide +kernel
theorem dX8_passHour_62 : decode cX8_passHour 62 = .ok (.aload_n 0, 1) := by decide +kernel
theorem dX8_passHour_63 : decode cX8_passHour 63 = .ok (.getfield 97, 3) := by decide +kernel
theorem dX8_passHour_66 : decode cX8_passHour 66 = .ok (.ifCond .eq 11, 3) := by decide +kernel
theorem dX8_passHour_69 : decode cX8_passHour 69 = .ok (.aload_n 0, 1) := by decide +kernel
theorem dX8_passHour_70 : decode cX8_passHour 70 = .ok (.getfield 21, 3) := by decide +kernel
theorem dX8_passHour_73 : decode cX8_passHour 73 = .ok (.iload_n 1, 1) := by decide +kernel
theorem dX8_passHour_74 : decode cX8_passHour 74 = .ok (.invokevirtual 176, 3) := by decide +kernel
theorem dX8_passHour_77 : decode cX8_passHour 77 = .ok (.aload_n 0, 1) := by decide +kernel
theorem dX8_passHour_78 : decode cX8_passHour 78 = .ok (.getfield 21, 3) := by decide +kernel
theorem dX8_passHour_81 : decode cX8_passHour 81 = .ok (.iload 4, 2) := by decide +kernel
theorem dX8_passHour_83 : decode cX8_passHour 83 = .ok (.putfield 138, 3) := by decide +kernel
theorem dX8_passHour_86 : decode cX8_passHour 86 = .ok (.aload_n 0, 1) := by decide +kernel
theorem dX8_passHour_87 : decode cX8_passHour 87 = .ok (.invokevirtual 134, 3) := by decide +kernel
theorem dX8_passHour_90 : decode cX8_passHour 90 = .ok (.ifCond .eq 13, 3) := by decide +kernel
theorem dX8_passHour_93 : decode cX8_passHour 93 = .ok (.aload_n 0, 1) := by decide +kernel
theorem dX8_passHour_94 : decode cX8_passHour 94 = .ok (.dup, 1) := by decide +kernel
theorem dX8_passHour_95 : decode cX8_passHour 95 = .ok (.getfield 109, 3) := by decide +kernel
theorem dX8_passHour_98 : decode cX8_passHour 98 = .ok (.iload_n 2, 1) := by decide +kernel
theorem dX8_passHour_99 : decode cX8_passHour 99 = .ok (.iadd, 1) := by decide +kernel
theorem dX8_passHour_100 : decode cX8_passHour 100 = .ok (.putfield 109, 3) := by decide +kernel
theorem dX8_passHour_103 : decode cX8_passHour 103 = .ok (.aload_n 0, 1) := by decide +kernel
theorem dX8_passHour_104 : decode cX8_passHour 104 = .ok (.aload_n 0, 1) := by decide +kernel
theorem dX8_passHour_105 : decode cX8_passHour 105 = .ok (.getfield 103, 3) := by decide +kernel
theorem dX8_passHour_108 : decode cX8_passHour 108 = .ok (.aload_n 0, 1) := by decide +kernel
theorem dX8_passHour_109 : decode cX8_passHour 109 = .ok (.getfield 12, 3) := by decide +kernel
theorem dX8_passHour_112 : decode cX8_passHour 112 = .ok (.iconst 0, 1) := by decide +kernel
theorem dX8_passHour_113 : decode cX8_passHour 113 = .ok (.aload_n 0, 1) := by decide +kernel
theorem dX8_passHour_114 : decode cX8_passHour 114 = .ok (.invokevirtual 147, 3) := by decide +kernel
theorem dX8_passHour_117 : decode cX8_passHour 117 = .ok (.invokevirtual 180, 3) := by decide +kernel
theorem dX8_passHour_120 : decode cX8_passHour 120 = .ok (.iadd, 1) := by decide +kernel
theorem dX8_passHour_121 : decode cX8_passHour 121 = .ok (.iload_n 3, 1) := by decide +kernel
theorem dX8_passHour_122 : decode cX8_passHour 122 = .ok (.isub, 1) := by decide +kernel
theorem dX8_passHour_123 : decode cX8_passHour 123 = .ok (.iconst 0, 1) := by decide +kernel
theorem dX8_passHour_124 : decode cX8_passHour 124 = .ok (.bipush 90, 2) := by decide +kernel
theorem dX8_passHour_126 : decode cX8_passHour 126 = .ok (.invokestatic 169, 3) := by decide +kernel
theorem dX8_passHour_129 : decode cX8_passHour 129 = .ok (.putfield 103, 3) := by decide +kernel
theorem dX8_passHour_132 : decode cX8_passHour 132 = .ok (.aload_n 0, 1) := by decide +kernel
theorem dX8_passHour_133 : decode cX8_passHour 133 = .ok (.getfield 55, 3) := by decide +kernel
theorem dX8_passHour_136 : decode cX8_passHour 136 = .ok (.aload_n 0, 1) := by decide +kernel
theorem dX8_passHour_137 : decode cX8_passHour 137 = .ok (.aload_n 0, 1) := by decide +kernel
theorem dX8_passHour_138 : decode cX8_passHour 138 = .ok (.getfield 55, 3) := by decide +kernel
theorem dX8_passHour_141 : decode cX8_passHour 141 = .ok (.iload_n 1, 1) := by decide +kernel
theorem dX8_passHour_142 : decode cX8_passHour 142 = .ok (.aload_n 0, 1) := by decide +kernel
theorem dX8_passHour_143 : decode cX8_passHour 143 = .ok (.getfield 59, 3) := by decide +kernel
theorem dX8_passHour_146 : decode cX8_passHour 146 = .ok (.invokevirtual 183, 3) := by decide +kernel
theorem dX8_passHour_149 : decode cX8_passHour 149 = .ok (.isub, 1) := by decide +kernel
theorem dX8_passHour_150 : decode cX8_passHour 150 = .ok (.iload_n 1, 1) := by decide +kernel
theorem dX8_passHour_151 : decode cX8_passHour 151 = .ok (.iadd, 1) := by decide +kernel
theorem dX8_passHour_152 : decode cX8_passHour 152 = .ok (.istore 5, 2) := by decide +kernel
theorem dX8_passHour_154 : decode cX8_passHour 154 = .ok (.aload_n 0, 1) := by decide +kernel
theorem dX8_passHour_155 : decode cX8_passHour 155 = .ok (.iload 5, 2) := by decide +kernel
theorem dX8_passHour_157 : decode cX8_passHour 157 = .ok (.sipush 600, 3) := by decide +kernel
theorem dX8_passHour_160 : decode cX8_passHour 160 = .ok (.invokestatic 186, 3) := by decide +kernel
theorem dX8_passHour_163 : decode cX8_passHour 163 = .ok (.putfield 55, 3) := by decide +kernel
theorem dX8_passHour_166 : decode cX8_passHour 166 = .ok (.aload_n 0, 1) := by decide +kernel
theorem dX8_passHour_167 : decode cX8_passHour 167 = .ok (.aload_n 0, 1) := by decide +kernel
theorem dX8_passHour_168 : decode cX8_passHour 168 = .ok (.getfield 100, 3) := by decide +kernel
theorem dX8_passHour_171 : decode cX8_passHour 171 = .ok (.iload 5, 2) := by decide +kernel
theorem dX8_passHour_173 : decode cX8_passHour 173 = .ok (.iadd, 1) := by decide +kernel
theorem dX8_passHour_174 : decode cX8_passHour 174 = .ok (.aload_n 0, 1) := by decide +kernel
theorem dX8_passHour_175 : decode cX8_passHour 175 = .ok (.getfield 55, 3) := by decide +kernel
theorem dX8_passHour_178 : decode cX8_passHour 178 = .ok (.isub, 1) := by decide +kernel
theorem dX8_passHour_179 : decode cX8_passHour 179 = .ok (.ldc 189, 2) := by decide +kernel
theorem dX8_passHour_181 : decode cX8_passHour 181 = .ok (.invokestatic 186, 3) := by decide +kernel
theorem dX8_passHour_184 : decode cX8_passHour 184 = .ok (.putfield 100, 3) := by decide +kernel
theorem dX8_passHour_187 : decode cX8_passHour 187 = .ok (.aload_n 0, 1) := by decide +kernel
