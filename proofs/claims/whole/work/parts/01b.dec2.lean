/-! decode rows, part 2 (of the printed names) -/
theorem dX8_passHour_188 : decode cX8_passHour 188 = .ok (.dup, 1) := by decide +kernel
theorem dX8_passHour_189 : decode cX8_passHour 189 = .ok (.getfield 97, 3) := by decide +kernel
theorem dX8_passHour_192 : decode cX8_passHour 192 = .ok (.iconst 1, 1) := by decide +kernel
theorem dX8_passHour_193 : decode cX8_passHour 193 = .ok (.iadd, 1) := by decide +kernel
theorem dX8_passHour_194 : decode cX8_passHour 194 = .ok (.putfield 97, 3) := by decide +kernel
theorem dX8_passHour_197 : decode cX8_passHour 197 = .ok (.return_, 1) := by decide +kernel
theorem dX8_loosen_0 : decode cX8_loosen 0 = .ok (.aload_n 0, 1) := by decide +kernel
theorem dX8_loosen_1 : decode cX8_loosen 1 = .ok (.invokevirtual 147, 3) := by decide +kernel
theorem dX8_loosen_4 : decode cX8_loosen 4 = .ok (.istore_n 1, 1) := by decide +kernel
theorem dX8_loosen_5 : decode cX8_loosen 5 = .ok (.iconst 0, 1) := by decide +kernel
theorem dX8_loosen_6 : decode cX8_loosen 6 = .ok (.istore_n 2, 1) := by decide +kernel
theorem dX8_loosen_7 : decode cX8_loosen 7 = .ok (.iload_n 2, 1) := by decide +kernel
theorem dX8_loosen_8 : decode cX8_loosen 8 = .ok (.iconst 3, 1) := by decide +kernel
theorem dX8_loosen_9 : decode cX8_loosen 9 = .ok (.if_icmp .ge 62, 3) := by decide +kernel
theorem dX8_loosen_12 : decode cX8_loosen 12 = .ok (.aload_n 0, 1) := by decide +kernel
theorem dX8_loosen_13 : decode cX8_loosen 13 = .ok (.aload_n 0, 1) := by decide +kernel
theorem dX8_loosen_14 : decode cX8_loosen 14 = .ok (.getfield 65, 3) := by decide +kernel
theorem dX8_loosen_17 : decode cX8_loosen 17 = .ok (.ldc 190, 2) := by decide +kernel
theorem dX8_loosen_19 : decode cX8_loosen 19 = .ok (.imul, 1) := by decide +kernel
theorem dX8_loosen_20 : decode cX8_loosen 20 = .ok (.sipush 12345, 3) := by decide +kernel
theorem dX8_loosen_23 : decode cX8_loosen 23 = .ok (.iadd, 1) := by decide +kernel
theorem dX8_loosen_24 : decode cX8_loosen 24 = .ok (.putfield 65, 3) := by decide +kernel
theorem dX8_loosen_27 : decode cX8_loosen 27 = .ok (.aload_n 0, 1) := by decide +kernel
theorem dX8_loosen_28 : decode cX8_loosen 28 = .ok (.getfield 65, 3) := by decide +kernel
theorem dX8_loosen_31 : decode cX8_loosen 31 = .ok (.bipush 8, 2) := by decide +kernel
theorem dX8_loosen_33 : decode cX8_loosen 33 = .ok (.iushr, 1) := by decide +kernel
theorem dX8_loosen_34 : decode cX8_loosen 34 = .ok (.iconst 3, 1) := by decide +kernel
theorem dX8_loosen_35 : decode cX8_loosen 35 = .ok (.irem, 1) := by decide +kernel
theorem dX8_loosen_36 : decode cX8_loosen 36 = .ok (.iconst 1, 1) := by decide +kernel
theorem dX8_loosen_37 : decode cX8_loosen 37 = .ok (.isub, 1) := by decide +kernel
theorem dX8_loosen_38 : decode cX8_loosen 38 = .ok (.istore_n 3, 1) := by decide +kernel
theorem dX8_loosen_39 : decode cX8_loosen 39 = .ok (.aload_n 0, 1) := by decide +kernel
theorem dX8_loosen_40 : decode cX8_loosen 40 = .ok (.getfield 12, 3) := by decide +kernel
theorem dX8_loosen_43 : decode cX8_loosen 43 = .ok (.iload_n 2, 1) := by decide +kernel
theorem dX8_loosen_44 : decode cX8_loosen 44 = .ok (.iload_n 1, 1) := by decide +kernel
theorem dX8_loosen_45 : decode cX8_loosen 45 = .ok (.aload_n 0, 1) := by decide +kernel
theorem dX8_loosen_46 : decode cX8_loosen 46 = .ok (.getfield 12, 3) := by decide +kernel
theorem dX8_loosen_49 : decode cX8_loosen 49 = .ok (.iload_n 2, 1) := by decide +kernel
theorem dX8_loosen_50 : decode cX8_loosen 50 = .ok (.iload_n 1, 1) := by decide +kernel
theorem dX8_loosen_51 : decode cX8_loosen 51 = .ok (.invokevirtual 180, 3) := by decide +kernel
theorem dX8_loosen_54 : decode cX8_loosen 54 = .ok (.iload_n 3, 1) := by decide +kernel
theorem dX8_loosen_55 : decode cX8_loosen 55 = .ok (.iadd, 1) := by decide +kernel
theorem dX8_loosen_56 : decode cX8_loosen 56 = .ok (.iconst 0, 1) := by decide +kernel
theorem dX8_loosen_57 : decode cX8_loosen 57 = .ok (.bipush 9, 2) := by decide +kernel
theorem dX8_loosen_59 : decode cX8_loosen 59 = .ok (.invokestatic 169, 3) := by decide +kernel
theorem dX8_loosen_62 : decode cX8_loosen 62 = .ok (.invokevirtual 191, 3) := by decide +kernel
theorem dX8_loosen_65 : decode cX8_loosen 65 = .ok (.iinc 2 1, 3) := by decide +kernel
theorem dX8_loosen_68 : decode cX8_loosen 68 = .ok (.goto (-61), 3) := by decide +kernel
theorem dX8_loosen_71 : decode cX8_loosen 71 = .ok (.return_, 1) := by decide +kernel
theorem dX8_fisherAt_0 : decode cX8_fisherAt 0 = .ok (.iload_n 1, 1) := by decide +kernel
theorem dX8_fisherAt_1 : decode cX8_fisherAt 1 = .ok (.iconst 0, 1) := by decide +kernel
theorem dX8_fisherAt_2 : decode cX8_fisherAt 2 = .ok (.aload_n 0, 1) := by decide +kernel
theorem dX8_fisherAt_3 : decode cX8_fisherAt 3 = .ok (.getfield 85, 3) := by decide +kernel
theorem dX8_fisherAt_6 : decode cX8_fisherAt 6 = .ok (.iconst 1, 1) := by decide +kernel
theorem dX8_fisherAt_7 : decode cX8_fisherAt 7 = .ok (.isub, 1) := by decide +kernel
theorem dX8_fisherAt_8 : decode cX8_fisherAt 8 = .ok (.invokestatic 112, 3) := by decide +kernel
theorem dX8_fisherAt_11 : decode cX8_fisherAt 11 = .ok (.ifCond .eq 18, 3) := by decide +kernel
theorem dX8_fisherAt_14 : decode cX8_fisherAt 14 = .ok (.iload_n 1, 1) := by decide +kernel
theorem dX8_fisherAt_15 : decode cX8_fisherAt 15 = .ok (.bipush 8, 2) := by decide +kernel
theorem dX8_fisherAt_17 : decode cX8_fisherAt 17 = .ok (.if_icmp .ge 12, 3) := by decide +kernel
theorem dX8_fisherAt_20 : decode cX8_fisherAt 20 = .ok (.aload_n 0, 1) := by decide +kernel
theorem dX8_fisherAt_21 : decode cX8_fisherAt 21 = .ok (.getfield 44, 3) := by decide +kernel
theorem dX8_fisherAt_24 : decode cX8_fisherAt 24 = .ok (.iload_n 1, 1) := by decide +kernel
theorem dX8_fisherAt_25 : decode cX8_fisherAt 25 = .ok (.aaload, 1) := by decide +kernel
theorem dX8_fisherAt_26 : decode cX8_fisherAt 26 = .ok (.goto 4, 3) := by decide +kernel
theorem dX8_fisherAt_29 : decode cX8_fisherAt 29 = .ok (.aconst_null, 1) := by decide +kernel
theorem dX8_fisherAt_30 : decode cX8_fisherAt 30 = .ok (.areturn, 1) := by decide +kernel
theorem dX8_hearsNow_0 : decode cX8_hearsNow 0 = .ok (.aload_n 0, 1) := by decide +kernel
theorem dX8_hearsNow_1 : decode cX8_hearsNow 1 = .ok (.invokevirtual 128, 3) := by decide +kernel
theorem dX8_hearsNow_4 : decode cX8_hearsNow 4 = .ok (.istore_n 2, 1) := by decide +kernel
theorem dX8_hearsNow_5 : decode cX8_hearsNow 5 = .ok (.aload_n 1, 1) := by decide +kernel
theorem dX8_hearsNow_6 : decode cX8_hearsNow 6 = .ok (.iload_n 2, 1) := by decide +kernel
theorem dX8_hearsNow_7 : decode cX8_hearsNow 7 = .ok (.aload_n 0, 1) := by decide +kernel
theorem dX8_hearsNow_8 : decode cX8_hearsNow 8 = .ok (.iload_n 2, 1) := by decide +kernel
theorem dX8_hearsNow_9 : decode cX8_hearsNow 9 = .ok (.invokevirtual 131, 3) := by decide +kernel
theorem dX8_hearsNow_12 : decode cX8_hearsNow 12 = .ok (.invokevirtual 195, 3) := by decide +kernel
theorem dX8_hearsNow_15 : decode cX8_hearsNow 15 = .ok (.ireturn, 1) := by decide +kernel
theorem dX8_bidNow_0 : decode cX8_bidNow 0 = .ok (.aload_n 1, 1) := by decide +kernel
theorem dX8_bidNow_1 : decode cX8_bidNow 1 = .ok (.aload_n 0, 1) := by decide +kernel
theorem dX8_bidNow_2 : decode cX8_bidNow 2 = .ok (.getfield 21, 3) := by decide +kernel
theorem dX8_bidNow_5 : decode cX8_bidNow 5 = .ok (.aload_n 0, 1) := by decide +kernel
theorem dX8_bidNow_6 : decode cX8_bidNow 6 = .ok (.getfield 21, 3) := by decide +kernel
theorem dX8_bidNow_9 : decode cX8_bidNow 9 = .ok (.getfield 138, 3) := by decide +kernel
theorem dX8_bidNow_12 : decode cX8_bidNow 12 = .ok (.invokevirtual 199, 3) := by decide +kernel
theorem dX8_bidNow_15 : decode cX8_bidNow 15 = .ok (.aload_n 0, 1) := by decide +kernel
theorem dX8_bidNow_16 : decode cX8_bidNow 16 = .ok (.getfield 21, 3) := by decide +kernel
theorem dX8_bidNow_19 : decode cX8_bidNow 19 = .ok (.aload_n 0, 1) := by decide +kernel
theorem dX8_bidNow_20 : decode cX8_bidNow 20 = .ok (.getfield 21, 3) := by decide +kernel
theorem dX8_bidNow_23 : decode cX8_bidNow 23 = .ok (.getfield 138, 3) := by decide +kernel
theorem dX8_bidNow_26 : decode cX8_bidNow 26 = .ok (.invokevirtual 202, 3) := by decide +kernel
theorem dX8_bidNow_29 : decode cX8_bidNow 29 = .ok (.invokevirtual 205, 3) := by decide +kernel
theorem dX8_bidNow_32 : decode cX8_bidNow 32 = .ok (.ireturn, 1) := by decide +kernel
theorem dX8_trait_0 : decode cX8_trait 0 = .ok (.iload_n 2, 1) := by decide +kernel
theorem dX8_trait_1 : decode cX8_trait 1 = .ok (.tableswitch 87 0 6 #[43, 48, 53, 58, 63, 68, 73], 43) := by decide +kernel
theorem dX8_trait_44 : decode cX8_trait 44 = .ok (.aload_n 1, 1) := by decide +kernel
theorem dX8_trait_45 : decode cX8_trait 45 = .ok (.getfield 208, 3) := by decide +kernel
theorem dX8_trait_48 : decode cX8_trait 48 = .ok (.ireturn, 1) := by decide +kernel
theorem dX8_trait_49 : decode cX8_trait 49 = .ok (.aload_n 1, 1) := by decide +kernel
theorem dX8_trait_50 : decode cX8_trait 50 = .ok (.getfield 211, 3) := by decide +kernel
theorem dX8_trait_53 : decode cX8_trait 53 = .ok (.ireturn, 1) := by decide +kernel
theorem dX8_trait_54 : decode cX8_trait 54 = .ok (.aload_n 1, 1) := by decide +kernel
theorem dX8_trait_55 : decode cX8_trait 55 = .ok (.getfield 214, 3) := by decide +kernel
theorem dX8_trait_58 : decode cX8_trait 58 = .ok (.ireturn, 1) := by decide +kernel
theorem dX8_trait_59 : decode cX8_trait 59 = .ok (.aload_n 1, 1) := by decide +kernel
theorem dX8_trait_60 : decode cX8_trait 60 = .ok (.getfield 217, 3) := by decide +kernel
theorem dX8_trait_63 : decode cX8_trait 63 = .ok (.ireturn, 1) := by decide +kernel
theorem dX8_trait_64 : decode cX8_trait 64 = .ok (.aload_n 1, 1) := by decide +kernel
theorem dX8_trait_65 : decode cX8_trait 65 = .ok (.getfield 220, 3) := by decide +kernel
theorem dX8_trait_68 : decode cX8_trait 68 = .ok (.ireturn, 1) := by decide +kernel
theorem dX8_trait_69 : decode cX8_trait 69 = .ok (.aload_n 1, 1) := by decide +kernel
theorem dX8_trait_70 : decode cX8_trait 70 = .ok (.getfield 223, 3) := by decide +kernel
theorem dX8_trait_73 : decode cX8_trait 73 = .ok (.ireturn, 1) := by decide +kernel
theorem dX8_trait_74 : decode cX8_trait 74 = .ok (.aload_n 0, 1) := by decide +kernel
theorem dX8_trait_75 : decode cX8_trait 75 = .ok (.aload_n 1, 1) := by decide +kernel
theorem dX8_trait_76 : decode cX8_trait 76 = .ok (.invokevirtual 226, 3) := by decide +kernel
theorem dX8_trait_79 : decode cX8_trait 79 = .ok (.ifCond .eq 7, 3) := by decide +kernel
theorem dX8_trait_82 : decode cX8_trait 82 = .ok (.iconst 1, 1) := by decide +kernel
theorem dX8_trait_83 : decode cX8_trait 83 = .ok (.goto 4, 3) := by decide +kernel
theorem dX8_trait_86 : decode cX8_trait 86 = .ok (.iconst 0, 1) := by decide +kernel
theorem dX8_trait_87 : decode cX8_trait 87 = .ok (.ireturn, 1) := by decide +kernel
theorem dX8_trait_88 : decode cX8_trait 88 = .ok (.aload_n 0, 1) := by decide +kernel
theorem dX8_trait_89 : decode cX8_trait 89 = .ok (.aload_n 1, 1) := by decide +kernel
theorem dX8_trait_90 : decode cX8_trait 90 = .ok (.invokevirtual 230, 3) := by decide +kernel
theorem dX8_trait_93 : decode cX8_trait 93 = .ok (.ireturn, 1) := by decide +kernel
theorem dX8_heardOfAll_0 : decode cX8_heardOfAll 0 = .ok (.iconst 0, 1) := by decide +kernel
theorem dX8_heardOfAll_1 : decode cX8_heardOfAll 1 = .ok (.istore_n 1, 1) := by decide +kernel
theorem dX8_heardOfAll_2 : decode cX8_heardOfAll 2 = .ok (.iconst 0, 1) := by decide +kernel
theorem dX8_heardOfAll_3 : decode cX8_heardOfAll 3 = .ok (.istore_n 2, 1) := by decide +kernel
theorem dX8_heardOfAll_4 : decode cX8_heardOfAll 4 = .ok (.iload_n 2, 1) := by decide +kernel
theorem dX8_heardOfAll_5 : decode cX8_heardOfAll 5 = .ok (.aload_n 0, 1) := by decide +kernel
theorem dX8_heardOfAll_6 : decode cX8_heardOfAll 6 = .ok (.getfield 85, 3) := by decide +kernel
theorem dX8_heardOfAll_9 : decode cX8_heardOfAll 9 = .ok (.if_icmp .ge 27, 3) := by decide +kernel
theorem dX8_heardOfAll_12 : decode cX8_heardOfAll 12 = .ok (.iload_n 2, 1) := by decide +kernel
theorem dX8_heardOfAll_13 : decode cX8_heardOfAll 13 = .ok (.bipush 8, 2) := by decide +kernel
theorem dX8_heardOfAll_15 : decode cX8_heardOfAll 15 = .ok (.if_icmp .ge 21, 3) := by decide +kernel
theorem dX8_heardOfAll_18 : decode cX8_heardOfAll 18 = .ok (.iload_n 1, 1) := by decide +kernel
theorem dX8_heardOfAll_19 : decode cX8_heardOfAll 19 = .ok (.aload_n 0, 1) := by decide +kernel
theorem dX8_heardOfAll_20 : decode cX8_heardOfAll 20 = .ok (.getfield 44, 3) := by decide +kernel
theorem dX8_heardOfAll_23 : decode cX8_heardOfAll 23 = .ok (.iload_n 2, 1) := by decide +kernel
theorem dX8_heardOfAll_24 : decode cX8_heardOfAll 24 = .ok (.aaload, 1) := by decide +kernel
theorem dX8_heardOfAll_25 : decode cX8_heardOfAll 25 = .ok (.getfield 220, 3) := by decide +kernel
theorem dX8_heardOfAll_28 : decode cX8_heardOfAll 28 = .ok (.iadd, 1) := by decide +kernel
theorem dX8_heardOfAll_29 : decode cX8_heardOfAll 29 = .ok (.istore_n 1, 1) := by decide +kernel
theorem dX8_heardOfAll_30 : decode cX8_heardOfAll 30 = .ok (.iinc 2 1, 3) := by decide +kernel
theorem dX8_heardOfAll_33 : decode cX8_heardOfAll 33 = .ok (.goto (-29), 3) := by decide +kernel
theorem dX8_heardOfAll_36 : decode cX8_heardOfAll 36 = .ok (.iload_n 1, 1) := by decide +kernel
theorem dX8_heardOfAll_37 : decode cX8_heardOfAll 37 = .ok (.ireturn, 1) := by decide +kernel
theorem dX8_pursesOfAll_0 : decode cX8_pursesOfAll 0 = .ok (.iconst 0, 1) := by decide +kernel
theorem dX8_pursesOfAll_1 : decode cX8_pursesOfAll 1 = .ok (.istore_n 1, 1) := by decide +kernel
theorem dX8_pursesOfAll_2 : decode cX8_pursesOfAll 2 = .ok (.iconst 0, 1) := by decide +kernel
theorem dX8_pursesOfAll_3 : decode cX8_pursesOfAll 3 = .ok (.istore_n 2, 1) := by decide +kernel
theorem dX8_pursesOfAll_4 : decode cX8_pursesOfAll 4 = .ok (.iload_n 2, 1) := by decide +kernel
theorem dX8_pursesOfAll_5 : decode cX8_pursesOfAll 5 = .ok (.aload_n 0, 1) := by decide +kernel
theorem dX8_pursesOfAll_6 : decode cX8_pursesOfAll 6 = .ok (.getfield 85, 3) := by decide +kernel
theorem dX8_pursesOfAll_9 : decode cX8_pursesOfAll 9 = .ok (.if_icmp .ge 27, 3) := by decide +kernel
theorem dX8_pursesOfAll_12 : decode cX8_pursesOfAll 12 = .ok (.iload_n 2, 1) := by decide +kernel
theorem dX8_pursesOfAll_13 : decode cX8_pursesOfAll 13 = .ok (.bipush 8, 2) := by decide +kernel
theorem dX8_pursesOfAll_15 : decode cX8_pursesOfAll 15 = .ok (.if_icmp .ge 21, 3) := by decide +kernel
theorem dX8_pursesOfAll_18 : decode cX8_pursesOfAll 18 = .ok (.iload_n 1, 1) := by decide +kernel
theorem dX8_pursesOfAll_19 : decode cX8_pursesOfAll 19 = .ok (.aload_n 0, 1) := by decide +kernel
theorem dX8_pursesOfAll_20 : decode cX8_pursesOfAll 20 = .ok (.getfield 44, 3) := by decide +kernel
theorem dX8_pursesOfAll_23 : decode cX8_pursesOfAll 23 = .ok (.iload_n 2, 1) := by decide +kernel
theorem dX8_pursesOfAll_24 : decode cX8_pursesOfAll 24 = .ok (.aaload, 1) := by decide +kernel
theorem dX8_pursesOfAll_25 : decode cX8_pursesOfAll 25 = .ok (.getfield 217, 3) := by decide +kernel
theorem dX8_pursesOfAll_28 : decode cX8_pursesOfAll 28 = .ok (.iadd, 1) := by decide +kernel
theorem dX8_pursesOfAll_29 : decode cX8_pursesOfAll 29 = .ok (.istore_n 1, 1) := by decide +kernel
theorem dX8_pursesOfAll_30 : decode cX8_pursesOfAll 30 = .ok (.iinc 2 1, 3) := by decide +kernel
theorem dX8_pursesOfAll_33 : decode cX8_pursesOfAll 33 = .ok (.goto (-29), 3) := by decide +kernel
theorem dX8_pursesOfAll_36 : decode cX8_pursesOfAll 36 = .ok (.iload_n 1, 1) := by decide +kernel
theorem dX8_pursesOfAll_37 : decode cX8_pursesOfAll 37 = .ok (.ireturn, 1) := by decide +kernel
theorem dX9_init_0 : decode cX9_init 0 = .ok (.aload_n 0, 1) := by decide +kernel
theorem dX9_init_1 : decode cX9_init 1 = .ok (.invokespecial 1, 3) := by decide +kernel
theorem dX9_init_4 : decode cX9_init 4 = .ok (.aload_n 0, 1) := by decide +kernel
theorem dX9_init_5 : decode cX9_init 5 = .ok (.new 7, 3) := by decide +kernel
theorem dX9_init_8 : decode cX9_init 8 = .ok (.dup, 1) := by decide +kernel
theorem dX9_init_9 : decode cX9_init 9 = .ok (.invokespecial 9, 3) := by decide +kernel
theorem dX9_init_12 : decode cX9_init 12 = .ok (.putfield 10, 3) := by decide +kernel
theorem dX9_init_15 : decode cX9_init 15 = .ok (.aload_n 0, 1) := by decide +kernel
theorem dX9_init_16 : decode cX9_init 16 = .ok (.new 7, 3) := by decide +kernel
theorem dX9_init_19 : decode cX9_init 19 = .ok (.dup, 1) := by decide +kernel
theorem dX9_init_20 : decode cX9_init 20 = .ok (.invokespecial 9, 3) := by decide +kernel
theorem dX9_init_23 : decode cX9_init 23 = .ok (.putfield 16, 3) := by decide +kernel
theorem dX9_init_26 : decode cX9_init 26 = .ok (.aload_n 0, 1) := by decide +kernel
theorem dX9_init_27 : decode cX9_init 27 = .ok (.new 7, 3) := by decide +kernel
theorem dX9_init_30 : decode cX9_init 30 = .ok (.dup, 1) := by decide +kernel
theorem dX9_init_31 : decode cX9_init 31 = .ok (.invokespecial 9, 3) := by decide +kernel
theorem dX9_init_34 : decode cX9_init 34 = .ok (.putfield 19, 3) := by decide +kernel
theorem dX9_init_37 : decode cX9_init 37 = .ok (.aload_n 0, 1) := by decide +kernel
theorem dX9_init_38 : decode cX9_init 38 = .ok (.new 22, 3) := by decide +kernel
theorem dX9_init_41 : decode cX9_init 41 = .ok (.dup, 1) := by decide +kernel
theorem dX9_init_42 : decode cX9_init 42 = .ok (.invokespecial 24, 3) := by decide +kernel
theorem dX9_init_45 : decode cX9_init 45 = .ok (.putfield 25, 3) := by decide +kernel
theorem dX9_init_48 : decode cX9_init 48 = .ok (.aload_n 0, 1) := by decide +kernel
theorem dX9_init_49 : decode cX9_init 49 = .ok (.new 29, 3) := by decide +kernel
theorem dX9_init_52 : decode cX9_init 52 = .ok (.dup, 1) := by decide +kernel
theorem dX9_init_53 : decode cX9_init 53 = .ok (.invokespecial 31, 3) := by decide +kernel
theorem dX9_init_56 : decode cX9_init 56 = .ok (.putfield 32, 3) := by decide +kernel
theorem dX9_init_59 : decode cX9_init 59 = .ok (.aload_n 0, 1) := by decide +kernel
theorem dX9_init_60 : decode cX9_init 60 = .ok (.iconst 4, 1) := by decide +kernel
theorem dX9_init_61 : decode cX9_init 61 = .ok (.anewarray 36, 3) := by decide +kernel
theorem dX9_init_64 : decode cX9_init 64 = .ok (.putfield 38, 3) := by decide +kernel
theorem dX9_init_67 : decode cX9_init 67 = .ok (.aload_n 0, 1) := by decide +kernel
theorem dX9_init_68 : decode cX9_init 68 = .ok (.bipush 6, 2) := by decide +kernel
theorem dX9_init_70 : decode cX9_init 70 = .ok (.newarray .int, 2) := by decide +kernel
theorem dX9_init_72 : decode cX9_init 72 = .ok (.putfield 42, 3) := by decide +kernel
theorem dX9_init_75 : decode cX9_init 75 = .ok (.iconst 0, 1) := by decide +kernel
theorem dX9_init_76 : decode cX9_init 76 = .ok (.istore_n 1, 1) := by decide +kernel
theorem dX9_init_77 : decode cX9_init 77 = .ok (.iload_n 1, 1) := by decide +kernel
theorem dX9_init_78 : decode cX9_init 78 = .ok (.iconst 4, 1) := by decide +kernel
theorem dX9_init_79 : decode cX9_init 79 = .ok (.if_icmp .ge 22, 3) := by decide +kernel
theorem dX9_init_82 : decode cX9_init 82 = .ok (.aload_n 0, 1) := by decide +kernel
theorem dX9_init_83 : decode cX9_init 83 = .ok (.getfield 38, 3) := by decide +kernel
theorem dX9_init_86 : decode cX9_init 86 = .ok (.iload_n 1, 1) := by decide +kernel
theorem dX9_init_87 : decode cX9_init 87 = .ok (.new 36, 3) := by decide +kernel
theorem dX9_init_90 : decode cX9_init 90 = .ok (.dup, 1) := by decide +kernel
theorem dX9_init_91 : decode cX9_init 91 = .ok (.invokespecial 46, 3) := by decide +kernel
theorem dX9_init_94 : decode cX9_init 94 = .ok (.aastore, 1) := by decide +kernel
theorem dX9_init_95 : decode cX9_init 95 = .ok (.iinc 1 1, 3) := by decide +kernel
theorem dX9_init_98 : decode cX9_init 98 = .ok (.goto (-21), 3) := by decide +kernel
theorem dX9_init_101 : decode cX9_init 101 = .ok (.return_, 1) := by decide +kernel
theorem dX9_within_0 : decode cX9_within 0 = .ok (.iload_n 0, 1) := by decide +kernel
theorem dX9_within_1 : decode cX9_within 1 = .ok (.iload_n 1, 1) := by decide +kernel
theorem dX9_within_2 : decode cX9_within 2 = .ok (.if_icmp .lt 12, 3) := by decide +kernel
theorem dX9_within_5 : decode cX9_within 5 = .ok (.iload_n 0, 1) := by decide +kernel
theorem dX9_within_6 : decode cX9_within 6 = .ok (.iload_n 2, 1) := by decide +kernel
theorem dX9_within_7 : decode cX9_within 7 = .ok (.if_icmp .gt 7, 3) := by decide +kernel
theorem dX9_within_10 : decode cX9_within 10 = .ok (.iconst 1, 1) := by decide +kernel
theorem dX9_within_11 : decode cX9_within 11 = .ok (.goto 4, 3) := by decide +kernel
theorem dX9_within_14 : decode cX9_within 14 = .ok (.iconst 0, 1) := by decide +kernel
theorem dX9_within_15 : decode cX9_within 15 = .ok (.ireturn, 1) := by decide +kernel
theorem dX9_held_0 : decode cX9_held 0 = .ok (.iload_n 1, 1) := by decide +kernel
theorem dX9_held_1 : decode cX9_held 1 = .ok (.iload_n 0, 1) := by decide +kernel
theorem dX9_held_2 : decode cX9_held 2 = .ok (.iload_n 2, 1) := by decide +kernel
theorem dX9_held_3 : decode cX9_held 3 = .ok (.invokestatic 47, 3) := by decide +kernel
theorem dX9_held_6 : decode cX9_held 6 = .ok (.invokestatic 53, 3) := by decide +kernel
theorem dX9_held_9 : decode cX9_held 9 = .ok (.ireturn, 1) := by decide +kernel
theorem dX9_fail_0 : decode cX9_fail 0 = .ok (.iload_n 1, 1) := by decide +kernel
theorem dX9_fail_1 : decode cX9_fail 1 = .ok (.iconst 1, 1) := by decide +kernel
theorem dX9_fail_2 : decode cX9_fail 2 = .ok (.iconst 5, 1) := by decide +kernel
theorem dX9_fail_3 : decode cX9_fail 3 = .ok (.invokestatic 56, 3) := by decide +kernel
theorem dX9_fail_6 : decode cX9_fail 6 = .ok (.ifCond .eq 13, 3) := by decide +kernel
theorem dX9_fail_9 : decode cX9_fail 9 = .ok (.aload_n 0, 1) := by decide +kernel
theorem dX9_fail_10 : decode cX9_fail 10 = .ok (.getfield 42, 3) := by decide +kernel
theorem dX9_fail_13 : decode cX9_fail 13 = .ok (.iload_n 1, 1) := by decide +kernel
theorem dX9_fail_14 : decode cX9_fail 14 = .ok (.dup2, 1) := by decide +kernel
theorem dX9_fail_15 : decode cX9_fail 15 = .ok (.iaload, 1) := by decide +kernel
theorem dX9_fail_16 : decode cX9_fail 16 = .ok (.iconst 1, 1) := by decide +kernel
theorem dX9_fail_17 : decode cX9_fail 17 = .ok (.iadd, 1) := by decide +kernel
theorem dX9_fail_18 : decode cX9_fail 18 = .ok (.iastore, 1) := by decide +kernel
theorem dX9_fail_19 : decode cX9_fail 19 = .ok (.ldc 60, 2) := by decide +kernel
theorem dX9_fail_21 : decode cX9_fail 21 = .ok (.iload_n 1, 1) := by decide +kernel
theorem dX9_fail_22 : decode cX9_fail 22 = .ok (.isub, 1) := by decide +kernel
theorem dX9_fail_23 : decode cX9_fail 23 = .ok (.ireturn, 1) := by decide +kernel
theorem dX9_goAhead_0 : decode cX9_goAhead 0 = .ok (.aload_n 0, 1) := by decide +kernel
theorem dX9_goAhead_1 : decode cX9_goAhead 1 = .ok (.getfield 16, 3) := by decide +kernel
theorem dX9_goAhead_4 : decode cX9_goAhead 4 = .ok (.aload_n 0, 1) := by decide +kernel
theorem dX9_goAhead_5 : decode cX9_goAhead 5 = .ok (.getfield 10, 3) := by decide +kernel
theorem dX9_goAhead_8 : decode cX9_goAhead 8 = .ok (.invokevirtual 61, 3) := by decide +kernel
theorem dX9_goAhead_11 : decode cX9_goAhead 11 = .ok (.iconst 0, 1) := by decide +kernel
theorem dX9_goAhead_12 : decode cX9_goAhead 12 = .ok (.istore_n 2, 1) := by decide +kernel
theorem dX9_goAhead_13 : decode cX9_goAhead 13 = .ok (.iload_n 2, 1) := by decide +kernel
theorem dX9_goAhead_14 : decode cX9_goAhead 14 = .ok (.iload_n 1, 1) := by decide +kernel
theorem dX9_goAhead_15 : decode cX9_goAhead 15 = .ok (.if_icmp .ge 16, 3) := by decide +kernel
theorem dX9_goAhead_18 : decode cX9_goAhead 18 = .ok (.aload_n 0, 1) := by decide +kernel
theorem dX9_goAhead_19 : decode cX9_goAhead 19 = .ok (.getfield 16, 3) := by decide +kernel
theorem dX9_goAhead_22 : decode cX9_goAhead 22 = .ok (.invokevirtual 65, 3) := by decide +kernel
theorem dX9_goAhead_25 : decode cX9_goAhead 25 = .ok (.iinc 2 1, 3) := by decide +kernel
theorem dX9_goAhead_28 : decode cX9_goAhead 28 = .ok (.goto (-15), 3) := by decide +kernel
theorem dX9_goAhead_31 : decode cX9_goAhead 31 = .ok (.return_, 1) := by decide +kernel
theorem dX9_sheetAt_0 : decode cX9_sheetAt 0 = .ok (.iload_n 1, 1) := by decide +kernel
theorem dX9_sheetAt_1 : decode cX9_sheetAt 1 = .ok (.iconst 0, 1) := by decide +kernel
theorem dX9_sheetAt_2 : decode cX9_sheetAt 2 = .ok (.iconst 3, 1) := by decide +kernel
theorem dX9_sheetAt_3 : decode cX9_sheetAt 3 = .ok (.invokestatic 56, 3) := by decide +kernel
theorem dX9_sheetAt_6 : decode cX9_sheetAt 6 = .ok (.ifCond .eq 12, 3) := by decide +kernel
theorem dX9_sheetAt_9 : decode cX9_sheetAt 9 = .ok (.aload_n 0, 1) := by decide +kernel
theorem dX9_sheetAt_10 : decode cX9_sheetAt 10 = .ok (.getfield 38, 3) := by decide +kernel
theorem dX9_sheetAt_13 : decode cX9_sheetAt 13 = .ok (.iload_n 1, 1) := by decide +kernel
theorem dX9_sheetAt_14 : decode cX9_sheetAt 14 = .ok (.aaload, 1) := by decide +kernel
theorem dX9_sheetAt_15 : decode cX9_sheetAt 15 = .ok (.goto 4, 3) := by decide +kernel
theorem dX9_sheetAt_18 : decode cX9_sheetAt 18 = .ok (.aconst_null, 1) := by decide +kernel
theorem dX9_sheetAt_19 : decode cX9_sheetAt 19 = .ok (.areturn, 1) := by decide +kernel
theorem dX9_rain_0 : decode cX9_rain 0 = .ok (.iload_n 1, 1) := by decide +kernel
theorem dX9_rain_1 : decode cX9_rain 1 = .ok (.iconst 0, 1) := by decide +kernel
theorem dX9_rain_2 : decode cX9_rain 2 = .ok (.iconst 2, 1) := by decide +kernel
theorem dX9_rain_3 : decode cX9_rain 3 = .ok (.invokestatic 56, 3) := by decide +kernel
theorem dX9_rain_6 : decode cX9_rain 6 = .ok (.ifCond .eq 23, 3) := by decide +kernel
theorem dX9_rain_9 : decode cX9_rain 9 = .ok (.iload_n 2, 1) := by decide +kernel
theorem dX9_rain_10 : decode cX9_rain 10 = .ok (.iconst 0, 1) := by decide +kernel
theorem dX9_rain_11 : decode cX9_rain 11 = .ok (.bipush 23, 2) := by decide +kernel
theorem dX9_rain_13 : decode cX9_rain 13 = .ok (.invokestatic 56, 3) := by decide +kernel
theorem dX9_rain_16 : decode cX9_rain 16 = .ok (.ifCond .eq 13, 3) := by decide +kernel
theorem dX9_rain_19 : decode cX9_rain 19 = .ok (.iload_n 3, 1) := by decide +kernel
theorem dX9_rain_20 : decode cX9_rain 20 = .ok (.iconst 0, 1) := by decide +kernel
theorem dX9_rain_21 : decode cX9_rain 21 = .ok (.bipush 9, 2) := by decide +kernel
theorem dX9_rain_23 : decode cX9_rain 23 = .ok (.invokestatic 56, 3) := by decide +kernel
theorem dX9_rain_26 : decode cX9_rain 26 = .ok (.ifCond .ne 9, 3) := by decide +kernel
theorem dX9_rain_29 : decode cX9_rain 29 = .ok (.aload_n 0, 1) := by decide +kernel
theorem dX9_rain_30 : decode cX9_rain 30 = .ok (.iconst 1, 1) := by decide +kernel
theorem dX9_rain_31 : decode cX9_rain 31 = .ok (.invokevirtual 68, 3) := by decide +kernel
theorem dX9_rain_34 : decode cX9_rain 34 = .ok (.ireturn, 1) := by decide +kernel
theorem dX9_rain_35 : decode cX9_rain 35 = .ok (.aload_n 0, 1) := by decide +kernel
theorem dX9_rain_36 : decode cX9_rain 36 = .ok (.getfield 10, 3) := by decide +kernel
theorem dX9_rain_39 : decode cX9_rain 39 = .ok (.getfield 72, 3) := by decide +kernel
theorem dX9_rain_42 : decode cX9_rain 42 = .ok (.iload_n 1, 1) := by decide +kernel
theorem dX9_rain_43 : decode cX9_rain 43 = .ok (.iload_n 2, 1) := by decide +kernel
theorem dX9_rain_44 : decode cX9_rain 44 = .ok (.invokevirtual 76, 3) := by decide +kernel
theorem dX9_rain_47 : decode cX9_rain 47 = .ok (.istore 4, 2) := by decide +kernel
theorem dX9_rain_49 : decode cX9_rain 49 = .ok (.aload_n 0, 1) := by decide +kernel
theorem dX9_rain_50 : decode cX9_rain 50 = .ok (.getfield 10, 3) := by decide +kernel
theorem dX9_rain_53 : decode cX9_rain 53 = .ok (.getfield 72, 3) := by decide +kernel
theorem dX9_rain_56 : decode cX9_rain 56 = .ok (.iload_n 1, 1) := by decide +kernel
theorem dX9_rain_57 : decode cX9_rain 57 = .ok (.iload_n 2, 1) := by decide +kernel
theorem dX9_rain_58 : decode cX9_rain 58 = .ok (.iload_n 3, 1) := by decide +kernel
theorem dX9_rain_59 : decode cX9_rain 59 = .ok (.invokevirtual 81, 3) := by decide +kernel
theorem dX9_rain_62 : decode cX9_rain 62 = .ok (.iload 4, 2) := by decide +kernel
theorem dX9_rain_64 : decode cX9_rain 64 = .ok (.ireturn, 1) := by decide +kernel
theorem dX9_set_0 : decode cX9_set 0 = .ok (.iload_n 1, 1) := by decide +kernel
theorem dX9_set_1 : decode cX9_set 1 = .ok (.iload_n 2, 1) := by decide +kernel
theorem dX9_set_2 : decode cX9_set 2 = .ok (.invokestatic 85, 3) := by decide +kernel
theorem dX9_set_5 : decode cX9_set 5 = .ok (.ifCond .ne 9, 3) := by decide +kernel
theorem dX9_set_8 : decode cX9_set 8 = .ok (.aload_n 0, 1) := by decide +kernel
theorem dX9_set_9 : decode cX9_set 9 = .ok (.iconst 1, 1) := by decide +kernel
theorem dX9_set_10 : decode cX9_set 10 = .ok (.invokevirtual 68, 3) := by decide +kernel
theorem dX9_set_13 : decode cX9_set 13 = .ok (.ireturn, 1) := by decide +kernel
theorem dX9_set_14 : decode cX9_set 14 = .ok (.aload_n 0, 1) := by decide +kernel
theorem dX9_set_15 : decode cX9_set 15 = .ok (.getfield 10, 3) := by decide +kernel
theorem dX9_set_18 : decode cX9_set 18 = .ok (.iload_n 1, 1) := by decide +kernel
theorem dX9_set_19 : decode cX9_set 19 = .ok (.invokevirtual 89, 3) := by decide +kernel
theorem dX9_set_22 : decode cX9_set 22 = .ok (.istore_n 3, 1) := by decide +kernel
theorem dX9_set_23 : decode cX9_set 23 = .ok (.aload_n 0, 1) := by decide +kernel
theorem dX9_set_24 : decode cX9_set 24 = .ok (.getfield 10, 3) := by decide +kernel
theorem dX9_set_27 : decode cX9_set 27 = .ok (.iload_n 1, 1) := by decide +kernel
theorem dX9_set_28 : decode cX9_set 28 = .ok (.iload_n 2, 1) := by decide +kernel
theorem dX9_set_29 : decode cX9_set 29 = .ok (.invokevirtual 92, 3) := by decide +kernel
theorem dX9_set_32 : decode cX9_set 32 = .ok (.iload_n 3, 1) := by decide +kernel
theorem dX9_set_33 : decode cX9_set 33 = .ok (.ireturn, 1) := by decide +kernel
theorem dX9_now_0 : decode cX9_now 0 = .ok (.iload_n 1, 1) := by decide +kernel
theorem dX9_now_1 : decode cX9_now 1 = .ok (.iconst 0, 1) := by decide +kernel
theorem dX9_now_2 : decode cX9_now 2 = .ok (.bipush 12, 2) := by decide +kernel
theorem dX9_now_4 : decode cX9_now 4 = .ok (.invokestatic 56, 3) := by decide +kernel
theorem dX9_now_7 : decode cX9_now 7 = .ok (.ifCond .ne 9, 3) := by decide +kernel
theorem dX9_now_10 : decode cX9_now 10 = .ok (.aload_n 0, 1) := by decide +kernel
theorem dX9_now_11 : decode cX9_now 11 = .ok (.iconst 1, 1) := by decide +kernel
theorem dX9_now_12 : decode cX9_now 12 = .ok (.invokevirtual 68, 3) := by decide +kernel
theorem dX9_now_15 : decode cX9_now 15 = .ok (.ireturn, 1) := by decide +kernel
theorem dX9_now_16 : decode cX9_now 16 = .ok (.aload_n 0, 1) := by decide +kernel
theorem dX9_now_17 : decode cX9_now 17 = .ok (.getfield 10, 3) := by decide +kernel
theorem dX9_now_20 : decode cX9_now 20 = .ok (.iload_n 1, 1) := by decide +kernel
theorem dX9_now_21 : decode cX9_now 21 = .ok (.invokevirtual 96, 3) := by decide +kernel
theorem dX9_now_24 : decode cX9_now 24 = .ok (.ireturn, 1) := by decide +kernel
theorem dX9_led_0 : decode cX9_led 0 = .ok (.iload_n 1, 1) := by decide +kernel
theorem dX9_led_1 : decode cX9_led 1 = .ok (.iconst 0, 1) := by decide +kernel
theorem dX9_led_2 : decode cX9_led 2 = .ok (.bipush 23, 2) := by decide +kernel
theorem dX9_led_4 : decode cX9_led 4 = .ok (.invokestatic 56, 3) := by decide +kernel
theorem dX9_led_7 : decode cX9_led 7 = .ok (.ifCond .ne 9, 3) := by decide +kernel
theorem dX9_led_10 : decode cX9_led 10 = .ok (.aload_n 0, 1) := by decide +kernel
theorem dX9_led_11 : decode cX9_led 11 = .ok (.iconst 1, 1) := by decide +kernel
theorem dX9_led_12 : decode cX9_led 12 = .ok (.invokevirtual 68, 3) := by decide +kernel
theorem dX9_led_15 : decode cX9_led 15 = .ok (.ireturn, 1) := by decide +kernel
theorem dX9_led_16 : decode cX9_led 16 = .ok (.aload_n 0, 1) := by decide +kernel
theorem dX9_led_17 : decode cX9_led 17 = .ok (.getfield 10, 3) := by decide +kernel
theorem dX9_led_20 : decode cX9_led 20 = .ok (.getfield 72, 3) := by decide +kernel
theorem dX9_led_23 : decode cX9_led 23 = .ok (.iload_n 1, 1) := by decide +kernel
theorem dX9_led_24 : decode cX9_led 24 = .ok (.invokevirtual 99, 3) := by decide +kernel
theorem dX9_led_27 : decode cX9_led 27 = .ok (.istore_n 2, 1) := by decide +kernel
theorem dX9_led_28 : decode cX9_led 28 = .ok (.iload_n 2, 1) := by decide +kernel
theorem dX9_led_29 : decode cX9_led 29 = .ok (.ifCond .ge 11, 3) := by decide +kernel
theorem dX9_led_32 : decode cX9_led 32 = .ok (.aload_n 0, 1) := by decide +kernel
theorem dX9_led_33 : decode cX9_led 33 = .ok (.iconst 2, 1) := by decide +kernel
theorem dX9_led_34 : decode cX9_led 34 = .ok (.invokevirtual 68, 3) := by decide +kernel
theorem dX9_led_37 : decode cX9_led 37 = .ok (.goto 4, 3) := by decide +kernel
theorem dX9_led_40 : decode cX9_led 40 = .ok (.iload_n 2, 1) := by decide +kernel
theorem dX9_led_41 : decode cX9_led 41 = .ok (.ireturn, 1) := by decide +kernel
theorem dX9_thing_0 : decode cX9_thing 0 = .ok (.iload_n 1, 1) := by decide +kernel
theorem dX9_thing_1 : decode cX9_thing 1 = .ok (.iconst 0, 1) := by decide +kernel
theorem dX9_thing_2 : decode cX9_thing 2 = .ok (.iconst 5, 1) := by decide +kernel
theorem dX9_thing_3 : decode cX9_thing 3 = .ok (.invokestatic 56, 3) := by decide +kernel
theorem dX9_thing_6 : decode cX9_thing 6 = .ok (.ifCond .eq 14, 3) := by decide +kernel
theorem dX9_thing_9 : decode cX9_thing 9 = .ok (.iload_n 2, 1) := by decide +kernel
theorem dX9_thing_10 : decode cX9_thing 10 = .ok (.iconst 0, 1) := by decide +kernel
theorem dX9_thing_11 : decode cX9_thing 11 = .ok (.sipush 600, 3) := by decide +kernel
theorem dX9_thing_14 : decode cX9_thing 14 = .ok (.invokestatic 56, 3) := by decide +kernel
theorem dX9_thing_17 : decode cX9_thing 17 = .ok (.ifCond .ne 9, 3) := by decide +kernel
theorem dX9_thing_20 : decode cX9_thing 20 = .ok (.aload_n 0, 1) := by decide +kernel
theorem dX9_thing_21 : decode cX9_thing 21 = .ok (.iconst 1, 1) := by decide +kernel
theorem dX9_thing_22 : decode cX9_thing 22 = .ok (.invokevirtual 68, 3) := by decide +kernel
theorem dX9_thing_25 : decode cX9_thing 25 = .ok (.ireturn, 1) := by decide +kernel
theorem dX9_thing_26 : decode cX9_thing 26 = .ok (.aload_n 0, 1) := by decide +kernel
theorem dX9_thing_27 : decode cX9_thing 27 = .ok (.getfield 10, 3) := by decide +kernel
theorem dX9_thing_30 : decode cX9_thing 30 = .ok (.getfield 102, 3) := by decide +kernel
theorem dX9_thing_33 : decode cX9_thing 33 = .ok (.iload_n 1, 1) := by decide +kernel
theorem dX9_thing_34 : decode cX9_thing 34 = .ok (.iaload, 1) := by decide +kernel
theorem dX9_thing_35 : decode cX9_thing 35 = .ok (.istore_n 3, 1) := by decide +kernel
theorem dX9_thing_36 : decode cX9_thing 36 = .ok (.aload_n 0, 1) := by decide +kernel
theorem dX9_thing_37 : decode cX9_thing 37 = .ok (.getfield 10, 3) := by decide +kernel
theorem dX9_thing_40 : decode cX9_thing 40 = .ok (.getfield 102, 3) := by decide +kernel
theorem dX9_thing_43 : decode cX9_thing 43 = .ok (.iload_n 1, 1) := by decide +kernel
theorem dX9_thing_44 : decode cX9_thing 44 = .ok (.iload_n 2, 1) := by decide +kernel
theorem dX9_thing_45 : decode cX9_thing 45 = .ok (.iastore, 1) := by decide +kernel
theorem dX9_thing_46 : decode cX9_thing 46 = .ok (.iload_n 3, 1) := by decide +kernel
theorem dX9_thing_47 : decode cX9_thing 47 = .ok (.ireturn, 1) := by decide +kernel
theorem dX9_shows_0 : decode cX9_shows 0 = .ok (.iconst 0, 1) := by decide +kernel
theorem dX9_shows_1 : decode cX9_shows 1 = .ok (.istore_n 1, 1) := by decide +kernel
theorem dX9_shows_2 : decode cX9_shows 2 = .ok (.iconst 0, 1) := by decide +kernel
theorem dX9_shows_3 : decode cX9_shows 3 = .ok (.istore_n 2, 1) := by decide +kernel
theorem dX9_shows_4 : decode cX9_shows 4 = .ok (.iload_n 2, 1) := by decide +kernel
theorem dX9_shows_5 : decode cX9_shows 5 = .ok (.bipush 6, 2) := by decide +kernel
theorem dX9_shows_7 : decode cX9_shows 7 = .ok (.if_icmp .ge 26, 3) := by decide +kernel
theorem dX9_shows_10 : decode cX9_shows 10 = .ok (.aload_n 0, 1) := by decide +kernel
theorem dX9_shows_11 : decode cX9_shows 11 = .ok (.getfield 10, 3) := by decide +kernel
theorem dX9_shows_14 : decode cX9_shows 14 = .ok (.iload_n 2, 1) := by decide +kernel
theorem dX9_shows_15 : decode cX9_shows 15 = .ok (.invokevirtual 105, 3) := by decide +kernel
theorem dX9_shows_18 : decode cX9_shows 18 = .ok (.ifCond .eq 9, 3) := by decide +kernel
theorem dX9_shows_21 : decode cX9_shows 21 = .ok (.iload_n 1, 1) := by decide +kernel
theorem dX9_shows_22 : decode cX9_shows 22 = .ok (.iconst 1, 1) := by decide +kernel
theorem dX9_shows_23 : decode cX9_shows 23 = .ok (.iload_n 2, 1) := by decide +kernel
theorem dX9_shows_24 : decode cX9_shows 24 = .ok (.ishl, 1) := by decide +kernel
theorem dX9_shows_25 : decode cX9_shows 25 = .ok (.ior, 1) := by decide +kernel
theorem dX9_shows_26 : decode cX9_shows 26 = .ok (.istore_n 1, 1) := by decide +kernel
theorem dX9_shows_27 : decode cX9_shows 27 = .ok (.iinc 2 1, 3) := by decide +kernel
theorem dX9_shows_30 : decode cX9_shows 30 = .ok (.goto (-26), 3) := by decide +kernel
theorem dX9_shows_33 : decode cX9_shows 33 = .ok (.iload_n 1, 1) := by decide +kernel
theorem dX9_shows_34 : decode cX9_shows 34 = .ok (.ireturn, 1) := by decide +kernel
theorem dX9_fisher_0 : decode cX9_fisher 0 = .ok (.iload_n 1, 1) := by decide +kernel
theorem dX9_fisher_1 : decode cX9_fisher 1 = .ok (.iconst 0, 1) := by decide +kernel
theorem dX9_fisher_2 : decode cX9_fisher 2 = .ok (.bipush 69, 2) := by decide +kernel
theorem dX9_fisher_4 : decode cX9_fisher 4 = .ok (.invokestatic 56, 3) := by decide +kernel
theorem dX9_fisher_7 : decode cX9_fisher 7 = .ok (.ifCond .eq 13, 3) := by decide +kernel
theorem dX9_fisher_10 : decode cX9_fisher 10 = .ok (.iload_n 2, 1) := by decide +kernel
theorem dX9_fisher_11 : decode cX9_fisher 11 = .ok (.iconst 0, 1) := by decide +kernel
theorem dX9_fisher_12 : decode cX9_fisher 12 = .ok (.bipush 99, 2) := by decide +kernel
theorem dX9_fisher_14 : decode cX9_fisher 14 = .ok (.invokestatic 56, 3) := by decide +kernel
theorem dX9_fisher_17 : decode cX9_fisher 17 = .ok (.ifCond .ne 9, 3) := by decide +kernel
theorem dX9_fisher_20 : decode cX9_fisher 20 = .ok (.aload_n 0, 1) := by decide +kernel
theorem dX9_fisher_21 : decode cX9_fisher 21 = .ok (.iconst 1, 1) := by decide +kernel
theorem dX9_fisher_22 : decode cX9_fisher 22 = .ok (.invokevirtual 68, 3) := by decide +kernel
theorem dX9_fisher_25 : decode cX9_fisher 25 = .ok (.ireturn, 1) := by decide +kernel
theorem dX9_fisher_26 : decode cX9_fisher 26 = .ok (.aload_n 0, 1) := by decide +kernel
theorem dX9_fisher_27 : decode cX9_fisher 27 = .ok (.getfield 10, 3) := by decide +kernel
theorem dX9_fisher_30 : decode cX9_fisher 30 = .ok (.getfield 109, 3) := by decide +kernel
theorem dX9_fisher_33 : decode cX9_fisher 33 = .ok (.istore_n 3, 1) := by decide +kernel
theorem dX9_fisher_34 : decode cX9_fisher 34 = .ok (.iload_n 3, 1) := by decide +kernel
theorem dX9_fisher_35 : decode cX9_fisher 35 = .ok (.iconst 0, 1) := by decide +kernel
theorem dX9_fisher_36 : decode cX9_fisher 36 = .ok (.bipush 7, 2) := by decide +kernel
theorem dX9_fisher_38 : decode cX9_fisher 38 = .ok (.invokestatic 56, 3) := by decide +kernel
theorem dX9_fisher_41 : decode cX9_fisher 41 = .ok (.ifCond .ne 9, 3) := by decide +kernel
theorem dX9_fisher_44 : decode cX9_fisher 44 = .ok (.aload_n 0, 1) := by decide +kernel
theorem dX9_fisher_45 : decode cX9_fisher 45 = .ok (.iconst 4, 1) := by decide +kernel
theorem dX9_fisher_46 : decode cX9_fisher 46 = .ok (.invokevirtual 68, 3) := by decide +kernel
theorem dX9_fisher_49 : decode cX9_fisher 49 = .ok (.ireturn, 1) := by decide +kernel
theorem dX9_fisher_50 : decode cX9_fisher 50 = .ok (.aload_n 0, 1) := by decide +kernel
theorem dX9_fisher_51 : decode cX9_fisher 51 = .ok (.getfield 10, 3) := by decide +kernel
theorem dX9_fisher_54 : decode cX9_fisher 54 = .ok (.getfield 113, 3) := by decide +kernel
theorem dX9_fisher_57 : decode cX9_fisher 57 = .ok (.iload_n 3, 1) := by decide +kernel
theorem dX9_fisher_58 : decode cX9_fisher 58 = .ok (.aaload, 1) := by decide +kernel
theorem dX9_fisher_59 : decode cX9_fisher 59 = .ok (.iload_n 1, 1) := by decide +kernel
theorem dX9_fisher_60 : decode cX9_fisher 60 = .ok (.iload_n 2, 1) := by decide +kernel
theorem dX9_fisher_61 : decode cX9_fisher 61 = .ok (.invokevirtual 117, 3) := by decide +kernel
theorem dX9_fisher_64 : decode cX9_fisher 64 = .ok (.aload_n 0, 1) := by decide +kernel
theorem dX9_fisher_65 : decode cX9_fisher 65 = .ok (.getfield 10, 3) := by decide +kernel
theorem dX9_fisher_68 : decode cX9_fisher 68 = .ok (.iload_n 3, 1) := by decide +kernel
theorem dX9_fisher_69 : decode cX9_fisher 69 = .ok (.iconst 1, 1) := by decide +kernel
theorem dX9_fisher_70 : decode cX9_fisher 70 = .ok (.iadd, 1) := by decide +kernel
theorem dX9_fisher_71 : decode cX9_fisher 71 = .ok (.putfield 109, 3) := by decide +kernel
theorem dX9_fisher_74 : decode cX9_fisher 74 = .ok (.iload_n 3, 1) := by decide +kernel
theorem dX9_fisher_75 : decode cX9_fisher 75 = .ok (.ireturn, 1) := by decide +kernel
theorem dX9_ofFisher_0 : decode cX9_ofFisher 0 = .ok (.aload_n 0, 1) := by decide +kernel
theorem dX9_ofFisher_1 : decode cX9_ofFisher 1 = .ok (.getfield 10, 3) := by decide +kernel
theorem dX9_ofFisher_4 : decode cX9_ofFisher 4 = .ok (.iload_n 1, 1) := by decide +kernel
theorem dX9_ofFisher_5 : decode cX9_ofFisher 5 = .ok (.invokevirtual 122, 3) := by decide +kernel
theorem dX9_ofFisher_8 : decode cX9_ofFisher 8 = .ok (.astore_n 3, 1) := by decide +kernel
theorem dX9_ofFisher_9 : decode cX9_ofFisher 9 = .ok (.aload_n 3, 1) := by decide +kernel
theorem dX9_ofFisher_10 : decode cX9_ofFisher 10 = .ok (.ifnull 13, 3) := by decide +kernel
theorem dX9_ofFisher_13 : decode cX9_ofFisher 13 = .ok (.iload_n 2, 1) := by decide +kernel
theorem dX9_ofFisher_14 : decode cX9_ofFisher 14 = .ok (.iconst 0, 1) := by decide +kernel
theorem dX9_ofFisher_15 : decode cX9_ofFisher 15 = .ok (.bipush 7, 2) := by decide +kernel
theorem dX9_ofFisher_17 : decode cX9_ofFisher 17 = .ok (.invokestatic 56, 3) := by decide +kernel
theorem dX9_ofFisher_20 : decode cX9_ofFisher 20 = .ok (.ifCond .ne 9, 3) := by decide +kernel
theorem dX9_ofFisher_23 : decode cX9_ofFisher 23 = .ok (.aload_n 0, 1) := by decide +kernel
theorem dX9_ofFisher_24 : decode cX9_ofFisher 24 = .ok (.iconst 1, 1) := by decide +kernel
theorem dX9_ofFisher_25 : decode cX9_ofFisher 25 = .ok (.invokevirtual 68, 3) := by decide +kernel
theorem dX9_ofFisher_28 : decode cX9_ofFisher 28 = .ok (.ireturn, 1) := by decide +kernel
theorem dX9_ofFisher_29 : decode cX9_ofFisher 29 = .ok (.aload_n 0, 1) := by decide +kernel
theorem dX9_ofFisher_30 : decode cX9_ofFisher 30 = .ok (.getfield 10, 3) := by decide +kernel
theorem dX9_ofFisher_33 : decode cX9_ofFisher 33 = .ok (.aload_n 3, 1) := by decide +kernel
theorem dX9_ofFisher_34 : decode cX9_ofFisher 34 = .ok (.iload_n 2, 1) := by decide +kernel
theorem dX9_ofFisher_35 : decode cX9_ofFisher 35 = .ok (.invokevirtual 126, 3) := by decide +kernel
theorem dX9_ofFisher_38 : decode cX9_ofFisher 38 = .ok (.ireturn, 1) := by decide +kernel
theorem dX9_change_0 : decode cX9_change 0 = .ok (.aload_n 0, 1) := by decide +kernel
theorem dX9_change_1 : decode cX9_change 1 = .ok (.getfield 10, 3) := by decide +kernel
theorem dX9_change_4 : decode cX9_change 4 = .ok (.iload_n 1, 1) := by decide +kernel
theorem dX9_change_5 : decode cX9_change 5 = .ok (.invokevirtual 122, 3) := by decide +kernel
theorem dX9_change_8 : decode cX9_change 8 = .ok (.astore 4, 2) := by decide +kernel
theorem dX9_change_10 : decode cX9_change 10 = .ok (.aload 4, 2) := by decide +kernel
theorem dX9_change_12 : decode cX9_change 12 = .ok (.ifnonnull 9, 3) := by decide +kernel
theorem dX9_change_15 : decode cX9_change 15 = .ok (.aload_n 0, 1) := by decide +kernel
theorem dX9_change_16 : decode cX9_change 16 = .ok (.iconst 1, 1) := by decide +kernel
theorem dX9_change_17 : decode cX9_change 17 = .ok (.invokevirtual 68, 3) := by decide +kernel
theorem dX9_change_20 : decode cX9_change 20 = .ok (.ireturn, 1) := by decide +kernel
theorem dX9_change_21 : decode cX9_change 21 = .ok (.iload_n 2, 1) := by decide +kernel
theorem dX9_change_22 : decode cX9_change 22 = .ok (.iconst 2, 1) := by decide +kernel
theorem dX9_change_23 : decode cX9_change 23 = .ok (.if_icmp .ne 29, 3) := by decide +kernel
theorem dX9_change_26 : decode cX9_change 26 = .ok (.iload_n 3, 1) := by decide +kernel
theorem dX9_change_27 : decode cX9_change 27 = .ok (.iconst 0, 1) := by decide +kernel
theorem dX9_change_28 : decode cX9_change 28 = .ok (.bipush 99, 2) := by decide +kernel
theorem dX9_change_30 : decode cX9_change 30 = .ok (.invokestatic 56, 3) := by decide +kernel
theorem dX9_change_33 : decode cX9_change 33 = .ok (.ifCond .eq 19, 3) := by decide +kernel
theorem dX9_change_36 : decode cX9_change 36 = .ok (.aload 4, 2) := by decide +kernel
theorem dX9_change_38 : decode cX9_change 38 = .ok (.getfield 130, 3) := by decide +kernel
theorem dX9_change_41 : decode cX9_change 41 = .ok (.istore 5, 2) := by decide +kernel
theorem dX9_change_43 : decode cX9_change 43 = .ok (.aload 4, 2) := by decide +kernel
theorem dX9_change_45 : decode cX9_change 45 = .ok (.iload_n 3, 1) := by decide +kernel
theorem dX9_change_46 : decode cX9_change 46 = .ok (.putfield 130, 3) := by decide +kernel
theorem dX9_change_49 : decode cX9_change 49 = .ok (.iload 5, 2) := by decide +kernel
theorem dX9_change_51 : decode cX9_change 51 = .ok (.ireturn, 1) := by decide +kernel
theorem dX9_change_52 : decode cX9_change 52 = .ok (.iload_n 2, 1) := by decide +kernel
theorem dX9_change_53 : decode cX9_change 53 = .ok (.iconst 3, 1) := by decide +kernel
theorem dX9_change_54 : decode cX9_change 54 = .ok (.if_icmp .ne 30, 3) := by decide +kernel
theorem dX9_change_57 : decode cX9_change 57 = .ok (.iload_n 3, 1) := by decide +kernel
theorem dX9_change_58 : decode cX9_change 58 = .ok (.iconst 0, 1) := by decide +kernel
theorem dX9_change_59 : decode cX9_change 59 = .ok (.sipush 9999, 3) := by decide +kernel
theorem dX9_change_62 : decode cX9_change 62 = .ok (.invokestatic 56, 3) := by decide +kernel
theorem dX9_change_65 : decode cX9_change 65 = .ok (.ifCond .eq 19, 3) := by decide +kernel
theorem dX9_change_68 : decode cX9_change 68 = .ok (.aload 4, 2) := by decide +kernel
theorem dX9_change_70 : decode cX9_change 70 = .ok (.getfield 133, 3) := by decide +kernel
theorem dX9_change_73 : decode cX9_change 73 = .ok (.istore 5, 2) := by decide +kernel
theorem dX9_change_75 : decode cX9_change 75 = .ok (.aload 4, 2) := by decide +kernel
theorem dX9_change_77 : decode cX9_change 77 = .ok (.iload_n 3, 1) := by decide +kernel
theorem dX9_change_78 : decode cX9_change 78 = .ok (.putfield 133, 3) := by decide +kernel
theorem dX9_change_81 : decode cX9_change 81 = .ok (.iload 5, 2) := by decide +kernel
theorem dX9_change_83 : decode cX9_change 83 = .ok (.ireturn, 1) := by decide +kernel
theorem dX9_change_84 : decode cX9_change 84 = .ok (.aload_n 0, 1) := by decide +kernel
theorem dX9_change_85 : decode cX9_change 85 = .ok (.iconst 1, 1) := by decide +kernel
theorem dX9_change_86 : decode cX9_change 86 = .ok (.invokevirtual 68, 3) := by decide +kernel
theorem dX9_change_89 : decode cX9_change 89 = .ok (.ireturn, 1) := by decide +kernel
theorem dX9_become_0 : decode cX9_become 0 = .ok (.aload_n 0, 1) := by decide +kernel
theorem dX9_become_1 : decode cX9_become 1 = .ok (.getfield 10, 3) := by decide +kernel
theorem dX9_become_4 : decode cX9_become 4 = .ok (.iload_n 1, 1) := by decide +kernel
theorem dX9_become_5 : decode cX9_become 5 = .ok (.invokevirtual 122, 3) := by decide +kernel
theorem dX9_become_8 : decode cX9_become 8 = .ok (.astore_n 3, 1) := by decide +kernel
theorem dX9_become_9 : decode cX9_become 9 = .ok (.aload_n 3, 1) := by decide +kernel
theorem dX9_become_10 : decode cX9_become 10 = .ok (.ifnull 13, 3) := by decide +kernel
theorem dX9_become_13 : decode cX9_become 13 = .ok (.iload_n 2, 1) := by decide +kernel
theorem dX9_become_14 : decode cX9_become 14 = .ok (.iconst 0, 1) := by decide +kernel
theorem dX9_become_15 : decode cX9_become 15 = .ok (.bipush 69, 2) := by decide +kernel
theorem dX9_become_17 : decode cX9_become 17 = .ok (.invokestatic 56, 3) := by decide +kernel
theorem dX9_become_20 : decode cX9_become 20 = .ok (.ifCond .ne 9, 3) := by decide +kernel
theorem dX9_become_23 : decode cX9_become 23 = .ok (.aload_n 0, 1) := by decide +kernel
theorem dX9_become_24 : decode cX9_become 24 = .ok (.iconst 1, 1) := by decide +kernel
theorem dX9_become_25 : decode cX9_become 25 = .ok (.invokevirtual 68, 3) := by decide +kernel
theorem dX9_become_28 : decode cX9_become 28 = .ok (.ireturn, 1) := by decide +kernel
theorem dX9_become_29 : decode cX9_become 29 = .ok (.aload_n 3, 1) := by decide +kernel
theorem dX9_become_30 : decode cX9_become 30 = .ok (.getfield 136, 3) := by decide +kernel
theorem dX9_become_33 : decode cX9_become 33 = .ok (.istore 4, 2) := by decide +kernel
theorem dX9_become_35 : decode cX9_become 35 = .ok (.aload_n 3, 1) := by decide +kernel
theorem dX9_become_36 : decode cX9_become 36 = .ok (.iload_n 2, 1) := by decide +kernel
theorem dX9_become_37 : decode cX9_become 37 = .ok (.invokevirtual 139, 3) := by decide +kernel
theorem dX9_become_40 : decode cX9_become 40 = .ok (.iload 4, 2) := by decide +kernel
theorem dX9_become_42 : decode cX9_become 42 = .ok (.ireturn, 1) := by decide +kernel
theorem dX9_as_0 : decode cX9_as 0 = .ok (.aload_n 0, 1) := by decide +kernel
theorem dX9_as_1 : decode cX9_as 1 = .ok (.getfield 10, 3) := by decide +kernel
theorem dX9_as_4 : decode cX9_as 4 = .ok (.iload_n 1, 1) := by decide +kernel
theorem dX9_as_5 : decode cX9_as 5 = .ok (.invokevirtual 122, 3) := by decide +kernel
theorem dX9_as_8 : decode cX9_as 8 = .ok (.astore_n 3, 1) := by decide +kernel
theorem dX9_as_9 : decode cX9_as 9 = .ok (.aload_n 3, 1) := by decide +kernel
theorem dX9_as_10 : decode cX9_as 10 = .ok (.ifnull 13, 3) := by decide +kernel
theorem dX9_as_13 : decode cX9_as 13 = .ok (.iload_n 2, 1) := by decide +kernel
theorem dX9_as_14 : decode cX9_as 14 = .ok (.iconst 0, 1) := by decide +kernel
theorem dX9_as_15 : decode cX9_as 15 = .ok (.bipush 6, 2) := by decide +kernel
theorem dX9_as_17 : decode cX9_as 17 = .ok (.invokestatic 56, 3) := by decide +kernel
theorem dX9_as_20 : decode cX9_as 20 = .ok (.ifCond .ne 9, 3) := by decide +kernel
theorem dX9_as_23 : decode cX9_as 23 = .ok (.aload_n 0, 1) := by decide +kernel
theorem dX9_as_24 : decode cX9_as 24 = .ok (.iconst 1, 1) := by decide +kernel
theorem dX9_as_25 : decode cX9_as 25 = .ok (.invokevirtual 68, 3) := by decide +kernel
theorem dX9_as_28 : decode cX9_as 28 = .ok (.ireturn, 1) := by decide +kernel
theorem dX9_as_29 : decode cX9_as 29 = .ok (.aload_n 3, 1) := by decide +kernel
theorem dX9_as_30 : decode cX9_as 30 = .ok (.iload_n 2, 1) := by decide +kernel
theorem dX9_as_31 : decode cX9_as 31 = .ok (.invokevirtual 143, 3) := by decide +kernel
theorem dX9_as_34 : decode cX9_as 34 = .ok (.ifCond .eq 10, 3) := by decide +kernel
theorem dX9_as_37 : decode cX9_as 37 = .ok (.aload_n 3, 1) := by decide +kernel
theorem dX9_as_38 : decode cX9_as 38 = .ok (.getfield 146, 3) := by decide +kernel
theorem dX9_as_41 : decode cX9_as 41 = .ok (.goto 8, 3) := by decide +kernel
theorem dX9_as_44 : decode cX9_as 44 = .ok (.aload_n 0, 1) := by decide +kernel
theorem dX9_as_45 : decode cX9_as 45 = .ok (.iconst 5, 1) := by decide +kernel
theorem dX9_as_46 : decode cX9_as 46 = .ok (.invokevirtual 68, 3) := by decide +kernel
theorem dX9_as_49 : decode cX9_as 49 = .ok (.ireturn, 1) := by decide +kernel
theorem dX9_bids_0 : decode cX9_bids 0 = .ok (.aload_n 0, 1) := by decide +kernel
theorem dX9_bids_1 : decode cX9_bids 1 = .ok (.getfield 10, 3) := by decide +kernel
theorem dX9_bids_4 : decode cX9_bids 4 = .ok (.iload_n 1, 1) := by decide +kernel
theorem dX9_bids_5 : decode cX9_bids 5 = .ok (.invokevirtual 122, 3) := by decide +kernel
theorem dX9_bids_8 : decode cX9_bids 8 = .ok (.astore 4, 2) := by decide +kernel
theorem dX9_bids_10 : decode cX9_bids 10 = .ok (.aload 4, 2) := by decide +kernel
theorem dX9_bids_12 : decode cX9_bids 12 = .ok (.ifnull 25, 3) := by decide +kernel
theorem dX9_bids_15 : decode cX9_bids 15 = .ok (.iload_n 2, 1) := by decide +kernel
theorem dX9_bids_16 : decode cX9_bids 16 = .ok (.iconst 0, 1) := by decide +kernel
theorem dX9_bids_17 : decode cX9_bids 17 = .ok (.sipush 999, 3) := by decide +kernel
theorem dX9_bids_20 : decode cX9_bids 20 = .ok (.invokestatic 56, 3) := by decide +kernel
theorem dX9_bids_23 : decode cX9_bids 23 = .ok (.ifCond .eq 14, 3) := by decide +kernel
theorem dX9_bids_26 : decode cX9_bids 26 = .ok (.iload_n 3, 1) := by decide +kernel
theorem dX9_bids_27 : decode cX9_bids 27 = .ok (.iconst 1, 1) := by decide +kernel
theorem dX9_bids_28 : decode cX9_bids 28 = .ok (.sipush 999, 3) := by decide +kernel
theorem dX9_bids_31 : decode cX9_bids 31 = .ok (.invokestatic 56, 3) := by decide +kernel
theorem dX9_bids_34 : decode cX9_bids 34 = .ok (.ifCond .ne 9, 3) := by decide +kernel
theorem dX9_bids_37 : decode cX9_bids 37 = .ok (.aload_n 0, 1) := by decide +kernel
theorem dX9_bids_38 : decode cX9_bids 38 = .ok (.iconst 1, 1) := by decide +kernel
theorem dX9_bids_39 : decode cX9_bids 39 = .ok (.invokevirtual 68, 3) := by decide +kernel
theorem dX9_bids_42 : decode cX9_bids 42 = .ok (.ireturn, 1) := by decide +kernel
theorem dX9_bids_43 : decode cX9_bids 43 = .ok (.aload 4, 2) := by decide +kernel
theorem dX9_bids_45 : decode cX9_bids 45 = .ok (.iload_n 2, 1) := by decide +kernel
theorem dX9_bids_46 : decode cX9_bids 46 = .ok (.iload_n 3, 1) := by decide +kernel
theorem dX9_bids_47 : decode cX9_bids 47 = .ok (.invokevirtual 149, 3) := by decide +kernel
theorem dX9_bids_50 : decode cX9_bids 50 = .ok (.ireturn, 1) := by decide +kernel
theorem dX9_sell_0 : decode cX9_sell 0 = .ok (.aconst_null, 1) := by decide +kernel
theorem dX9_sell_1 : decode cX9_sell 1 = .ok (.astore_n 1, 1) := by decide +kernel
theorem dX9_sell_2 : decode cX9_sell 2 = .ok (.iconst 0, 1) := by decide +kernel
theorem dX9_sell_3 : decode cX9_sell 3 = .ok (.istore_n 2, 1) := by decide +kernel
theorem dX9_sell_4 : decode cX9_sell 4 = .ok (.iconst 0, 1) := by decide +kernel
theorem dX9_sell_5 : decode cX9_sell 5 = .ok (.istore_n 3, 1) := by decide +kernel
theorem dX9_sell_6 : decode cX9_sell 6 = .ok (.iconst 0, 1) := by decide +kernel
theorem dX9_sell_7 : decode cX9_sell 7 = .ok (.istore 4, 2) := by decide +kernel
theorem dX9_sell_9 : decode cX9_sell 9 = .ok (.iconst 0, 1) := by decide +kernel
theorem dX9_sell_10 : decode cX9_sell 10 = .ok (.istore 5, 2) := by decide +kernel
theorem dX9_sell_12 : decode cX9_sell 12 = .ok (.iload 5, 2) := by decide +kernel
theorem dX9_sell_14 : decode cX9_sell 14 = .ok (.aload_n 0, 1) := by decide +kernel
theorem dX9_sell_15 : decode cX9_sell 15 = .ok (.getfield 10, 3) := by decide +kernel
theorem dX9_sell_18 : decode cX9_sell 18 = .ok (.getfield 109, 3) := by decide +kernel
theorem dX9_sell_21 : decode cX9_sell 21 = .ok (.if_icmp .ge 80, 3) := by decide +kernel
theorem dX9_sell_24 : decode cX9_sell 24 = .ok (.aload_n 0, 1) := by decide +kernel
theorem dX9_sell_25 : decode cX9_sell 25 = .ok (.getfield 10, 3) := by decide +kernel
theorem dX9_sell_28 : decode cX9_sell 28 = .ok (.iload 5, 2) := by decide +kernel
theorem dX9_sell_30 : decode cX9_sell 30 = .ok (.invokevirtual 122, 3) := by decide +kernel
theorem dX9_sell_33 : decode cX9_sell 33 = .ok (.astore 6, 2) := by decide +kernel
theorem dX9_sell_35 : decode cX9_sell 35 = .ok (.aload 6, 2) := by decide +kernel
theorem dX9_sell_37 : decode cX9_sell 37 = .ok (.ifnull 11, 3) := by decide +kernel
theorem dX9_sell_40 : decode cX9_sell 40 = .ok (.aload 6, 2) := by decide +kernel
theorem dX9_sell_42 : decode cX9_sell 42 = .ok (.getfield 152, 3) := by decide +kernel
theorem dX9_sell_45 : decode cX9_sell 45 = .ok (.ifCond .ne 7, 3) := by decide +kernel
theorem dX9_sell_48 : decode cX9_sell 48 = .ok (.iconst 0, 1) := by decide +kernel
theorem dX9_sell_49 : decode cX9_sell 49 = .ok (.goto 12, 3) := by decide +kernel
theorem dX9_sell_52 : decode cX9_sell 52 = .ok (.aload_n 0, 1) := by decide +kernel
theorem dX9_sell_53 : decode cX9_sell 53 = .ok (.getfield 10, 3) := by decide +kernel
theorem dX9_sell_56 : decode cX9_sell 56 = .ok (.aload 6, 2) := by decide +kernel
theorem dX9_sell_58 : decode cX9_sell 58 = .ok (.invokevirtual 155, 3) := by decide +kernel
theorem dX9_sell_61 : decode cX9_sell 61 = .ok (.istore 7, 2) := by decide +kernel
theorem dX9_sell_63 : decode cX9_sell 63 = .ok (.iload 7, 2) := by decide +kernel
theorem dX9_sell_65 : decode cX9_sell 65 = .ok (.iload_n 3, 1) := by decide +kernel
theorem dX9_sell_66 : decode cX9_sell 66 = .ok (.if_icmp .le 18, 3) := by decide +kernel
theorem dX9_sell_69 : decode cX9_sell 69 = .ok (.aload 6, 2) := by decide +kernel
theorem dX9_sell_71 : decode cX9_sell 71 = .ok (.astore_n 1, 1) := by decide +kernel
theorem dX9_sell_72 : decode cX9_sell 72 = .ok (.iload 5, 2) := by decide +kernel
theorem dX9_sell_74 : decode cX9_sell 74 = .ok (.istore_n 2, 1) := by decide +kernel
theorem dX9_sell_75 : decode cX9_sell 75 = .ok (.iload_n 3, 1) := by decide +kernel
theorem dX9_sell_76 : decode cX9_sell 76 = .ok (.istore 4, 2) := by decide +kernel
theorem dX9_sell_78 : decode cX9_sell 78 = .ok (.iload 7, 2) := by decide +kernel
theorem dX9_sell_80 : decode cX9_sell 80 = .ok (.istore_n 3, 1) := by decide +kernel
theorem dX9_sell_81 : decode cX9_sell 81 = .ok (.goto 14, 3) := by decide +kernel
theorem dX9_sell_84 : decode cX9_sell 84 = .ok (.iload 7, 2) := by decide +kernel
theorem dX9_sell_86 : decode cX9_sell 86 = .ok (.iload 4, 2) := by decide +kernel
theorem dX9_sell_88 : decode cX9_sell 88 = .ok (.if_icmp .le 7, 3) := by decide +kernel
theorem dX9_sell_91 : decode cX9_sell 91 = .ok (.iload 7, 2) := by decide +kernel
theorem dX9_sell_93 : decode cX9_sell 93 = .ok (.istore 4, 2) := by decide +kernel
theorem dX9_sell_95 : decode cX9_sell 95 = .ok (.iinc 5 1, 3) := by decide +kernel
theorem dX9_sell_98 : decode cX9_sell 98 = .ok (.goto (-86), 3) := by decide +kernel
theorem dX9_sell_101 : decode cX9_sell 101 = .ok (.aload_n 1, 1) := by decide +kernel
theorem dX9_sell_102 : decode cX9_sell 102 = .ok (.ifnonnull 9, 3) := by decide +kernel
theorem dX9_sell_105 : decode cX9_sell 105 = .ok (.aload_n 0, 1) := by decide +kernel
theorem dX9_sell_106 : decode cX9_sell 106 = .ok (.iconst 2, 1) := by decide +kernel
theorem dX9_sell_107 : decode cX9_sell 107 = .ok (.invokevirtual 68, 3) := by decide +kernel
theorem dX9_sell_110 : decode cX9_sell 110 = .ok (.ireturn, 1) := by decide +kernel
theorem dX9_sell_111 : decode cX9_sell 111 = .ok (.aload_n 1, 1) := by decide +kernel
theorem dX9_sell_112 : decode cX9_sell 112 = .ok (.dup, 1) := by decide +kernel
theorem dX9_sell_113 : decode cX9_sell 113 = .ok (.getfield 133, 3) := by decide +kernel
theorem dX9_sell_116 : decode cX9_sell 116 = .ok (.iload 4, 2) := by decide +kernel
theorem dX9_sell_118 : decode cX9_sell 118 = .ok (.isub, 1) := by decide +kernel
theorem dX9_sell_119 : decode cX9_sell 119 = .ok (.putfield 133, 3) := by decide +kernel
theorem dX9_sell_122 : decode cX9_sell 122 = .ok (.iload_n 2, 1) := by decide +kernel
theorem dX9_sell_123 : decode cX9_sell 123 = .ok (.ireturn, 1) := by decide +kernel
theorem dX9_feed_0 : decode cX9_feed 0 = .ok (.iload_n 3, 1) := by decide +kernel
theorem dX9_feed_1 : decode cX9_feed 1 = .ok (.iconst 1, 1) := by decide +kernel
theorem dX9_feed_2 : decode cX9_feed 2 = .ok (.bipush 8, 2) := by decide +kernel
theorem dX9_feed_4 : decode cX9_feed 4 = .ok (.invokestatic 56, 3) := by decide +kernel
theorem dX9_feed_7 : decode cX9_feed 7 = .ok (.ifCond .ne 9, 3) := by decide +kernel
theorem dX9_feed_10 : decode cX9_feed 10 = .ok (.aload_n 0, 1) := by decide +kernel
theorem dX9_feed_11 : decode cX9_feed 11 = .ok (.iconst 1, 1) := by decide +kernel
theorem dX9_feed_12 : decode cX9_feed 12 = .ok (.invokevirtual 68, 3) := by decide +kernel
theorem dX9_feed_15 : decode cX9_feed 15 = .ok (.ireturn, 1) := by decide +kernel
theorem dX9_feed_16 : decode cX9_feed 16 = .ok (.aload_n 0, 1) := by decide +kernel
theorem dX9_feed_17 : decode cX9_feed 17 = .ok (.getfield 10, 3) := by decide +kernel
theorem dX9_feed_20 : decode cX9_feed 20 = .ok (.getfield 159, 3) := by decide +kernel
theorem dX9_feed_23 : decode cX9_feed 23 = .ok (.getfield 163, 3) := by decide +kernel
theorem dX9_feed_26 : decode cX9_feed 26 = .ok (.iload_n 3, 1) := by decide +kernel
theorem dX9_feed_27 : decode cX9_feed 27 = .ok (.iadd, 1) := by decide +kernel
theorem dX9_feed_28 : decode cX9_feed 28 = .ok (.bipush 50, 2) := by decide +kernel
theorem dX9_feed_30 : decode cX9_feed 30 = .ok (.if_icmp .le 9, 3) := by decide +kernel
theorem dX9_feed_33 : decode cX9_feed 33 = .ok (.aload_n 0, 1) := by decide +kernel
theorem dX9_feed_34 : decode cX9_feed 34 = .ok (.iconst 4, 1) := by decide +kernel
theorem dX9_feed_35 : decode cX9_feed 35 = .ok (.invokevirtual 68, 3) := by decide +kernel
theorem dX9_feed_38 : decode cX9_feed 38 = .ok (.ireturn, 1) := by decide +kernel
theorem dX9_feed_39 : decode cX9_feed 39 = .ok (.aload_n 0, 1) := by decide +kernel
theorem dX9_feed_40 : decode cX9_feed 40 = .ok (.getfield 10, 3) := by decide +kernel
theorem dX9_feed_43 : decode cX9_feed 43 = .ok (.getfield 159, 3) := by decide +kernel
theorem dX9_feed_46 : decode cX9_feed 46 = .ok (.lload_n 1, 1) := by decide +kernel
theorem dX9_feed_47 : decode cX9_feed 47 = .ok (.iload_n 3, 1) := by decide +kernel
theorem dX9_feed_48 : decode cX9_feed 48 = .ok (.invokevirtual 168, 3) := by decide +kernel
theorem dX9_feed_51 : decode cX9_feed 51 = .ok (.aload_n 0, 1) := by decide +kernel
theorem dX9_feed_52 : decode cX9_feed 52 = .ok (.getfield 10, 3) := by decide +kernel
theorem dX9_feed_55 : decode cX9_feed 55 = .ok (.getfield 159, 3) := by decide +kernel
theorem dX9_feed_58 : decode cX9_feed 58 = .ok (.getfield 163, 3) := by decide +kernel
theorem dX9_feed_61 : decode cX9_feed 61 = .ok (.ireturn, 1) := by decide +kernel
theorem dX9_text_0 : decode cX9_text 0 = .ok (.iload_n 1, 1) := by decide +kernel
theorem dX9_text_1 : decode cX9_text 1 = .ok (.iconst 0, 1) := by decide +kernel
theorem dX9_text_2 : decode cX9_text 2 = .ok (.iconst 1, 1) := by decide +kernel
theorem dX9_text_3 : decode cX9_text 3 = .ok (.invokestatic 56, 3) := by decide +kernel
theorem dX9_text_6 : decode cX9_text 6 = .ok (.ifCond .ne 9, 3) := by decide +kernel
theorem dX9_text_9 : decode cX9_text 9 = .ok (.aload_n 0, 1) := by decide +kernel
theorem dX9_text_10 : decode cX9_text 10 = .ok (.iconst 1, 1) := by decide +kernel
theorem dX9_text_11 : decode cX9_text 11 = .ok (.invokevirtual 68, 3) := by decide +kernel
theorem dX9_text_14 : decode cX9_text 14 = .ok (.ireturn, 1) := by decide +kernel
theorem dX9_text_15 : decode cX9_text 15 = .ok (.aload_n 0, 1) := by decide +kernel
theorem dX9_text_16 : decode cX9_text 16 = .ok (.getfield 25, 3) := by decide +kernel
theorem dX9_text_19 : decode cX9_text 19 = .ok (.aload_n 0, 1) := by decide +kernel
theorem dX9_text_20 : decode cX9_text 20 = .ok (.getfield 10, 3) := by decide +kernel
theorem dX9_text_23 : decode cX9_text 23 = .ok (.getfield 159, 3) := by decide +kernel
theorem dX9_text_26 : decode cX9_text 26 = .ok (.iload_n 1, 1) := by decide +kernel
theorem dX9_text_27 : decode cX9_text 27 = .ok (.ifCond .ne 8, 3) := by decide +kernel
theorem dX9_text_30 : decode cX9_text 30 = .ok (.ldc 172, 2) := by decide +kernel
theorem dX9_text_32 : decode cX9_text 32 = .ok (.goto 5, 3) := by decide +kernel
theorem dX9_text_35 : decode cX9_text 35 = .ok (.ldc 174, 2) := by decide +kernel
theorem dX9_text_37 : decode cX9_text 37 = .ok (.invokevirtual 176, 3) := by decide +kernel
theorem dX9_text_40 : decode cX9_text 40 = .ok (.istore_n 2, 1) := by decide +kernel
theorem dX9_text_41 : decode cX9_text 41 = .ok (.aload_n 0, 1) := by decide +kernel
theorem dX9_text_42 : decode cX9_text 42 = .ok (.getfield 10, 3) := by decide +kernel
theorem dX9_text_45 : decode cX9_text 45 = .ok (.getfield 159, 3) := by decide +kernel
theorem dX9_text_48 : decode cX9_text 48 = .ok (.iconst 0, 1) := by decide +kernel
theorem dX9_text_49 : decode cX9_text 49 = .ok (.putfield 163, 3) := by decide +kernel
theorem dX9_text_52 : decode cX9_text 52 = .ok (.iload_n 2, 1) := by decide +kernel
theorem dX9_text_53 : decode cX9_text 53 = .ok (.ifCond .lt 8, 3) := by decide +kernel
theorem dX9_text_56 : decode cX9_text 56 = .ok (.bipush (-10), 2) := by decide +kernel
theorem dX9_text_58 : decode cX9_text 58 = .ok (.iload_n 2, 1) := by decide +kernel
theorem dX9_text_59 : decode cX9_text 59 = .ok (.isub, 1) := by decide +kernel
theorem dX9_text_60 : decode cX9_text 60 = .ok (.ireturn, 1) := by decide +kernel
theorem dX9_text_61 : decode cX9_text 61 = .ok (.iload_n 1, 1) := by decide +kernel
theorem dX9_text_62 : decode cX9_text 62 = .ok (.ifCond .ne 13, 3) := by decide +kernel
theorem dX9_text_65 : decode cX9_text 65 = .ok (.aload_n 0, 1) := by decide +kernel
theorem dX9_text_66 : decode cX9_text 66 = .ok (.getfield 10, 3) := by decide +kernel
theorem dX9_text_69 : decode cX9_text 69 = .ok (.getfield 180, 3) := by decide +kernel
theorem dX9_text_72 : decode cX9_text 72 = .ok (.goto 10, 3) := by decide +kernel
theorem dX9_text_75 : decode cX9_text 75 = .ok (.aload_n 0, 1) := by decide +kernel
theorem dX9_text_76 : decode cX9_text 76 = .ok (.getfield 10, 3) := by decide +kernel
theorem dX9_text_79 : decode cX9_text 79 = .ok (.getfield 184, 3) := by decide +kernel
theorem dX9_text_82 : decode cX9_text 82 = .ok (.aload_n 0, 1) := by decide +kernel
theorem dX9_text_83 : decode cX9_text 83 = .ok (.getfield 25, 3) := by decide +kernel
theorem dX9_text_86 : decode cX9_text 86 = .ok (.getfield 187, 3) := by decide +kernel
theorem dX9_text_89 : decode cX9_text 89 = .ok (.invokevirtual 190, 3) := by decide +kernel
theorem dX9_text_92 : decode cX9_text 92 = .ok (.iconst 1, 1) := by decide +kernel
theorem dX9_text_93 : decode cX9_text 93 = .ok (.ireturn, 1) := by decide +kernel
theorem dX9_law_0 : decode cX9_law 0 = .ok (.iload_n 1, 1) := by decide +kernel
theorem dX9_law_1 : decode cX9_law 1 = .ok (.iconst 0, 1) := by decide +kernel
theorem dX9_law_2 : decode cX9_law 2 = .ok (.iconst 1, 1) := by decide +kernel
theorem dX9_law_3 : decode cX9_law 3 = .ok (.invokestatic 56, 3) := by decide +kernel
theorem dX9_law_6 : decode cX9_law 6 = .ok (.ifCond .ne 9, 3) := by decide +kernel
theorem dX9_law_9 : decode cX9_law 9 = .ok (.aload_n 0, 1) := by decide +kernel
theorem dX9_law_10 : decode cX9_law 10 = .ok (.iconst 1, 1) := by decide +kernel
theorem dX9_law_11 : decode cX9_law 11 = .ok (.invokevirtual 68, 3) := by decide +kernel
theorem dX9_law_14 : decode cX9_law 14 = .ok (.ireturn, 1) := by decide +kernel
theorem dX9_law_15 : decode cX9_law 15 = .ok (.iload_n 1, 1) := by decide +kernel
theorem dX9_law_16 : decode cX9_law 16 = .ok (.ifCond .ne 17, 3) := by decide +kernel
theorem dX9_law_19 : decode cX9_law 19 = .ok (.aload_n 0, 1) := by decide +kernel
theorem dX9_law_20 : decode cX9_law 20 = .ok (.getfield 10, 3) := by decide +kernel
theorem dX9_law_23 : decode cX9_law 23 = .ok (.iload_n 2, 1) := by decide +kernel
theorem dX9_law_24 : decode cX9_law 24 = .ok (.iload_n 3, 1) := by decide +kernel
theorem dX9_law_25 : decode cX9_law 25 = .ok (.iload 4, 2) := by decide +kernel
theorem dX9_law_27 : decode cX9_law 27 = .ok (.invokevirtual 195, 3) := by decide +kernel
theorem dX9_law_30 : decode cX9_law 30 = .ok (.goto 14, 3) := by decide +kernel
theorem dX9_law_33 : decode cX9_law 33 = .ok (.aload_n 0, 1) := by decide +kernel
theorem dX9_law_34 : decode cX9_law 34 = .ok (.getfield 10, 3) := by decide +kernel
theorem dX9_law_37 : decode cX9_law 37 = .ok (.iload_n 2, 1) := by decide +kernel
theorem dX9_law_38 : decode cX9_law 38 = .ok (.iload_n 3, 1) := by decide +kernel
theorem dX9_law_39 : decode cX9_law 39 = .ok (.iload 4, 2) := by decide +kernel
theorem dX9_law_41 : decode cX9_law 41 = .ok (.invokevirtual 199, 3) := by decide +kernel
theorem dX9_law_44 : decode cX9_law 44 = .ok (.ireturn, 1) := by decide +kernel
theorem dX9_hours_0 : decode cX9_hours 0 = .ok (.aload_n 0, 1) := by decide +kernel
theorem dX9_hours_1 : decode cX9_hours 1 = .ok (.iload_n 1, 1) := by decide +kernel
theorem dX9_hours_2 : decode cX9_hours 2 = .ok (.iconst 0, 1) := by decide +kernel
theorem dX9_hours_3 : decode cX9_hours 3 = .ok (.invokevirtual 202, 3) := by decide +kernel
theorem dX9_hours_6 : decode cX9_hours 6 = .ok (.ireturn, 1) := by decide +kernel
theorem dX9_loose_0 : decode cX9_loose 0 = .ok (.aload_n 0, 1) := by decide +kernel
theorem dX9_loose_1 : decode cX9_loose 1 = .ok (.iload_n 1, 1) := by decide +kernel
theorem dX9_loose_2 : decode cX9_loose 2 = .ok (.iconst 1, 1) := by decide +kernel
theorem dX9_loose_3 : decode cX9_loose 3 = .ok (.invokevirtual 202, 3) := by decide +kernel
theorem dX9_loose_6 : decode cX9_loose 6 = .ok (.ireturn, 1) := by decide +kernel
theorem dX9_passHours_0 : decode cX9_passHours 0 = .ok (.iload_n 1, 1) := by decide +kernel
theorem dX9_passHours_1 : decode cX9_passHours 1 = .ok (.iconst 1, 1) := by decide +kernel
theorem dX9_passHours_2 : decode cX9_passHours 2 = .ok (.sipush 240, 3) := by decide +kernel
theorem dX9_passHours_5 : decode cX9_passHours 5 = .ok (.invokestatic 56, 3) := by decide +kernel
theorem dX9_passHours_8 : decode cX9_passHours 8 = .ok (.ifCond .ne 9, 3) := by decide +kernel
theorem dX9_passHours_11 : decode cX9_passHours 11 = .ok (.aload_n 0, 1) := by decide +kernel
theorem dX9_passHours_12 : decode cX9_passHours 12 = .ok (.iconst 1, 1) := by decide +kernel
theorem dX9_passHours_13 : decode cX9_passHours 13 = .ok (.invokevirtual 68, 3) := by decide +kernel
theorem dX9_passHours_16 : decode cX9_passHours 16 = .ok (.ireturn, 1) := by decide +kernel
theorem dX9_passHours_17 : decode cX9_passHours 17 = .ok (.aload_n 0, 1) := by decide +kernel
theorem dX9_passHours_18 : decode cX9_passHours 18 = .ok (.getfield 10, 3) := by decide +kernel
theorem dX9_passHours_21 : decode cX9_passHours 21 = .ok (.getfield 206, 3) := by decide +kernel
theorem dX9_passHours_24 : decode cX9_passHours 24 = .ok (.iload_n 1, 1) := by decide +kernel
theorem dX9_passHours_25 : decode cX9_passHours 25 = .ok (.iadd, 1) := by decide +kernel
theorem dX9_passHours_26 : decode cX9_passHours 26 = .ok (.sipush 9999, 3) := by decide +kernel
theorem dX9_passHours_29 : decode cX9_passHours 29 = .ok (.if_icmp .le 9, 3) := by decide +kernel
theorem dX9_passHours_32 : decode cX9_passHours 32 = .ok (.aload_n 0, 1) := by decide +kernel
theorem dX9_passHours_33 : decode cX9_passHours 33 = .ok (.iconst 3, 1) := by decide +kernel
theorem dX9_passHours_34 : decode cX9_passHours 34 = .ok (.invokevirtual 68, 3) := by decide +kernel
theorem dX9_passHours_37 : decode cX9_passHours 37 = .ok (.ireturn, 1) := by decide +kernel
theorem dX9_passHours_38 : decode cX9_passHours 38 = .ok (.iconst 0, 1) := by decide +kernel
theorem dX9_passHours_39 : decode cX9_passHours 39 = .ok (.istore_n 3, 1) := by decide +kernel
theorem dX9_passHours_40 : decode cX9_passHours 40 = .ok (.iload_n 3, 1) := by decide +kernel
theorem dX9_passHours_41 : decode cX9_passHours 41 = .ok (.iload_n 1, 1) := by decide +kernel
theorem dX9_passHours_42 : decode cX9_passHours 42 = .ok (.if_icmp .ge 27, 3) := by decide +kernel
theorem dX9_passHours_45 : decode cX9_passHours 45 = .ok (.iload_n 2, 1) := by decide +kernel
theorem dX9_passHours_46 : decode cX9_passHours 46 = .ok (.ifCond .eq 10, 3) := by decide +kernel
theorem dX9_passHours_49 : decode cX9_passHours 49 = .ok (.aload_n 0, 1) := by decide +kernel
theorem dX9_passHours_50 : decode cX9_passHours 50 = .ok (.getfield 10, 3) := by decide +kernel
theorem dX9_passHours_53 : decode cX9_passHours 53 = .ok (.invokevirtual 209, 3) := by decide +kernel
theorem dX9_passHours_56 : decode cX9_passHours 56 = .ok (.aload_n 0, 1) := by decide +kernel
theorem dX9_passHours_57 : decode cX9_passHours 57 = .ok (.getfield 10, 3) := by decide +kernel
theorem dX9_passHours_60 : decode cX9_passHours 60 = .ok (.invokevirtual 65, 3) := by decide +kernel
theorem dX9_passHours_63 : decode cX9_passHours 63 = .ok (.iinc 3 1, 3) := by decide +kernel
theorem dX9_passHours_66 : decode cX9_passHours 66 = .ok (.goto (-26), 3) := by decide +kernel
theorem dX9_passHours_69 : decode cX9_passHours 69 = .ok (.aload_n 0, 1) := by decide +kernel
theorem dX9_passHours_70 : decode cX9_passHours 70 = .ok (.getfield 10, 3) := by decide +kernel
theorem dX9_passHours_73 : decode cX9_passHours 73 = .ok (.getfield 212, 3) := by decide +kernel
theorem dX9_passHours_76 : decode cX9_passHours 76 = .ok (.ireturn, 1) := by decide +kernel
theorem dX9_then_0 : decode cX9_then 0 = .ok (.iload_n 1, 1) := by decide +kernel
theorem dX9_then_1 : decode cX9_then 1 = .ok (.iconst 0, 1) := by decide +kernel
theorem dX9_then_2 : decode cX9_then 2 = .ok (.sipush 240, 3) := by decide +kernel
theorem dX9_then_5 : decode cX9_then 5 = .ok (.invokestatic 56, 3) := by decide +kernel
theorem dX9_then_8 : decode cX9_then 8 = .ok (.ifCond .eq 13, 3) := by decide +kernel
theorem dX9_then_11 : decode cX9_then 11 = .ok (.iload_n 2, 1) := by decide +kernel
theorem dX9_then_12 : decode cX9_then 12 = .ok (.iconst 0, 1) := by decide +kernel
theorem dX9_then_13 : decode cX9_then 13 = .ok (.bipush 12, 2) := by decide +kernel
theorem dX9_then_15 : decode cX9_then 15 = .ok (.invokestatic 56, 3) := by decide +kernel
theorem dX9_then_18 : decode cX9_then 18 = .ok (.ifCond .ne 9, 3) := by decide +kernel
theorem dX9_then_21 : decode cX9_then 21 = .ok (.aload_n 0, 1) := by decide +kernel
theorem dX9_then_22 : decode cX9_then 22 = .ok (.iconst 1, 1) := by decide +kernel
theorem dX9_then_23 : decode cX9_then 23 = .ok (.invokevirtual 68, 3) := by decide +kernel
theorem dX9_then_26 : decode cX9_then 26 = .ok (.ireturn, 1) := by decide +kernel
theorem dX9_then_27 : decode cX9_then 27 = .ok (.aload_n 0, 1) := by decide +kernel
theorem dX9_then_28 : decode cX9_then 28 = .ok (.iload_n 1, 1) := by decide +kernel
theorem dX9_then_29 : decode cX9_then 29 = .ok (.invokevirtual 215, 3) := by decide +kernel
theorem dX9_then_32 : decode cX9_then 32 = .ok (.aload_n 0, 1) := by decide +kernel
theorem dX9_then_33 : decode cX9_then 33 = .ok (.getfield 16, 3) := by decide +kernel
theorem dX9_then_36 : decode cX9_then 36 = .ok (.iload_n 2, 1) := by decide +kernel
theorem dX9_then_37 : decode cX9_then 37 = .ok (.invokevirtual 96, 3) := by decide +kernel
theorem dX9_then_40 : decode cX9_then 40 = .ok (.ireturn, 1) := by decide +kernel
theorem dX9_thenFisher_0 : decode cX9_thenFisher 0 = .ok (.iload_n 1, 1) := by decide +kernel
theorem dX9_thenFisher_1 : decode cX9_thenFisher 1 = .ok (.iconst 0, 1) := by decide +kernel
theorem dX9_thenFisher_2 : decode cX9_thenFisher 2 = .ok (.sipush 240, 3) := by decide +kernel
theorem dX9_thenFisher_5 : decode cX9_thenFisher 5 = .ok (.invokestatic 56, 3) := by decide +kernel
theorem dX9_thenFisher_8 : decode cX9_thenFisher 8 = .ok (.ifCond .eq 24, 3) := by decide +kernel
theorem dX9_thenFisher_11 : decode cX9_thenFisher 11 = .ok (.aload_n 0, 1) := by decide +kernel
theorem dX9_thenFisher_12 : decode cX9_thenFisher 12 = .ok (.getfield 10, 3) := by decide +kernel
theorem dX9_thenFisher_15 : decode cX9_thenFisher 15 = .ok (.iload_n 2, 1) := by decide +kernel
theorem dX9_thenFisher_16 : decode cX9_thenFisher 16 = .ok (.invokevirtual 122, 3) := by decide +kernel
theorem dX9_thenFisher_19 : decode cX9_thenFisher 19 = .ok (.ifnull 13, 3) := by decide +kernel
theorem dX9_thenFisher_22 : decode cX9_thenFisher 22 = .ok (.iload_n 3, 1) := by decide +kernel
theorem dX9_thenFisher_23 : decode cX9_thenFisher 23 = .ok (.iconst 0, 1) := by decide +kernel
theorem dX9_thenFisher_24 : decode cX9_thenFisher 24 = .ok (.bipush 7, 2) := by decide +kernel
theorem dX9_thenFisher_26 : decode cX9_thenFisher 26 = .ok (.invokestatic 56, 3) := by decide +kernel
theorem dX9_thenFisher_29 : decode cX9_thenFisher 29 = .ok (.ifCond .ne 9, 3) := by decide +kernel
theorem dX9_thenFisher_32 : decode cX9_thenFisher 32 = .ok (.aload_n 0, 1) := by decide +kernel
theorem dX9_thenFisher_33 : decode cX9_thenFisher 33 = .ok (.iconst 1, 1) := by decide +kernel
theorem dX9_thenFisher_34 : decode cX9_thenFisher 34 = .ok (.invokevirtual 68, 3) := by decide +kernel
theorem dX9_thenFisher_37 : decode cX9_thenFisher 37 = .ok (.ireturn, 1) := by decide +kernel
theorem dX9_thenFisher_38 : decode cX9_thenFisher 38 = .ok (.aload_n 0, 1) := by decide +kernel
theorem dX9_thenFisher_39 : decode cX9_thenFisher 39 = .ok (.iload_n 1, 1) := by decide +kernel
theorem dX9_thenFisher_40 : decode cX9_thenFisher 40 = .ok (.invokevirtual 215, 3) := by decide +kernel
theorem dX9_thenFisher_43 : decode cX9_thenFisher 43 = .ok (.aload_n 0, 1) := by decide +kernel
theorem dX9_thenFisher_44 : decode cX9_thenFisher 44 = .ok (.getfield 16, 3) := by decide +kernel
theorem dX9_thenFisher_47 : decode cX9_thenFisher 47 = .ok (.iload_n 2, 1) := by decide +kernel
theorem dX9_thenFisher_48 : decode cX9_thenFisher 48 = .ok (.invokevirtual 122, 3) := by decide +kernel
theorem dX9_thenFisher_51 : decode cX9_thenFisher 51 = .ok (.astore 4, 2) := by decide +kernel
theorem dX9_thenFisher_53 : decode cX9_thenFisher 53 = .ok (.aload 4, 2) := by decide +kernel
theorem dX9_thenFisher_55 : decode cX9_thenFisher 55 = .ok (.ifnonnull 11, 3) := by decide +kernel
theorem dX9_thenFisher_58 : decode cX9_thenFisher 58 = .ok (.aload_n 0, 1) := by decide +kernel
theorem dX9_thenFisher_59 : decode cX9_thenFisher 59 = .ok (.iconst 1, 1) := by decide +kernel
theorem dX9_thenFisher_60 : decode cX9_thenFisher 60 = .ok (.invokevirtual 68, 3) := by decide +kernel
theorem dX9_thenFisher_63 : decode cX9_thenFisher 63 = .ok (.goto 13, 3) := by decide +kernel
theorem dX9_thenFisher_66 : decode cX9_thenFisher 66 = .ok (.aload_n 0, 1) := by decide +kernel
theorem dX9_thenFisher_67 : decode cX9_thenFisher 67 = .ok (.getfield 16, 3) := by decide +kernel
theorem dX9_thenFisher_70 : decode cX9_thenFisher 70 = .ok (.aload 4, 2) := by decide +kernel
theorem dX9_thenFisher_72 : decode cX9_thenFisher 72 = .ok (.iload_n 3, 1) := by decide +kernel
theorem dX9_thenFisher_73 : decode cX9_thenFisher 73 = .ok (.invokevirtual 126, 3) := by decide +kernel
theorem dX9_thenFisher_76 : decode cX9_thenFisher 76 = .ok (.ireturn, 1) := by decide +kernel
theorem dX9_falls_0 : decode cX9_falls 0 = .ok (.iload_n 1, 1) := by decide +kernel
theorem dX9_falls_1 : decode cX9_falls 1 = .ok (.iconst 0, 1) := by decide +kernel
theorem dX9_falls_2 : decode cX9_falls 2 = .ok (.sipush 240, 3) := by decide +kernel
theorem dX9_falls_5 : decode cX9_falls 5 = .ok (.invokestatic 56, 3) := by decide +kernel
theorem dX9_falls_8 : decode cX9_falls 8 = .ok (.ifCond .ne 9, 3) := by decide +kernel
theorem dX9_falls_11 : decode cX9_falls 11 = .ok (.aload_n 0, 1) := by decide +kernel
theorem dX9_falls_12 : decode cX9_falls 12 = .ok (.iconst 1, 1) := by decide +kernel
theorem dX9_falls_13 : decode cX9_falls 13 = .ok (.invokevirtual 68, 3) := by decide +kernel
theorem dX9_falls_16 : decode cX9_falls 16 = .ok (.ireturn, 1) := by decide +kernel
theorem dX9_falls_17 : decode cX9_falls 17 = .ok (.aload_n 0, 1) := by decide +kernel
theorem dX9_falls_18 : decode cX9_falls 18 = .ok (.getfield 16, 3) := by decide +kernel
theorem dX9_falls_21 : decode cX9_falls 21 = .ok (.aload_n 0, 1) := by decide +kernel
theorem dX9_falls_22 : decode cX9_falls 22 = .ok (.getfield 10, 3) := by decide +kernel
theorem dX9_falls_25 : decode cX9_falls 25 = .ok (.invokevirtual 61, 3) := by decide +kernel
theorem dX9_falls_28 : decode cX9_falls 28 = .ok (.iconst 0, 1) := by decide +kernel
theorem dX9_falls_29 : decode cX9_falls 29 = .ok (.istore_n 2, 1) := by decide +kernel
theorem dX9_falls_30 : decode cX9_falls 30 = .ok (.iload_n 2, 1) := by decide +kernel
theorem dX9_falls_31 : decode cX9_falls 31 = .ok (.iload_n 1, 1) := by decide +kernel
theorem dX9_falls_32 : decode cX9_falls 32 = .ok (.if_icmp .gt 28, 3) := by decide +kernel
theorem dX9_falls_35 : decode cX9_falls 35 = .ok (.aload_n 0, 1) := by decide +kernel
theorem dX9_falls_36 : decode cX9_falls 36 = .ok (.getfield 16, 3) := by decide +kernel
theorem dX9_falls_39 : decode cX9_falls 39 = .ok (.invokevirtual 218, 3) := by decide +kernel
theorem dX9_falls_42 : decode cX9_falls 42 = .ok (.ifCond .ne 5, 3) := by decide +kernel
theorem dX9_falls_45 : decode cX9_falls 45 = .ok (.iload_n 2, 1) := by decide +kernel
theorem dX9_falls_46 : decode cX9_falls 46 = .ok (.ireturn, 1) := by decide +kernel
theorem dX9_falls_47 : decode cX9_falls 47 = .ok (.aload_n 0, 1) := by decide +kernel
theorem dX9_falls_48 : decode cX9_falls 48 = .ok (.getfield 16, 3) := by decide +kernel
theorem dX9_falls_51 : decode cX9_falls 51 = .ok (.invokevirtual 65, 3) := by decide +kernel
theorem dX9_falls_54 : decode cX9_falls 54 = .ok (.iinc 2 1, 3) := by decide +kernel
theorem dX9_falls_57 : decode cX9_falls 57 = .ok (.goto (-27), 3) := by decide +kernel
theorem dX9_falls_60 : decode cX9_falls 60 = .ok (.aload_n 0, 1) := by decide +kernel
theorem dX9_falls_61 : decode cX9_falls 61 = .ok (.iconst 2, 1) := by decide +kernel
theorem dX9_falls_62 : decode cX9_falls 62 = .ok (.invokevirtual 68, 3) := by decide +kernel
theorem dX9_falls_65 : decode cX9_falls 65 = .ok (.ireturn, 1) := by decide +kernel
theorem dX9_book_0 : decode cX9_book 0 = .ok (.iload_n 1, 1) := by decide +kernel
theorem dX9_book_1 : decode cX9_book 1 = .ok (.iconst 0, 1) := by decide +kernel
theorem dX9_book_2 : decode cX9_book 2 = .ok (.bipush 9, 2) := by decide +kernel
theorem dX9_book_4 : decode cX9_book 4 = .ok (.invokestatic 56, 3) := by decide +kernel
theorem dX9_book_7 : decode cX9_book 7 = .ok (.ifCond .eq 12, 3) := by decide +kernel
theorem dX9_book_10 : decode cX9_book 10 = .ok (.iload_n 2, 1) := by decide +kernel
theorem dX9_book_11 : decode cX9_book 11 = .ok (.iconst 0, 1) := by decide +kernel
theorem dX9_book_12 : decode cX9_book 12 = .ok (.iconst 1, 1) := by decide +kernel
theorem dX9_book_13 : decode cX9_book 13 = .ok (.invokestatic 56, 3) := by decide +kernel
theorem dX9_book_16 : decode cX9_book 16 = .ok (.ifCond .ne 9, 3) := by decide +kernel
theorem dX9_book_19 : decode cX9_book 19 = .ok (.aload_n 0, 1) := by decide +kernel
theorem dX9_book_20 : decode cX9_book 20 = .ok (.iconst 1, 1) := by decide +kernel
theorem dX9_book_21 : decode cX9_book 21 = .ok (.invokevirtual 68, 3) := by decide +kernel
theorem dX9_book_24 : decode cX9_book 24 = .ok (.ireturn, 1) := by decide +kernel
theorem dX9_book_25 : decode cX9_book 25 = .ok (.iload_n 2, 1) := by decide +kernel
theorem dX9_book_26 : decode cX9_book 26 = .ok (.ifCond .ne 18, 3) := by decide +kernel
theorem dX9_book_29 : decode cX9_book 29 = .ok (.aload_n 0, 1) := by decide +kernel
theorem dX9_book_30 : decode cX9_book 30 = .ok (.getfield 10, 3) := by decide +kernel
theorem dX9_book_33 : decode cX9_book 33 = .ok (.getfield 222, 3) := by decide +kernel
theorem dX9_book_36 : decode cX9_book 36 = .ok (.getfield 226, 3) := by decide +kernel
theorem dX9_book_39 : decode cX9_book 39 = .ok (.iload_n 1, 1) := by decide +kernel
theorem dX9_book_40 : decode cX9_book 40 = .ok (.iaload, 1) := by decide +kernel
theorem dX9_book_41 : decode cX9_book 41 = .ok (.goto 15, 3) := by decide +kernel
theorem dX9_book_44 : decode cX9_book 44 = .ok (.aload_n 0, 1) := by decide +kernel
theorem dX9_book_45 : decode cX9_book 45 = .ok (.getfield 10, 3) := by decide +kernel
theorem dX9_book_48 : decode cX9_book 48 = .ok (.getfield 222, 3) := by decide +kernel
theorem dX9_book_51 : decode cX9_book 51 = .ok (.getfield 231, 3) := by decide +kernel
theorem dX9_book_54 : decode cX9_book 54 = .ok (.iload_n 1, 1) := by decide +kernel
theorem dX9_book_55 : decode cX9_book 55 = .ok (.iaload, 1) := by decide +kernel
theorem dX9_book_56 : decode cX9_book 56 = .ok (.ireturn, 1) := by decide +kernel
theorem dX9_odds_0 : decode cX9_odds 0 = .ok (.iload_n 1, 1) := by decide +kernel
theorem dX9_odds_1 : decode cX9_odds 1 = .ok (.iconst 0, 1) := by decide +kernel
theorem dX9_odds_2 : decode cX9_odds 2 = .ok (.bipush 9, 2) := by decide +kernel
theorem dX9_odds_4 : decode cX9_odds 4 = .ok (.invokestatic 56, 3) := by decide +kernel
theorem dX9_odds_7 : decode cX9_odds 7 = .ok (.ifCond .eq 12, 3) := by decide +kernel
theorem dX9_odds_10 : decode cX9_odds 10 = .ok (.iload_n 2, 1) := by decide +kernel
theorem dX9_odds_11 : decode cX9_odds 11 = .ok (.iconst 0, 1) := by decide +kernel
theorem dX9_odds_12 : decode cX9_odds 12 = .ok (.iconst 1, 1) := by decide +kernel
theorem dX9_odds_13 : decode cX9_odds 13 = .ok (.invokestatic 56, 3) := by decide +kernel
theorem dX9_odds_16 : decode cX9_odds 16 = .ok (.ifCond .ne 10, 3) := by decide +kernel
theorem dX9_odds_19 : decode cX9_odds 19 = .ok (.aload_n 0, 1) := by decide +kernel
theorem dX9_odds_20 : decode cX9_odds 20 = .ok (.iconst 1, 1) := by decide +kernel
theorem dX9_odds_21 : decode cX9_odds 21 = .ok (.invokevirtual 68, 3) := by decide +kernel
theorem dX9_odds_24 : decode cX9_odds 24 = .ok (.i2l, 1) := by decide +kernel
theorem dX9_odds_25 : decode cX9_odds 25 = .ok (.lreturn, 1) := by decide +kernel
theorem dX9_odds_26 : decode cX9_odds 26 = .ok (.iload_n 2, 1) := by decide +kernel
theorem dX9_odds_27 : decode cX9_odds 27 = .ok (.ifCond .ne 18, 3) := by decide +kernel
theorem dX9_odds_30 : decode cX9_odds 30 = .ok (.aload_n 0, 1) := by decide +kernel
theorem dX9_odds_31 : decode cX9_odds 31 = .ok (.getfield 10, 3) := by decide +kernel
theorem dX9_odds_34 : decode cX9_odds 34 = .ok (.getfield 222, 3) := by decide +kernel
theorem dX9_odds_37 : decode cX9_odds 37 = .ok (.iload_n 1, 1) := by decide +kernel
theorem dX9_odds_38 : decode cX9_odds 38 = .ok (.invokevirtual 234, 3) := by decide +kernel
theorem dX9_odds_41 : decode cX9_odds 41 = .ok (.i2l, 1) := by decide +kernel
theorem dX9_odds_42 : decode cX9_odds 42 = .ok (.goto 15, 3) := by decide +kernel
theorem dX9_odds_45 : decode cX9_odds 45 = .ok (.aload_n 0, 1) := by decide +kernel
theorem dX9_odds_46 : decode cX9_odds 46 = .ok (.getfield 10, 3) := by decide +kernel
theorem dX9_odds_49 : decode cX9_odds 49 = .ok (.getfield 222, 3) := by decide +kernel
theorem dX9_odds_52 : decode cX9_odds 52 = .ok (.iload_n 1, 1) := by decide +kernel
theorem dX9_odds_53 : decode cX9_odds 53 = .ok (.invokevirtual 237, 3) := by decide +kernel
theorem dX9_odds_56 : decode cX9_odds 56 = .ok (.i2l, 1) := by decide +kernel
theorem dX9_odds_57 : decode cX9_odds 57 = .ok (.lreturn, 1) := by decide +kernel
theorem dX9_gateFor_0 : decode cX9_gateFor 0 = .ok (.iload_n 1, 1) := by decide +kernel
theorem dX9_gateFor_1 : decode cX9_gateFor 1 = .ok (.iconst 0, 1) := by decide +kernel
theorem dX9_gateFor_2 : decode cX9_gateFor 2 = .ok (.sipush 600, 3) := by decide +kernel
theorem dX9_gateFor_5 : decode cX9_gateFor 5 = .ok (.invokestatic 56, 3) := by decide +kernel
theorem dX9_gateFor_8 : decode cX9_gateFor 8 = .ok (.ifCond .eq 24, 3) := by decide +kernel
theorem dX9_gateFor_11 : decode cX9_gateFor 11 = .ok (.iload_n 2, 1) := by decide +kernel
theorem dX9_gateFor_12 : decode cX9_gateFor 12 = .ok (.iload_n 1, 1) := by decide +kernel
theorem dX9_gateFor_13 : decode cX9_gateFor 13 = .ok (.sipush 600, 3) := by decide +kernel
theorem dX9_gateFor_16 : decode cX9_gateFor 16 = .ok (.invokestatic 56, 3) := by decide +kernel
theorem dX9_gateFor_19 : decode cX9_gateFor 19 = .ok (.ifCond .eq 13, 3) := by decide +kernel
theorem dX9_gateFor_22 : decode cX9_gateFor 22 = .ok (.iload_n 3, 1) := by decide +kernel
theorem dX9_gateFor_23 : decode cX9_gateFor 23 = .ok (.iconst 1, 1) := by decide +kernel
theorem dX9_gateFor_24 : decode cX9_gateFor 24 = .ok (.bipush 48, 2) := by decide +kernel
theorem dX9_gateFor_26 : decode cX9_gateFor 26 = .ok (.invokestatic 56, 3) := by decide +kernel
theorem dX9_gateFor_29 : decode cX9_gateFor 29 = .ok (.ifCond .ne 9, 3) := by decide +kernel
theorem dX9_gateFor_32 : decode cX9_gateFor 32 = .ok (.aload_n 0, 1) := by decide +kernel
theorem dX9_gateFor_33 : decode cX9_gateFor 33 = .ok (.iconst 1, 1) := by decide +kernel
theorem dX9_gateFor_34 : decode cX9_gateFor 34 = .ok (.invokevirtual 68, 3) := by decide +kernel
theorem dX9_gateFor_37 : decode cX9_gateFor 37 = .ok (.ireturn, 1) := by decide +kernel
theorem dX9_gateFor_38 : decode cX9_gateFor 38 = .ok (.iconst 0, 1) := by decide +kernel
theorem dX9_gateFor_39 : decode cX9_gateFor 39 = .ok (.istore 4, 2) := by decide +kernel
theorem dX9_gateFor_41 : decode cX9_gateFor 41 = .ok (.iload 4, 2) := by decide +kernel
theorem dX9_gateFor_43 : decode cX9_gateFor 43 = .ok (.bipush 90, 2) := by decide +kernel
theorem dX9_gateFor_45 : decode cX9_gateFor 45 = .ok (.if_icmp .gt 24, 3) := by decide +kernel
theorem dX9_gateFor_48 : decode cX9_gateFor 48 = .ok (.aload_n 0, 1) := by decide +kernel
theorem dX9_gateFor_49 : decode cX9_gateFor 49 = .ok (.iload 4, 2) := by decide +kernel
theorem dX9_gateFor_51 : decode cX9_gateFor 51 = .ok (.iload_n 1, 1) := by decide +kernel
theorem dX9_gateFor_52 : decode cX9_gateFor 52 = .ok (.iload_n 2, 1) := by decide +kernel
theorem dX9_gateFor_53 : decode cX9_gateFor 53 = .ok (.iload_n 3, 1) := by decide +kernel
theorem dX9_gateFor_54 : decode cX9_gateFor 54 = .ok (.invokevirtual 240, 3) := by decide +kernel
theorem dX9_gateFor_57 : decode cX9_gateFor 57 = .ok (.ifCond .eq 6, 3) := by decide +kernel
theorem dX9_gateFor_60 : decode cX9_gateFor 60 = .ok (.iload 4, 2) := by decide +kernel
theorem dX9_gateFor_62 : decode cX9_gateFor 62 = .ok (.ireturn, 1) := by decide +kernel
theorem dX9_gateFor_63 : decode cX9_gateFor 63 = .ok (.iinc 4 1, 3) := by decide +kernel
theorem dX9_gateFor_66 : decode cX9_gateFor 66 = .ok (.goto (-25), 3) := by decide +kernel
theorem dX9_gateFor_69 : decode cX9_gateFor 69 = .ok (.aload_n 0, 1) := by decide +kernel
theorem dX9_gateFor_70 : decode cX9_gateFor 70 = .ok (.iconst 2, 1) := by decide +kernel
theorem dX9_gateFor_71 : decode cX9_gateFor 71 = .ok (.invokevirtual 68, 3) := by decide +kernel
theorem dX9_gateFor_74 : decode cX9_gateFor 74 = .ok (.ireturn, 1) := by decide +kernel
theorem dX9_gateKeeps_0 : decode cX9_gateKeeps 0 = .ok (.aload_n 0, 1) := by decide +kernel
theorem dX9_gateKeeps_1 : decode cX9_gateKeeps 1 = .ok (.getfield 16, 3) := by decide +kernel
theorem dX9_gateKeeps_4 : decode cX9_gateKeeps 4 = .ok (.aload_n 0, 1) := by decide +kernel
theorem dX9_gateKeeps_5 : decode cX9_gateKeeps 5 = .ok (.getfield 10, 3) := by decide +kernel
theorem dX9_gateKeeps_8 : decode cX9_gateKeeps 8 = .ok (.invokevirtual 61, 3) := by decide +kernel
theorem dX9_gateKeeps_11 : decode cX9_gateKeeps 11 = .ok (.aload_n 0, 1) := by decide +kernel
theorem dX9_gateKeeps_12 : decode cX9_gateKeeps 12 = .ok (.getfield 16, 3) := by decide +kernel
theorem dX9_gateKeeps_15 : decode cX9_gateKeeps 15 = .ok (.iload_n 1, 1) := by decide +kernel
theorem dX9_gateKeeps_16 : decode cX9_gateKeeps 16 = .ok (.putfield 244, 3) := by decide +kernel
theorem dX9_gateKeeps_19 : decode cX9_gateKeeps 19 = .ok (.iconst 0, 1) := by decide +kernel
theorem dX9_gateKeeps_20 : decode cX9_gateKeeps 20 = .ok (.istore 5, 2) := by decide +kernel
theorem dX9_gateKeeps_22 : decode cX9_gateKeeps 22 = .ok (.iload 5, 2) := by decide +kernel
theorem dX9_gateKeeps_24 : decode cX9_gateKeeps 24 = .ok (.iload 4, 2) := by decide +kernel
theorem dX9_gateKeeps_26 : decode cX9_gateKeeps 26 = .ok (.if_icmp .ge 33, 3) := by decide +kernel
theorem dX9_gateKeeps_29 : decode cX9_gateKeeps 29 = .ok (.aload_n 0, 1) := by decide +kernel
theorem dX9_gateKeeps_30 : decode cX9_gateKeeps 30 = .ok (.getfield 16, 3) := by decide +kernel
theorem dX9_gateKeeps_33 : decode cX9_gateKeeps 33 = .ok (.invokevirtual 65, 3) := by decide +kernel
theorem dX9_gateKeeps_36 : decode cX9_gateKeeps 36 = .ok (.aload_n 0, 1) := by decide +kernel
theorem dX9_gateKeeps_37 : decode cX9_gateKeeps 37 = .ok (.getfield 16, 3) := by decide +kernel
theorem dX9_gateKeeps_40 : decode cX9_gateKeeps 40 = .ok (.getfield 212, 3) := by decide +kernel
theorem dX9_gateKeeps_43 : decode cX9_gateKeeps 43 = .ok (.iload_n 2, 1) := by decide +kernel
theorem dX9_gateKeeps_44 : decode cX9_gateKeeps 44 = .ok (.iload_n 3, 1) := by decide +kernel
theorem dX9_gateKeeps_45 : decode cX9_gateKeeps 45 = .ok (.invokestatic 56, 3) := by decide +kernel
theorem dX9_gateKeeps_48 : decode cX9_gateKeeps 48 = .ok (.ifCond .ne 5, 3) := by decide +kernel
theorem dX9_gateKeeps_51 : decode cX9_gateKeeps 51 = .ok (.iconst 0, 1) := by decide +kernel
theorem dX9_gateKeeps_52 : decode cX9_gateKeeps 52 = .ok (.ireturn, 1) := by decide +kernel
theorem dX9_gateKeeps_53 : decode cX9_gateKeeps 53 = .ok (.iinc 5 1, 3) := by decide +kernel
theorem dX9_gateKeeps_56 : decode cX9_gateKeeps 56 = .ok (.goto (-34), 3) := by decide +kernel
theorem dX9_gateKeeps_59 : decode cX9_gateKeeps 59 = .ok (.iconst 1, 1) := by decide +kernel
theorem dX9_gateKeeps_60 : decode cX9_gateKeeps 60 = .ok (.ireturn, 1) := by decide +kernel
theorem dX9_shown_0 : decode cX9_shown 0 = .ok (.iload_n 1, 1) := by decide +kernel
theorem dX9_shown_1 : decode cX9_shown 1 = .ok (.iconst 0, 1) := by decide +kernel
theorem dX9_shown_2 : decode cX9_shown 2 = .ok (.iconst 5, 1) := by decide +kernel
theorem dX9_shown_3 : decode cX9_shown 3 = .ok (.invokestatic 56, 3) := by decide +kernel
theorem dX9_shown_6 : decode cX9_shown 6 = .ok (.ifCond .eq 14, 3) := by decide +kernel
theorem dX9_shown_9 : decode cX9_shown 9 = .ok (.iload_n 2, 1) := by decide +kernel
theorem dX9_shown_10 : decode cX9_shown 10 = .ok (.iconst 0, 1) := by decide +kernel
theorem dX9_shown_11 : decode cX9_shown 11 = .ok (.sipush 240, 3) := by decide +kernel
theorem dX9_shown_14 : decode cX9_shown 14 = .ok (.invokestatic 56, 3) := by decide +kernel
theorem dX9_shown_17 : decode cX9_shown 17 = .ok (.ifCond .ne 9, 3) := by decide +kernel
theorem dX9_shown_20 : decode cX9_shown 20 = .ok (.aload_n 0, 1) := by decide +kernel
theorem dX9_shown_21 : decode cX9_shown 21 = .ok (.iconst 1, 1) := by decide +kernel
theorem dX9_shown_22 : decode cX9_shown 22 = .ok (.invokevirtual 68, 3) := by decide +kernel
theorem dX9_shown_25 : decode cX9_shown 25 = .ok (.ireturn, 1) := by decide +kernel
theorem dX9_shown_26 : decode cX9_shown 26 = .ok (.aload_n 0, 1) := by decide +kernel
theorem dX9_shown_27 : decode cX9_shown 27 = .ok (.getfield 16, 3) := by decide +kernel
theorem dX9_shown_30 : decode cX9_shown 30 = .ok (.aload_n 0, 1) := by decide +kernel
theorem dX9_shown_31 : decode cX9_shown 31 = .ok (.getfield 10, 3) := by decide +kernel
theorem dX9_shown_34 : decode cX9_shown 34 = .ok (.invokevirtual 61, 3) := by decide +kernel
theorem dX9_shown_37 : decode cX9_shown 37 = .ok (.iconst 0, 1) := by decide +kernel
theorem dX9_shown_38 : decode cX9_shown 38 = .ok (.istore_n 3, 1) := by decide +kernel
theorem dX9_shown_39 : decode cX9_shown 39 = .ok (.iload_n 3, 1) := by decide +kernel
theorem dX9_shown_40 : decode cX9_shown 40 = .ok (.iload_n 2, 1) := by decide +kernel
theorem dX9_shown_41 : decode cX9_shown 41 = .ok (.if_icmp .gt 29, 3) := by decide +kernel
theorem dX9_shown_44 : decode cX9_shown 44 = .ok (.aload_n 0, 1) := by decide +kernel
theorem dX9_shown_45 : decode cX9_shown 45 = .ok (.getfield 16, 3) := by decide +kernel
theorem dX9_shown_48 : decode cX9_shown 48 = .ok (.iload_n 1, 1) := by decide +kernel
theorem dX9_shown_49 : decode cX9_shown 49 = .ok (.invokevirtual 105, 3) := by decide +kernel
theorem dX9_shown_52 : decode cX9_shown 52 = .ok (.ifCond .eq 5, 3) := by decide +kernel
theorem dX9_shown_55 : decode cX9_shown 55 = .ok (.iload_n 3, 1) := by decide +kernel
theorem dX9_shown_56 : decode cX9_shown 56 = .ok (.ireturn, 1) := by decide +kernel
theorem dX9_shown_57 : decode cX9_shown 57 = .ok (.aload_n 0, 1) := by decide +kernel
theorem dX9_shown_58 : decode cX9_shown 58 = .ok (.getfield 16, 3) := by decide +kernel
theorem dX9_shown_61 : decode cX9_shown 61 = .ok (.invokevirtual 65, 3) := by decide +kernel
theorem dX9_shown_64 : decode cX9_shown 64 = .ok (.iinc 3 1, 3) := by decide +kernel
theorem dX9_shown_67 : decode cX9_shown 67 = .ok (.goto (-28), 3) := by decide +kernel
theorem dX9_shown_70 : decode cX9_shown 70 = .ok (.aload_n 0, 1) := by decide +kernel
theorem dX9_shown_71 : decode cX9_shown 71 = .ok (.iconst 2, 1) := by decide +kernel
theorem dX9_shown_72 : decode cX9_shown 72 = .ok (.invokevirtual 68, 3) := by decide +kernel
theorem dX9_shown_75 : decode cX9_shown 75 = .ok (.ireturn, 1) := by decide +kernel
theorem dX9_seed_0 : decode cX9_seed 0 = .ok (.aload_n 0, 1) := by decide +kernel
theorem dX9_seed_1 : decode cX9_seed 1 = .ok (.getfield 10, 3) := by decide +kernel
theorem dX9_seed_4 : decode cX9_seed 4 = .ok (.getfield 247, 3) := by decide +kernel
theorem dX9_seed_7 : decode cX9_seed 7 = .ok (.istore_n 2, 1) := by decide +kernel
theorem dX9_seed_8 : decode cX9_seed 8 = .ok (.aload_n 0, 1) := by decide +kernel
theorem dX9_seed_9 : decode cX9_seed 9 = .ok (.getfield 10, 3) := by decide +kernel
theorem dX9_seed_12 : decode cX9_seed 12 = .ok (.iload_n 1, 1) := by decide +kernel
theorem dX9_seed_13 : decode cX9_seed 13 = .ok (.putfield 247, 3) := by decide +kernel
theorem dX9_seed_16 : decode cX9_seed 16 = .ok (.iload_n 2, 1) := by decide +kernel
theorem dX9_seed_17 : decode cX9_seed 17 = .ok (.ireturn, 1) := by decide +kernel
theorem dX9_voice_0 : decode cX9_voice 0 = .ok (.aload_n 0, 1) := by decide +kernel
theorem dX9_voice_1 : decode cX9_voice 1 = .ok (.getfield 10, 3) := by decide +kernel
theorem dX9_voice_4 : decode cX9_voice 4 = .ok (.iload_n 1, 1) := by decide +kernel
theorem dX9_voice_5 : decode cX9_voice 5 = .ok (.invokevirtual 122, 3) := by decide +kernel
theorem dX9_voice_8 : decode cX9_voice 8 = .ok (.astore 4, 2) := by decide +kernel
theorem dX9_voice_10 : decode cX9_voice 10 = .ok (.aload 4, 2) := by decide +kernel
theorem dX9_voice_12 : decode cX9_voice 12 = .ok (.ifnull 12, 3) := by decide +kernel
theorem dX9_voice_15 : decode cX9_voice 15 = .ok (.iload_n 2, 1) := by decide +kernel
theorem dX9_voice_16 : decode cX9_voice 16 = .ok (.iconst 0, 1) := by decide +kernel
theorem dX9_voice_17 : decode cX9_voice 17 = .ok (.iconst 3, 1) := by decide +kernel
theorem dX9_voice_18 : decode cX9_voice 18 = .ok (.invokestatic 56, 3) := by decide +kernel
theorem dX9_voice_21 : decode cX9_voice 21 = .ok (.ifCond .ne 9, 3) := by decide +kernel
theorem dX9_voice_24 : decode cX9_voice 24 = .ok (.aload_n 0, 1) := by decide +kernel
theorem dX9_voice_25 : decode cX9_voice 25 = .ok (.iconst 1, 1) := by decide +kernel
theorem dX9_voice_26 : decode cX9_voice 26 = .ok (.invokevirtual 68, 3) := by decide +kernel
theorem dX9_voice_29 : decode cX9_voice 29 = .ok (.ireturn, 1) := by decide +kernel
theorem dX9_voice_30 : decode cX9_voice 30 = .ok (.aload_n 0, 1) := by decide +kernel
theorem dX9_voice_31 : decode cX9_voice 31 = .ok (.getfield 32, 3) := by decide +kernel
theorem dX9_voice_34 : decode cX9_voice 34 = .ok (.aload 4, 2) := by decide +kernel
theorem dX9_voice_36 : decode cX9_voice 36 = .ok (.iload_n 1, 1) := by decide +kernel
theorem dX9_voice_37 : decode cX9_voice 37 = .ok (.iload_n 2, 1) := by decide +kernel
theorem dX9_voice_38 : decode cX9_voice 38 = .ok (.iload_n 3, 1) := by decide +kernel
theorem dX9_voice_39 : decode cX9_voice 39 = .ok (.invokevirtual 250, 3) := by decide +kernel
theorem dX9_voice_42 : decode cX9_voice 42 = .ok (.ireturn, 1) := by decide +kernel
theorem dX9_trace_0 : decode cX9_trace 0 = .ok (.iload_n 1, 1) := by decide +kernel
theorem dX9_trace_1 : decode cX9_trace 1 = .ok (.iconst 0, 1) := by decide +kernel
theorem dX9_trace_2 : decode cX9_trace 2 = .ok (.aload_n 0, 1) := by decide +kernel
theorem dX9_trace_3 : decode cX9_trace 3 = .ok (.getfield 32, 3) := by decide +kernel
theorem dX9_trace_6 : decode cX9_trace 6 = .ok (.getfield 254, 3) := by decide +kernel
theorem dX9_trace_9 : decode cX9_trace 9 = .ok (.iconst 1, 1) := by decide +kernel
theorem dX9_trace_10 : decode cX9_trace 10 = .ok (.isub, 1) := by decide +kernel
theorem dX9_trace_11 : decode cX9_trace 11 = .ok (.invokestatic 56, 3) := by decide +kernel
theorem dX9_trace_14 : decode cX9_trace 14 = .ok (.ifCond .ne 9, 3) := by decide +kernel
theorem dX9_trace_17 : decode cX9_trace 17 = .ok (.aload_n 0, 1) := by decide +kernel
theorem dX9_trace_18 : decode cX9_trace 18 = .ok (.iconst 2, 1) := by decide +kernel
theorem dX9_trace_19 : decode cX9_trace 19 = .ok (.invokevirtual 68, 3) := by decide +kernel
theorem dX9_trace_22 : decode cX9_trace 22 = .ok (.ireturn, 1) := by decide +kernel
theorem dX9_trace_23 : decode cX9_trace 23 = .ok (.aload_n 0, 1) := by decide +kernel
theorem dX9_trace_24 : decode cX9_trace 24 = .ok (.getfield 32, 3) := by decide +kernel
theorem dX9_trace_27 : decode cX9_trace 27 = .ok (.getfield 255, 3) := by decide +kernel
theorem dX9_trace_30 : decode cX9_trace 30 = .ok (.iload_n 1, 1) := by decide +kernel
theorem dX9_trace_31 : decode cX9_trace 31 = .ok (.iaload, 1) := by decide +kernel
theorem dX9_trace_32 : decode cX9_trace 32 = .ok (.ireturn, 1) := by decide +kernel
theorem dX9_sheet_0 : decode cX9_sheet 0 = .ok (.aload_n 0, 1) := by decide +kernel
theorem dX9_sheet_1 : decode cX9_sheet 1 = .ok (.iload_n 1, 1) := by decide +kernel
theorem dX9_sheet_2 : decode cX9_sheet 2 = .ok (.invokevirtual 258, 3) := by decide +kernel
theorem dX9_sheet_5 : decode cX9_sheet 5 = .ok (.astore 4, 2) := by decide +kernel
theorem dX9_sheet_7 : decode cX9_sheet 7 = .ok (.aload 4, 2) := by decide +kernel
theorem dX9_sheet_9 : decode cX9_sheet 9 = .ok (.ifnull 25, 3) := by decide +kernel
theorem dX9_sheet_12 : decode cX9_sheet 12 = .ok (.iload_n 2, 1) := by decide +kernel
theorem dX9_sheet_13 : decode cX9_sheet 13 = .ok (.ifCond .eq 27, 3) := by decide +kernel
theorem dX9_sheet_16 : decode cX9_sheet 16 = .ok (.iload_n 2, 1) := by decide +kernel
theorem dX9_sheet_17 : decode cX9_sheet 17 = .ok (.bipush 8, 2) := by decide +kernel
theorem dX9_sheet_19 : decode cX9_sheet 19 = .ok (.if_icmp .eq 21, 3) := by decide +kernel
theorem dX9_sheet_22 : decode cX9_sheet 22 = .ok (.iload_n 2, 1) := by decide +kernel
theorem dX9_sheet_23 : decode cX9_sheet 23 = .ok (.bipush 16, 2) := by decide +kernel
theorem dX9_sheet_25 : decode cX9_sheet 25 = .ok (.if_icmp .eq 15, 3) := by decide +kernel
theorem dX9_sheet_28 : decode cX9_sheet 28 = .ok (.iload_n 2, 1) := by decide +kernel
theorem dX9_sheet_29 : decode cX9_sheet 29 = .ok (.bipush 32, 2) := by decide +kernel
theorem dX9_sheet_31 : decode cX9_sheet 31 = .ok (.if_icmp .eq 9, 3) := by decide +kernel
theorem dX9_sheet_34 : decode cX9_sheet 34 = .ok (.aload_n 0, 1) := by decide +kernel
theorem dX9_sheet_35 : decode cX9_sheet 35 = .ok (.iconst 1, 1) := by decide +kernel
theorem dX9_sheet_36 : decode cX9_sheet 36 = .ok (.invokevirtual 68, 3) := by decide +kernel
theorem dX9_sheet_39 : decode cX9_sheet 39 = .ok (.ireturn, 1) := by decide +kernel
theorem dX9_sheet_40 : decode cX9_sheet 40 = .ok (.iload_n 2, 1) := by decide +kernel
theorem dX9_sheet_41 : decode cX9_sheet 41 = .ok (.ifCond .eq 13, 3) := by decide +kernel
theorem dX9_sheet_44 : decode cX9_sheet 44 = .ok (.iload_n 3, 1) := by decide +kernel
theorem dX9_sheet_45 : decode cX9_sheet 45 = .ok (.ifCond .ge 9, 3) := by decide +kernel
theorem dX9_sheet_48 : decode cX9_sheet 48 = .ok (.aload_n 0, 1) := by decide +kernel
theorem dX9_sheet_49 : decode cX9_sheet 49 = .ok (.iconst 3, 1) := by decide +kernel
theorem dX9_sheet_50 : decode cX9_sheet 50 = .ok (.invokevirtual 68, 3) := by decide +kernel
theorem dX9_sheet_53 : decode cX9_sheet 53 = .ok (.ireturn, 1) := by decide +kernel
theorem dX9_sheet_54 : decode cX9_sheet 54 = .ok (.iload_n 2, 1) := by decide +kernel
theorem dX9_sheet_55 : decode cX9_sheet 55 = .ok (.ifCond .eq 15, 3) := by decide +kernel
theorem dX9_sheet_58 : decode cX9_sheet 58 = .ok (.iload_n 3, 1) := by decide +kernel
theorem dX9_sheet_59 : decode cX9_sheet 59 = .ok (.bipush 40, 2) := by decide +kernel
theorem dX9_sheet_61 : decode cX9_sheet 61 = .ok (.if_icmp .le 9, 3) := by decide +kernel
theorem dX9_sheet_64 : decode cX9_sheet 64 = .ok (.aload_n 0, 1) := by decide +kernel
theorem dX9_sheet_65 : decode cX9_sheet 65 = .ok (.iconst 1, 1) := by decide +kernel
theorem dX9_sheet_66 : decode cX9_sheet 66 = .ok (.invokevirtual 68, 3) := by decide +kernel
theorem dX9_sheet_69 : decode cX9_sheet 69 = .ok (.ireturn, 1) := by decide +kernel
theorem dX9_sheet_70 : decode cX9_sheet 70 = .ok (.aload 4, 2) := by decide +kernel
theorem dX9_sheet_72 : decode cX9_sheet 72 = .ok (.iload_n 2, 1) := by decide +kernel
theorem dX9_sheet_73 : decode cX9_sheet 73 = .ok (.iload_n 2, 1) := by decide +kernel
theorem dX9_sheet_74 : decode cX9_sheet 74 = .ok (.ifCond .ne 7, 3) := by decide +kernel
theorem dX9_sheet_77 : decode cX9_sheet 77 = .ok (.iconst 0, 1) := by decide +kernel
theorem dX9_sheet_78 : decode cX9_sheet 78 = .ok (.goto 4, 3) := by decide +kernel
theorem dX9_sheet_81 : decode cX9_sheet 81 = .ok (.iload_n 3, 1) := by decide +kernel
theorem dX9_sheet_82 : decode cX9_sheet 82 = .ok (.invokevirtual 262, 3) := by decide +kernel
theorem dX9_sheet_85 : decode cX9_sheet 85 = .ok (.iconst 1, 1) := by decide +kernel
theorem dX9_sheet_86 : decode cX9_sheet 86 = .ok (.ireturn, 1) := by decide +kernel
theorem dX9_put_0 : decode cX9_put 0 = .ok (.aload_n 0, 1) := by decide +kernel
theorem dX9_put_1 : decode cX9_put 1 = .ok (.iload_n 1, 1) := by decide +kernel
theorem dX9_put_2 : decode cX9_put 2 = .ok (.invokevirtual 258, 3) := by decide +kernel
theorem dX9_put_5 : decode cX9_put 5 = .ok (.astore 4, 2) := by decide +kernel
theorem dX9_put_7 : decode cX9_put 7 = .ok (.aload 4, 2) := by decide +kernel
theorem dX9_put_9 : decode cX9_put 9 = .ok (.ifnonnull 9, 3) := by decide +kernel
theorem dX9_put_12 : decode cX9_put 12 = .ok (.aload_n 0, 1) := by decide +kernel
theorem dX9_put_13 : decode cX9_put 13 = .ok (.iconst 1, 1) := by decide +kernel
theorem dX9_put_14 : decode cX9_put 14 = .ok (.invokevirtual 68, 3) := by decide +kernel
theorem dX9_put_17 : decode cX9_put 17 = .ok (.ireturn, 1) := by decide +kernel
theorem dX9_put_18 : decode cX9_put 18 = .ok (.aload 4, 2) := by decide +kernel
theorem dX9_put_20 : decode cX9_put 20 = .ok (.invokevirtual 265, 3) := by decide +kernel
theorem dX9_put_23 : decode cX9_put 23 = .ok (.ifCond .eq 9, 3) := by decide +kernel
theorem dX9_put_26 : decode cX9_put 26 = .ok (.aload_n 0, 1) := by decide +kernel
theorem dX9_put_27 : decode cX9_put 27 = .ok (.iconst 2, 1) := by decide +kernel
theorem dX9_put_28 : decode cX9_put 28 = .ok (.invokevirtual 68, 3) := by decide +kernel
theorem dX9_put_31 : decode cX9_put 31 = .ok (.ireturn, 1) := by decide +kernel
theorem dX9_put_32 : decode cX9_put 32 = .ok (.iload_n 2, 1) := by decide +kernel
theorem dX9_put_33 : decode cX9_put 33 = .ok (.iconst 0, 1) := by decide +kernel
theorem dX9_put_34 : decode cX9_put 34 = .ok (.aload 4, 2) := by decide +kernel
theorem dX9_put_36 : decode cX9_put 36 = .ok (.getfield 268, 3) := by decide +kernel
theorem dX9_put_39 : decode cX9_put 39 = .ok (.iconst 1, 1) := by decide +kernel
theorem dX9_put_40 : decode cX9_put 40 = .ok (.isub, 1) := by decide +kernel
theorem dX9_put_41 : decode cX9_put 41 = .ok (.invokestatic 56, 3) := by decide +kernel
theorem dX9_put_44 : decode cX9_put 44 = .ok (.ifCond .ne 9, 3) := by decide +kernel
theorem dX9_put_47 : decode cX9_put 47 = .ok (.aload_n 0, 1) := by decide +kernel
theorem dX9_put_48 : decode cX9_put 48 = .ok (.iconst 1, 1) := by decide +kernel
theorem dX9_put_49 : decode cX9_put 49 = .ok (.invokevirtual 68, 3) := by decide +kernel
theorem dX9_put_52 : decode cX9_put 52 = .ok (.ireturn, 1) := by decide +kernel
theorem dX9_put_53 : decode cX9_put 53 = .ok (.aload 4, 2) := by decide +kernel
theorem dX9_put_55 : decode cX9_put 55 = .ok (.getfield 269, 3) := by decide +kernel
theorem dX9_put_58 : decode cX9_put 58 = .ok (.iload_n 2, 1) := by decide +kernel
theorem dX9_put_59 : decode cX9_put 59 = .ok (.aload 4, 2) := by decide +kernel
theorem dX9_put_61 : decode cX9_put 61 = .ok (.iload_n 3, 1) := by decide +kernel
theorem dX9_put_62 : decode cX9_put 62 = .ok (.invokevirtual 272, 3) := by decide +kernel
theorem dX9_put_65 : decode cX9_put 65 = .ok (.iastore, 1) := by decide +kernel
theorem dX9_put_66 : decode cX9_put 66 = .ok (.iconst 1, 1) := by decide +kernel
theorem dX9_put_67 : decode cX9_put 67 = .ok (.ireturn, 1) := by decide +kernel
theorem dX9_move_0 : decode cX9_move 0 = .ok (.aload_n 0, 1) := by decide +kernel
theorem dX9_move_1 : decode cX9_move 1 = .ok (.iload_n 1, 1) := by decide +kernel
theorem dX9_move_2 : decode cX9_move 2 = .ok (.invokevirtual 258, 3) := by decide +kernel
theorem dX9_move_5 : decode cX9_move 5 = .ok (.astore 6, 2) := by decide +kernel
theorem dX9_move_7 : decode cX9_move 7 = .ok (.aload_n 0, 1) := by decide +kernel
theorem dX9_move_8 : decode cX9_move 8 = .ok (.iload_n 3, 1) := by decide +kernel
theorem dX9_move_9 : decode cX9_move 9 = .ok (.invokevirtual 258, 3) := by decide +kernel
theorem dX9_move_12 : decode cX9_move 12 = .ok (.astore 7, 2) := by decide +kernel
theorem dX9_move_14 : decode cX9_move 14 = .ok (.aload 6, 2) := by decide +kernel
theorem dX9_move_16 : decode cX9_move 16 = .ok (.ifnull 8, 3) := by decide +kernel
theorem dX9_move_19 : decode cX9_move 19 = .ok (.aload 7, 2) := by decide +kernel
theorem dX9_move_21 : decode cX9_move 21 = .ok (.ifnonnull 9, 3) := by decide +kernel
theorem dX9_move_24 : decode cX9_move 24 = .ok (.aload_n 0, 1) := by decide +kernel
theorem dX9_move_25 : decode cX9_move 25 = .ok (.iconst 1, 1) := by decide +kernel
theorem dX9_move_26 : decode cX9_move 26 = .ok (.invokevirtual 68, 3) := by decide +kernel
theorem dX9_move_29 : decode cX9_move 29 = .ok (.ireturn, 1) := by decide +kernel
theorem dX9_move_30 : decode cX9_move 30 = .ok (.aload 6, 2) := by decide +kernel
theorem dX9_move_32 : decode cX9_move 32 = .ok (.invokevirtual 265, 3) := by decide +kernel
theorem dX9_move_35 : decode cX9_move 35 = .ok (.ifCond .ne 11, 3) := by decide +kernel
theorem dX9_move_38 : decode cX9_move 38 = .ok (.aload 7, 2) := by decide +kernel
theorem dX9_move_40 : decode cX9_move 40 = .ok (.invokevirtual 265, 3) := by decide +kernel
theorem dX9_move_43 : decode cX9_move 43 = .ok (.ifCond .eq 9, 3) := by decide +kernel
theorem dX9_move_46 : decode cX9_move 46 = .ok (.aload_n 0, 1) := by decide +kernel
theorem dX9_move_47 : decode cX9_move 47 = .ok (.iconst 2, 1) := by decide +kernel
theorem dX9_move_48 : decode cX9_move 48 = .ok (.invokevirtual 68, 3) := by decide +kernel
theorem dX9_move_51 : decode cX9_move 51 = .ok (.ireturn, 1) := by decide +kernel
theorem dX9_move_52 : decode cX9_move 52 = .ok (.aload 6, 2) := by decide +kernel
theorem dX9_move_54 : decode cX9_move 54 = .ok (.getfield 275, 3) := by decide +kernel
theorem dX9_move_57 : decode cX9_move 57 = .ok (.aload 7, 2) := by decide +kernel
theorem dX9_move_59 : decode cX9_move 59 = .ok (.getfield 275, 3) := by decide +kernel
theorem dX9_move_62 : decode cX9_move 62 = .ok (.if_icmp .eq 9, 3) := by decide +kernel
theorem dX9_move_65 : decode cX9_move 65 = .ok (.aload_n 0, 1) := by decide +kernel
theorem dX9_move_66 : decode cX9_move 66 = .ok (.iconst 5, 1) := by decide +kernel
theorem dX9_move_67 : decode cX9_move 67 = .ok (.invokevirtual 68, 3) := by decide +kernel
theorem dX9_move_70 : decode cX9_move 70 = .ok (.ireturn, 1) := by decide +kernel
theorem dX9_move_71 : decode cX9_move 71 = .ok (.aload 6, 2) := by decide +kernel
theorem dX9_move_73 : decode cX9_move 73 = .ok (.iload_n 2, 1) := by decide +kernel
theorem dX9_move_74 : decode cX9_move 74 = .ok (.iload 5, 2) := by decide +kernel
theorem dX9_move_76 : decode cX9_move 76 = .ok (.invokevirtual 278, 3) := by decide +kernel
theorem dX9_move_79 : decode cX9_move 79 = .ok (.ifCond .eq 15, 3) := by decide +kernel
theorem dX9_move_82 : decode cX9_move 82 = .ok (.aload 7, 2) := by decide +kernel
theorem dX9_move_84 : decode cX9_move 84 = .ok (.iload 4, 2) := by decide +kernel
theorem dX9_move_86 : decode cX9_move 86 = .ok (.iload 5, 2) := by decide +kernel
theorem dX9_move_88 : decode cX9_move 88 = .ok (.invokevirtual 278, 3) := by decide +kernel
theorem dX9_move_91 : decode cX9_move 91 = .ok (.ifCond .ne 9, 3) := by decide +kernel
theorem dX9_move_94 : decode cX9_move 94 = .ok (.aload_n 0, 1) := by decide +kernel
theorem dX9_move_95 : decode cX9_move 95 = .ok (.iconst 1, 1) := by decide +kernel
theorem dX9_move_96 : decode cX9_move 96 = .ok (.invokevirtual 68, 3) := by decide +kernel
theorem dX9_move_99 : decode cX9_move 99 = .ok (.ireturn, 1) := by decide +kernel
theorem dX9_move_100 : decode cX9_move 100 = .ok (.aload 6, 2) := by decide +kernel
theorem dX9_move_102 : decode cX9_move 102 = .ok (.getfield 269, 3) := by decide +kernel
theorem dX9_move_105 : decode cX9_move 105 = .ok (.iload_n 2, 1) := by decide +kernel
theorem dX9_move_106 : decode cX9_move 106 = .ok (.aload 7, 2) := by decide +kernel
theorem dX9_move_108 : decode cX9_move 108 = .ok (.getfield 269, 3) := by decide +kernel
theorem dX9_move_111 : decode cX9_move 111 = .ok (.iload 4, 2) := by decide +kernel
theorem dX9_move_113 : decode cX9_move 113 = .ok (.iload 5, 2) := by decide +kernel
theorem dX9_move_115 : decode cX9_move 115 = .ok (.invokestatic 281, 3) := by decide +kernel
theorem dX9_move_118 : decode cX9_move 118 = .ok (.iload 5, 2) := by decide +kernel
theorem dX9_move_120 : decode cX9_move 120 = .ok (.ireturn, 1) := by decide +kernel
theorem dX9_rains_0 : decode cX9_rains 0 = .ok (.aload_n 0, 1) := by decide +kernel
theorem dX9_rains_1 : decode cX9_rains 1 = .ok (.iload_n 1, 1) := by decide +kernel
theorem dX9_rains_2 : decode cX9_rains 2 = .ok (.invokevirtual 258, 3) := by decide +kernel
theorem dX9_rains_5 : decode cX9_rains 5 = .ok (.astore_n 3, 1) := by decide +kernel
theorem dX9_rains_6 : decode cX9_rains 6 = .ok (.aload_n 3, 1) := by decide +kernel
theorem dX9_rains_7 : decode cX9_rains 7 = .ok (.ifnull 12, 3) := by decide +kernel
theorem dX9_rains_10 : decode cX9_rains 10 = .ok (.iload_n 2, 1) := by decide +kernel
theorem dX9_rains_11 : decode cX9_rains 11 = .ok (.iconst 0, 1) := by decide +kernel
theorem dX9_rains_12 : decode cX9_rains 12 = .ok (.iconst 2, 1) := by decide +kernel
theorem dX9_rains_13 : decode cX9_rains 13 = .ok (.invokestatic 56, 3) := by decide +kernel
theorem dX9_rains_16 : decode cX9_rains 16 = .ok (.ifCond .ne 9, 3) := by decide +kernel
theorem dX9_rains_19 : decode cX9_rains 19 = .ok (.aload_n 0, 1) := by decide +kernel
theorem dX9_rains_20 : decode cX9_rains 20 = .ok (.iconst 1, 1) := by decide +kernel
theorem dX9_rains_21 : decode cX9_rains 21 = .ok (.invokevirtual 68, 3) := by decide +kernel
theorem dX9_rains_24 : decode cX9_rains 24 = .ok (.ireturn, 1) := by decide +kernel
theorem dX9_rains_25 : decode cX9_rains 25 = .ok (.aload_n 3, 1) := by decide +kernel
theorem dX9_rains_26 : decode cX9_rains 26 = .ok (.invokevirtual 265, 3) := by decide +kernel
theorem dX9_rains_29 : decode cX9_rains 29 = .ok (.ifCond .eq 9, 3) := by decide +kernel
theorem dX9_rains_32 : decode cX9_rains 32 = .ok (.aload_n 0, 1) := by decide +kernel
theorem dX9_rains_33 : decode cX9_rains 33 = .ok (.iconst 2, 1) := by decide +kernel
theorem dX9_rains_34 : decode cX9_rains 34 = .ok (.invokevirtual 68, 3) := by decide +kernel
theorem dX9_rains_37 : decode cX9_rains 37 = .ok (.ireturn, 1) := by decide +kernel
theorem dX9_rains_38 : decode cX9_rains 38 = .ok (.iconst 0, 1) := by decide +kernel
theorem dX9_rains_39 : decode cX9_rains 39 = .ok (.istore 4, 2) := by decide +kernel
theorem dX9_rains_41 : decode cX9_rains 41 = .ok (.iload 4, 2) := by decide +kernel
theorem dX9_rains_43 : decode cX9_rains 43 = .ok (.bipush 24, 2) := by decide +kernel
theorem dX9_rains_45 : decode cX9_rains 45 = .ok (.if_icmp .ge 54, 3) := by decide +kernel
theorem dX9_rains_48 : decode cX9_rains 48 = .ok (.iload 4, 2) := by decide +kernel
theorem dX9_rains_50 : decode cX9_rains 50 = .ok (.aload_n 3, 1) := by decide +kernel
theorem dX9_rains_51 : decode cX9_rains 51 = .ok (.getfield 268, 3) := by decide +kernel
theorem dX9_rains_54 : decode cX9_rains 54 = .ok (.if_icmp .ge 45, 3) := by decide +kernel
theorem dX9_rains_57 : decode cX9_rains 57 = .ok (.aload_n 3, 1) := by decide +kernel
theorem dX9_rains_58 : decode cX9_rains 58 = .ok (.getfield 269, 3) := by decide +kernel
theorem dX9_rains_61 : decode cX9_rains 61 = .ok (.iload 4, 2) := by decide +kernel
theorem dX9_rains_63 : decode cX9_rains 63 = .ok (.iaload, 1) := by decide +kernel
theorem dX9_rains_64 : decode cX9_rains 64 = .ok (.iconst 0, 1) := by decide +kernel
theorem dX9_rains_65 : decode cX9_rains 65 = .ok (.bipush 9, 2) := by decide +kernel
theorem dX9_rains_67 : decode cX9_rains 67 = .ok (.invokestatic 56, 3) := by decide +kernel
theorem dX9_rains_70 : decode cX9_rains 70 = .ok (.ifCond .eq 29, 3) := by decide +kernel
theorem dX9_rains_73 : decode cX9_rains 73 = .ok (.aload_n 0, 1) := by decide +kernel
theorem dX9_rains_74 : decode cX9_rains 74 = .ok (.getfield 10, 3) := by decide +kernel
theorem dX9_rains_77 : decode cX9_rains 77 = .ok (.getfield 72, 3) := by decide +kernel
theorem dX9_rains_80 : decode cX9_rains 80 = .ok (.iload_n 2, 1) := by decide +kernel
theorem dX9_rains_81 : decode cX9_rains 81 = .ok (.iload 4, 2) := by decide +kernel
theorem dX9_rains_83 : decode cX9_rains 83 = .ok (.aload_n 3, 1) := by decide +kernel
theorem dX9_rains_84 : decode cX9_rains 84 = .ok (.getfield 269, 3) := by decide +kernel
theorem dX9_rains_87 : decode cX9_rains 87 = .ok (.iload 4, 2) := by decide +kernel
theorem dX9_rains_89 : decode cX9_rains 89 = .ok (.iaload, 1) := by decide +kernel
theorem dX9_rains_90 : decode cX9_rains 90 = .ok (.invokevirtual 81, 3) := by decide +kernel
theorem dX9_rains_93 : decode cX9_rains 93 = .ok (.iinc 4 1, 3) := by decide +kernel
theorem dX9_rains_96 : decode cX9_rains 96 = .ok (.goto (-55), 3) := by decide +kernel
theorem dX9_rains_99 : decode cX9_rains 99 = .ok (.iload 4, 2) := by decide +kernel
theorem dX9_rains_101 : decode cX9_rains 101 = .ok (.ireturn, 1) := by decide +kernel
theorem dX9_judge_0 : decode cX9_judge 0 = .ok (.aload_n 0, 1) := by decide +kernel
theorem dX9_judge_1 : decode cX9_judge 1 = .ok (.iload_n 1, 1) := by decide +kernel
theorem dX9_judge_2 : decode cX9_judge 2 = .ok (.invokevirtual 258, 3) := by decide +kernel
theorem dX9_judge_5 : decode cX9_judge 5 = .ok (.astore_n 2, 1) := by decide +kernel
theorem dX9_judge_6 : decode cX9_judge 6 = .ok (.aload_n 2, 1) := by decide +kernel
theorem dX9_judge_7 : decode cX9_judge 7 = .ok (.ifnonnull 9, 3) := by decide +kernel
theorem dX9_judge_10 : decode cX9_judge 10 = .ok (.aload_n 0, 1) := by decide +kernel
theorem dX9_judge_11 : decode cX9_judge 11 = .ok (.iconst 1, 1) := by decide +kernel
theorem dX9_judge_12 : decode cX9_judge 12 = .ok (.invokevirtual 68, 3) := by decide +kernel
theorem dX9_judge_15 : decode cX9_judge 15 = .ok (.ireturn, 1) := by decide +kernel
theorem dX9_judge_16 : decode cX9_judge 16 = .ok (.aload_n 2, 1) := by decide +kernel
theorem dX9_judge_17 : decode cX9_judge 17 = .ok (.invokevirtual 265, 3) := by decide +kernel
theorem dX9_judge_20 : decode cX9_judge 20 = .ok (.ifCond .eq 9, 3) := by decide +kernel
theorem dX9_judge_23 : decode cX9_judge 23 = .ok (.aload_n 0, 1) := by decide +kernel
theorem dX9_judge_24 : decode cX9_judge 24 = .ok (.iconst 2, 1) := by decide +kernel
theorem dX9_judge_25 : decode cX9_judge 25 = .ok (.invokevirtual 68, 3) := by decide +kernel
theorem dX9_judge_28 : decode cX9_judge 28 = .ok (.ireturn, 1) := by decide +kernel
theorem dX9_judge_29 : decode cX9_judge 29 = .ok (.aload_n 0, 1) := by decide +kernel
theorem dX9_judge_30 : decode cX9_judge 30 = .ok (.getfield 16, 3) := by decide +kernel
theorem dX9_judge_33 : decode cX9_judge 33 = .ok (.aload_n 0, 1) := by decide +kernel
theorem dX9_judge_34 : decode cX9_judge 34 = .ok (.getfield 10, 3) := by decide +kernel
theorem dX9_judge_37 : decode cX9_judge 37 = .ok (.invokevirtual 61, 3) := by decide +kernel
theorem dX9_judge_40 : decode cX9_judge 40 = .ok (.iconst 0, 1) := by decide +kernel
theorem dX9_judge_41 : decode cX9_judge 41 = .ok (.istore_n 3, 1) := by decide +kernel
theorem dX9_judge_42 : decode cX9_judge 42 = .ok (.iload_n 3, 1) := by decide +kernel
theorem dX9_judge_43 : decode cX9_judge 43 = .ok (.aload_n 2, 1) := by decide +kernel
theorem dX9_judge_44 : decode cX9_judge 44 = .ok (.getfield 268, 3) := by decide +kernel
theorem dX9_judge_47 : decode cX9_judge 47 = .ok (.if_icmp .ge 41, 3) := by decide +kernel
theorem dX9_judge_50 : decode cX9_judge 50 = .ok (.aload_n 2, 1) := by decide +kernel
theorem dX9_judge_51 : decode cX9_judge 51 = .ok (.getfield 269, 3) := by decide +kernel
theorem dX9_judge_54 : decode cX9_judge 54 = .ok (.iload_n 3, 1) := by decide +kernel
theorem dX9_judge_55 : decode cX9_judge 55 = .ok (.iaload, 1) := by decide +kernel
theorem dX9_judge_56 : decode cX9_judge 56 = .ok (.aload_n 0, 1) := by decide +kernel
theorem dX9_judge_57 : decode cX9_judge 57 = .ok (.getfield 16, 3) := by decide +kernel
theorem dX9_judge_60 : decode cX9_judge 60 = .ok (.aload_n 0, 1) := by decide +kernel
theorem dX9_judge_61 : decode cX9_judge 61 = .ok (.getfield 16, 3) := by decide +kernel
theorem dX9_judge_64 : decode cX9_judge 64 = .ok (.invokevirtual 287, 3) := by decide +kernel
theorem dX9_judge_67 : decode cX9_judge 67 = .ok (.invokevirtual 291, 3) := by decide +kernel
theorem dX9_judge_70 : decode cX9_judge 70 = .ok (.if_icmp .eq 5, 3) := by decide +kernel
theorem dX9_judge_73 : decode cX9_judge 73 = .ok (.iload_n 3, 1) := by decide +kernel
theorem dX9_judge_74 : decode cX9_judge 74 = .ok (.ireturn, 1) := by decide +kernel
theorem dX9_judge_75 : decode cX9_judge 75 = .ok (.aload_n 0, 1) := by decide +kernel
theorem dX9_judge_76 : decode cX9_judge 76 = .ok (.getfield 16, 3) := by decide +kernel
theorem dX9_judge_79 : decode cX9_judge 79 = .ok (.invokevirtual 65, 3) := by decide +kernel
theorem dX9_judge_82 : decode cX9_judge 82 = .ok (.iinc 3 1, 3) := by decide +kernel
theorem dX9_judge_85 : decode cX9_judge 85 = .ok (.goto (-43), 3) := by decide +kernel
theorem dX9_judge_88 : decode cX9_judge 88 = .ok (.aload_n 2, 1) := by decide +kernel
theorem dX9_judge_89 : decode cX9_judge 89 = .ok (.getfield 268, 3) := by decide +kernel
theorem dX9_judge_92 : decode cX9_judge 92 = .ok (.ireturn, 1) := by decide +kernel
theorem dX9_image_0 : decode cX9_image 0 = .ok (.aload_n 0, 1) := by decide +kernel
theorem dX9_image_1 : decode cX9_image 1 = .ok (.getfield 19, 3) := by decide +kernel
theorem dX9_image_4 : decode cX9_image 4 = .ok (.aload_n 0, 1) := by decide +kernel
theorem dX9_image_5 : decode cX9_image 5 = .ok (.getfield 10, 3) := by decide +kernel
theorem dX9_image_8 : decode cX9_image 8 = .ok (.invokevirtual 61, 3) := by decide +kernel
theorem dX9_image_11 : decode cX9_image 11 = .ok (.aload_n 0, 1) := by decide +kernel
theorem dX9_image_12 : decode cX9_image 12 = .ok (.dup, 1) := by decide +kernel
theorem dX9_image_13 : decode cX9_image 13 = .ok (.getfield 294, 3) := by decide +kernel
theorem dX9_image_16 : decode cX9_image 16 = .ok (.iconst 1, 1) := by decide +kernel
theorem dX9_image_17 : decode cX9_image 17 = .ok (.iadd, 1) := by decide +kernel
theorem dX9_image_18 : decode cX9_image 18 = .ok (.putfield 294, 3) := by decide +kernel
theorem dX9_image_21 : decode cX9_image 21 = .ok (.aload_n 0, 1) := by decide +kernel
theorem dX9_image_22 : decode cX9_image 22 = .ok (.getfield 294, 3) := by decide +kernel
theorem dX9_image_25 : decode cX9_image 25 = .ok (.ireturn, 1) := by decide +kernel
theorem dX9_restore_0 : decode cX9_restore 0 = .ok (.aload_n 0, 1) := by decide +kernel
theorem dX9_restore_1 : decode cX9_restore 1 = .ok (.getfield 294, 3) := by decide +kernel
theorem dX9_restore_4 : decode cX9_restore 4 = .ok (.ifCond .ne 9, 3) := by decide +kernel
theorem dX9_restore_7 : decode cX9_restore 7 = .ok (.aload_n 0, 1) := by decide +kernel
theorem dX9_restore_8 : decode cX9_restore 8 = .ok (.iconst 2, 1) := by decide +kernel
theorem dX9_restore_9 : decode cX9_restore 9 = .ok (.invokevirtual 68, 3) := by decide +kernel
theorem dX9_restore_12 : decode cX9_restore 12 = .ok (.ireturn, 1) := by decide +kernel
theorem dX9_restore_13 : decode cX9_restore 13 = .ok (.aload_n 0, 1) := by decide +kernel
theorem dX9_restore_14 : decode cX9_restore 14 = .ok (.getfield 10, 3) := by decide +kernel
theorem dX9_restore_17 : decode cX9_restore 17 = .ok (.aload_n 0, 1) := by decide +kernel
theorem dX9_restore_18 : decode cX9_restore 18 = .ok (.getfield 19, 3) := by decide +kernel
theorem dX9_restore_21 : decode cX9_restore 21 = .ok (.invokevirtual 61, 3) := by decide +kernel
theorem dX9_restore_24 : decode cX9_restore 24 = .ok (.aload_n 0, 1) := by decide +kernel
theorem dX9_restore_25 : decode cX9_restore 25 = .ok (.getfield 10, 3) := by decide +kernel
theorem dX9_restore_28 : decode cX9_restore 28 = .ok (.getfield 206, 3) := by decide +kernel
theorem dX9_restore_31 : decode cX9_restore 31 = .ok (.ireturn, 1) := by decide +kernel
theorem dX9_tell_0 : decode cX9_tell 0 = .ok (.aload_n 0, 1) := by decide +kernel
theorem dX9_tell_1 : decode cX9_tell 1 = .ok (.getfield 10, 3) := by decide +kernel
theorem dX9_tell_4 : decode cX9_tell 4 = .ok (.getfield 297, 3) := by decide +kernel
theorem dX9_tell_7 : decode cX9_tell 7 = .ok (.istore_n 2, 1) := by decide +kernel
theorem dX9_tell_8 : decode cX9_tell 8 = .ok (.iload_n 2, 1) := by decide +kernel
theorem dX9_tell_9 : decode cX9_tell 9 = .ok (.iconst 0, 1) := by decide +kernel
theorem dX9_tell_10 : decode cX9_tell 10 = .ok (.bipush 19, 2) := by decide +kernel
theorem dX9_tell_12 : decode cX9_tell 12 = .ok (.invokestatic 56, 3) := by decide +kernel
theorem dX9_tell_15 : decode cX9_tell 15 = .ok (.ifCond .ne 9, 3) := by decide +kernel
theorem dX9_tell_18 : decode cX9_tell 18 = .ok (.aload_n 0, 1) := by decide +kernel
theorem dX9_tell_19 : decode cX9_tell 19 = .ok (.iconst 4, 1) := by decide +kernel
theorem dX9_tell_20 : decode cX9_tell 20 = .ok (.invokevirtual 68, 3) := by decide +kernel
theorem dX9_tell_23 : decode cX9_tell 23 = .ok (.ireturn, 1) := by decide +kernel
theorem dX9_tell_24 : decode cX9_tell 24 = .ok (.aload_n 0, 1) := by decide +kernel
theorem dX9_tell_25 : decode cX9_tell 25 = .ok (.getfield 10, 3) := by decide +kernel
theorem dX9_tell_28 : decode cX9_tell 28 = .ok (.getfield 300, 3) := by decide +kernel
theorem dX9_tell_31 : decode cX9_tell 31 = .ok (.iload_n 2, 1) := by decide +kernel
theorem dX9_tell_32 : decode cX9_tell 32 = .ok (.iload_n 1, 1) := by decide +kernel
theorem dX9_tell_33 : decode cX9_tell 33 = .ok (.iastore, 1) := by decide +kernel
theorem dX9_tell_34 : decode cX9_tell 34 = .ok (.aload_n 0, 1) := by decide +kernel
theorem dX9_tell_35 : decode cX9_tell 35 = .ok (.getfield 10, 3) := by decide +kernel
theorem dX9_tell_38 : decode cX9_tell 38 = .ok (.iload_n 2, 1) := by decide +kernel
theorem dX9_tell_39 : decode cX9_tell 39 = .ok (.iconst 1, 1) := by decide +kernel
theorem dX9_tell_40 : decode cX9_tell 40 = .ok (.iadd, 1) := by decide +kernel
theorem dX9_tell_41 : decode cX9_tell 41 = .ok (.putfield 297, 3) := by decide +kernel
theorem dX9_tell_44 : decode cX9_tell 44 = .ok (.aload_n 0, 1) := by decide +kernel
theorem dX9_tell_45 : decode cX9_tell 45 = .ok (.getfield 10, 3) := by decide +kernel
theorem dX9_tell_48 : decode cX9_tell 48 = .ok (.getfield 297, 3) := by decide +kernel
theorem dX9_tell_51 : decode cX9_tell 51 = .ok (.ireturn, 1) := by decide +kernel
theorem dX9_check_0 : decode cX9_check 0 = .ok (.aload_n 0, 1) := by decide +kernel
theorem dX9_check_1 : decode cX9_check 1 = .ok (.getfield 10, 3) := by decide +kernel
theorem dX9_check_4 : decode cX9_check 4 = .ok (.getfield 297, 3) := by decide +kernel
theorem dX9_check_7 : decode cX9_check 7 = .ok (.istore_n 1, 1) := by decide +kernel
theorem dX9_check_8 : decode cX9_check 8 = .ok (.aload_n 0, 1) := by decide +kernel
theorem dX9_check_9 : decode cX9_check 9 = .ok (.getfield 10, 3) := by decide +kernel
theorem dX9_check_12 : decode cX9_check 12 = .ok (.iconst 0, 1) := by decide +kernel
theorem dX9_check_13 : decode cX9_check 13 = .ok (.putfield 297, 3) := by decide +kernel
theorem dX9_check_16 : decode cX9_check 16 = .ok (.aload_n 0, 1) := by decide +kernel
theorem dX9_check_17 : decode cX9_check 17 = .ok (.getfield 16, 3) := by decide +kernel
theorem dX9_check_20 : decode cX9_check 20 = .ok (.aload_n 0, 1) := by decide +kernel
theorem dX9_check_21 : decode cX9_check 21 = .ok (.getfield 10, 3) := by decide +kernel
theorem dX9_check_24 : decode cX9_check 24 = .ok (.invokevirtual 61, 3) := by decide +kernel
theorem dX9_check_27 : decode cX9_check 27 = .ok (.iconst 0, 1) := by decide +kernel
theorem dX9_check_28 : decode cX9_check 28 = .ok (.istore_n 2, 1) := by decide +kernel
theorem dX9_check_29 : decode cX9_check 29 = .ok (.iload_n 2, 1) := by decide +kernel
theorem dX9_check_30 : decode cX9_check 30 = .ok (.iload_n 1, 1) := by decide +kernel
theorem dX9_check_31 : decode cX9_check 31 = .ok (.if_icmp .ge 45, 3) := by decide +kernel
theorem dX9_check_34 : decode cX9_check 34 = .ok (.iload_n 2, 1) := by decide +kernel
theorem dX9_check_35 : decode cX9_check 35 = .ok (.bipush 20, 2) := by decide +kernel
theorem dX9_check_37 : decode cX9_check 37 = .ok (.if_icmp .ge 39, 3) := by decide +kernel
theorem dX9_check_40 : decode cX9_check 40 = .ok (.aload_n 0, 1) := by decide +kernel
theorem dX9_check_41 : decode cX9_check 41 = .ok (.getfield 16, 3) := by decide +kernel
theorem dX9_check_44 : decode cX9_check 44 = .ok (.invokevirtual 65, 3) := by decide +kernel
theorem dX9_check_47 : decode cX9_check 47 = .ok (.aload_n 0, 1) := by decide +kernel
theorem dX9_check_48 : decode cX9_check 48 = .ok (.getfield 10, 3) := by decide +kernel
theorem dX9_check_51 : decode cX9_check 51 = .ok (.getfield 300, 3) := by decide +kernel
theorem dX9_check_54 : decode cX9_check 54 = .ok (.iload_n 2, 1) := by decide +kernel
theorem dX9_check_55 : decode cX9_check 55 = .ok (.iaload, 1) := by decide +kernel
theorem dX9_check_56 : decode cX9_check 56 = .ok (.aload_n 0, 1) := by decide +kernel
theorem dX9_check_57 : decode cX9_check 57 = .ok (.getfield 16, 3) := by decide +kernel
theorem dX9_check_60 : decode cX9_check 60 = .ok (.getfield 212, 3) := by decide +kernel
theorem dX9_check_63 : decode cX9_check 63 = .ok (.if_icmp .eq 7, 3) := by decide +kernel
theorem dX9_check_66 : decode cX9_check 66 = .ok (.iconst 1, 1) := by decide +kernel
theorem dX9_check_67 : decode cX9_check 67 = .ok (.iload_n 2, 1) := by decide +kernel
theorem dX9_check_68 : decode cX9_check 68 = .ok (.iadd, 1) := by decide +kernel
theorem dX9_check_69 : decode cX9_check 69 = .ok (.ireturn, 1) := by decide +kernel
theorem dX9_check_70 : decode cX9_check 70 = .ok (.iinc 2 1, 3) := by decide +kernel
theorem dX9_check_73 : decode cX9_check 73 = .ok (.goto (-44), 3) := by decide +kernel
theorem dX9_check_76 : decode cX9_check 76 = .ok (.iconst 0, 1) := by decide +kernel
theorem dX9_check_77 : decode cX9_check 77 = .ok (.ireturn, 1) := by decide +kernel
theorem dX9_count_0 : decode cX9_count 0 = .ok (.iload_n 1, 1) := by decide +kernel
theorem dX9_count_1 : decode cX9_count 1 = .ok (.iconst 0, 1) := by decide +kernel
theorem dX9_count_2 : decode cX9_count 2 = .ok (.bipush 7, 2) := by decide +kernel
theorem dX9_count_4 : decode cX9_count 4 = .ok (.invokestatic 56, 3) := by decide +kernel
theorem dX9_count_7 : decode cX9_count 7 = .ok (.ifCond .ne 9, 3) := by decide +kernel
theorem dX9_count_10 : decode cX9_count 10 = .ok (.aload_n 0, 1) := by decide +kernel
theorem dX9_count_11 : decode cX9_count 11 = .ok (.iconst 1, 1) := by decide +kernel
theorem dX9_count_12 : decode cX9_count 12 = .ok (.invokevirtual 68, 3) := by decide +kernel
theorem dX9_count_15 : decode cX9_count 15 = .ok (.ireturn, 1) := by decide +kernel
theorem dX9_count_16 : decode cX9_count 16 = .ok (.iload_n 1, 1) := by decide +kernel
theorem dX9_count_17 : decode cX9_count 17 = .ok (.tableswitch 102 0 6 #[43, 51, 59, 67, 75, 86, 94], 43) := by decide +kernel
theorem dX9_count_60 : decode cX9_count 60 = .ok (.aload_n 0, 1) := by decide +kernel
theorem dX9_count_61 : decode cX9_count 61 = .ok (.getfield 10, 3) := by decide +kernel
theorem dX9_count_64 : decode cX9_count 64 = .ok (.getfield 206, 3) := by decide +kernel
theorem dX9_count_67 : decode cX9_count 67 = .ok (.ireturn, 1) := by decide +kernel
theorem dX9_count_68 : decode cX9_count 68 = .ok (.aload_n 0, 1) := by decide +kernel
theorem dX9_count_69 : decode cX9_count 69 = .ok (.getfield 10, 3) := by decide +kernel
theorem dX9_count_72 : decode cX9_count 72 = .ok (.getfield 109, 3) := by decide +kernel
theorem dX9_count_75 : decode cX9_count 75 = .ok (.ireturn, 1) := by decide +kernel
theorem dX9_count_76 : decode cX9_count 76 = .ok (.aload_n 0, 1) := by decide +kernel
theorem dX9_count_77 : decode cX9_count 77 = .ok (.getfield 10, 3) := by decide +kernel
theorem dX9_count_80 : decode cX9_count 80 = .ok (.invokevirtual 303, 3) := by decide +kernel
theorem dX9_count_83 : decode cX9_count 83 = .ok (.ireturn, 1) := by decide +kernel
theorem dX9_count_84 : decode cX9_count 84 = .ok (.aload_n 0, 1) := by decide +kernel
theorem dX9_count_85 : decode cX9_count 85 = .ok (.getfield 10, 3) := by decide +kernel
theorem dX9_count_88 : decode cX9_count 88 = .ok (.invokevirtual 306, 3) := by decide +kernel
theorem dX9_count_91 : decode cX9_count 91 = .ok (.ireturn, 1) := by decide +kernel
theorem dX9_count_92 : decode cX9_count 92 = .ok (.aload_n 0, 1) := by decide +kernel
theorem dX9_count_93 : decode cX9_count 93 = .ok (.getfield 10, 3) := by decide +kernel
theorem dX9_count_96 : decode cX9_count 96 = .ok (.getfield 159, 3) := by decide +kernel
theorem dX9_count_99 : decode cX9_count 99 = .ok (.getfield 163, 3) := by decide +kernel
theorem dX9_count_102 : decode cX9_count 102 = .ok (.ireturn, 1) := by decide +kernel
theorem dX9_count_103 : decode cX9_count 103 = .ok (.aload_n 0, 1) := by decide +kernel
theorem dX9_count_104 : decode cX9_count 104 = .ok (.getfield 10, 3) := by decide +kernel
theorem dX9_count_107 : decode cX9_count 107 = .ok (.getfield 297, 3) := by decide +kernel
theorem dX9_count_110 : decode cX9_count 110 = .ok (.ireturn, 1) := by decide +kernel
theorem dX9_count_111 : decode cX9_count 111 = .ok (.aload_n 0, 1) := by decide +kernel
theorem dX9_count_112 : decode cX9_count 112 = .ok (.getfield 32, 3) := by decide +kernel
theorem dX9_count_115 : decode cX9_count 115 = .ok (.getfield 254, 3) := by decide +kernel
theorem dX9_count_118 : decode cX9_count 118 = .ok (.ireturn, 1) := by decide +kernel
theorem dX9_count_119 : decode cX9_count 119 = .ok (.aload_n 0, 1) := by decide +kernel
theorem dX9_count_120 : decode cX9_count 120 = .ok (.getfield 10, 3) := by decide +kernel
theorem dX9_count_123 : decode cX9_count 123 = .ok (.getfield 247, 3) := by decide +kernel
theorem dX9_count_126 : decode cX9_count 126 = .ok (.ireturn, 1) := by decide +kernel
theorem dX9_told_0 : decode cX9_told 0 = .ok (.iload_n 1, 1) := by decide +kernel
theorem dX9_told_1 : decode cX9_told 1 = .ok (.iconst 1, 1) := by decide +kernel
theorem dX9_told_2 : decode cX9_told 2 = .ok (.iconst 5, 1) := by decide +kernel
theorem dX9_told_3 : decode cX9_told 3 = .ok (.invokestatic 56, 3) := by decide +kernel
theorem dX9_told_6 : decode cX9_told 6 = .ok (.ifCond .ne 9, 3) := by decide +kernel
theorem dX9_told_9 : decode cX9_told 9 = .ok (.aload_n 0, 1) := by decide +kernel
theorem dX9_told_10 : decode cX9_told 10 = .ok (.iconst 1, 1) := by decide +kernel
theorem dX9_told_11 : decode cX9_told 11 = .ok (.invokevirtual 68, 3) := by decide +kernel
theorem dX9_told_14 : decode cX9_told 14 = .ok (.ireturn, 1) := by decide +kernel
theorem dX9_told_15 : decode cX9_told 15 = .ok (.aload_n 0, 1) := by decide +kernel
theorem dX9_told_16 : decode cX9_told 16 = .ok (.getfield 42, 3) := by decide +kernel
theorem dX9_told_19 : decode cX9_told 19 = .ok (.iload_n 1, 1) := by decide +kernel
theorem dX9_told_20 : decode cX9_told 20 = .ok (.iaload, 1) := by decide +kernel
theorem dX9_told_21 : decode cX9_told 21 = .ok (.ireturn, 1) := by decide +kernel
theorem dX10_init_0 : decode cX10_init 0 = .ok (.aload_n 0, 1) := by decide +kernel
theorem dX10_init_1 : decode cX10_init 1 = .ok (.invokespecial 1, 3) := by decide +kernel
theorem dX10_init_4 : decode cX10_init 4 = .ok (.aload_n 0, 1) := by decide +kernel
theorem dX10_init_5 : decode cX10_init 5 = .ok (.sipush 340, 3) := by decide +kernel
theorem dX10_init_8 : decode cX10_init 8 = .ok (.newarray .int, 2) := by decide +kernel
theorem dX10_init_10 : decode cX10_init 10 = .ok (.putfield 7, 3) := by decide +kernel
theorem dX10_init_13 : decode cX10_init 13 = .ok (.aload_n 0, 1) := by decide +kernel
theorem dX10_init_14 : decode cX10_init 14 = .ok (.sipush 340, 3) := by decide +kernel
theorem dX10_init_17 : decode cX10_init 17 = .ok (.newarray .int, 2) := by decide +kernel
theorem dX10_init_19 : decode cX10_init 19 = .ok (.putfield 13, 3) := by decide +kernel
theorem dX10_init_22 : decode cX10_init 22 = .ok (.aload_n 0, 1) := by decide +kernel
theorem dX10_init_23 : decode cX10_init 23 = .ok (.sipush 340, 3) := by decide +kernel
theorem dX10_init_26 : decode cX10_init 26 = .ok (.newarray .int, 2) := by decide +kernel
theorem dX10_init_28 : decode cX10_init 28 = .ok (.putfield 16, 3) := by decide +kernel
theorem dX10_init_31 : decode cX10_init 31 = .ok (.aload_n 0, 1) := by decide +kernel
theorem dX10_init_32 : decode cX10_init 32 = .ok (.bipush 6, 2) := by decide +kernel
theorem dX10_init_34 : decode cX10_init 34 = .ok (.newarray .int, 2) := by decide +kernel
theorem dX10_init_36 : decode cX10_init 36 = .ok (.putfield 19, 3) := by decide +kernel
theorem dX10_init_39 : decode cX10_init 39 = .ok (.aload_n 0, 1) := by decide +kernel
theorem dX10_init_40 : decode cX10_init 40 = .ok (.iconst 3, 1) := by decide +kernel
theorem dX10_init_41 : decode cX10_init 41 = .ok (.newarray .int, 2) := by decide +kernel
theorem dX10_init_43 : decode cX10_init 43 = .ok (.putfield 22, 3) := by decide +kernel
theorem dX10_init_46 : decode cX10_init 46 = .ok (.aload_n 0, 1) := by decide +kernel
theorem dX10_init_47 : decode cX10_init 47 = .ok (.bipush 40, 2) := by decide +kernel
theorem dX10_init_49 : decode cX10_init 49 = .ok (.newarray .int, 2) := by decide +kernel
theorem dX10_init_51 : decode cX10_init 51 = .ok (.putfield 25, 3) := by decide +kernel
theorem dX10_init_54 : decode cX10_init 54 = .ok (.aload_n 0, 1) := by decide +kernel
theorem dX10_init_55 : decode cX10_init 55 = .ok (.iconst 4, 1) := by decide +kernel
theorem dX10_init_56 : decode cX10_init 56 = .ok (.newarray .int, 2) := by decide +kernel
theorem dX10_init_58 : decode cX10_init 58 = .ok (.putfield 28, 3) := by decide +kernel
theorem dX10_init_61 : decode cX10_init 61 = .ok (.aload_n 0, 1) := by decide +kernel
theorem dX10_init_62 : decode cX10_init 62 = .ok (.iconst 4, 1) := by decide +kernel
theorem dX10_init_63 : decode cX10_init 63 = .ok (.newarray .int, 2) := by decide +kernel
theorem dX10_init_65 : decode cX10_init 65 = .ok (.putfield 31, 3) := by decide +kernel
theorem dX10_init_68 : decode cX10_init 68 = .ok (.aload_n 0, 1) := by decide +kernel
theorem dX10_init_69 : decode cX10_init 69 = .ok (.sipush 160, 3) := by decide +kernel
theorem dX10_init_72 : decode cX10_init 72 = .ok (.newarray .int, 2) := by decide +kernel
theorem dX10_init_74 : decode cX10_init 74 = .ok (.putfield 34, 3) := by decide +kernel
theorem dX10_init_77 : decode cX10_init 77 = .ok (.aload_n 0, 1) := by decide +kernel
theorem dX10_init_78 : decode cX10_init 78 = .ok (.bipush 40, 2) := by decide +kernel
theorem dX10_init_80 : decode cX10_init 80 = .ok (.newarray .int, 2) := by decide +kernel
theorem dX10_init_82 : decode cX10_init 82 = .ok (.putfield 37, 3) := by decide +kernel
theorem dX10_init_85 : decode cX10_init 85 = .ok (.iconst 0, 1) := by decide +kernel
theorem dX10_init_86 : decode cX10_init 86 = .ok (.istore_n 1, 1) := by decide +kernel
theorem dX10_init_87 : decode cX10_init 87 = .ok (.iload_n 1, 1) := by decide +kernel
theorem dX10_init_88 : decode cX10_init 88 = .ok (.iconst 3, 1) := by decide +kernel
theorem dX10_init_89 : decode cX10_init 89 = .ok (.if_icmp .ge 18, 3) := by decide +kernel
theorem dX10_init_92 : decode cX10_init 92 = .ok (.aload_n 0, 1) := by decide +kernel
theorem dX10_init_93 : decode cX10_init 93 = .ok (.getfield 7, 3) := by decide +kernel
theorem dX10_init_96 : decode cX10_init 96 = .ok (.iconst 0, 1) := by decide +kernel
theorem dX10_init_97 : decode cX10_init 97 = .ok (.iload_n 1, 1) := by decide +kernel
theorem dX10_init_98 : decode cX10_init 98 = .ok (.iadd, 1) := by decide +kernel
theorem dX10_init_99 : decode cX10_init 99 = .ok (.iconst 2, 1) := by decide +kernel
theorem dX10_init_100 : decode cX10_init 100 = .ok (.iastore, 1) := by decide +kernel
theorem dX10_init_101 : decode cX10_init 101 = .ok (.iinc 1 1, 3) := by decide +kernel
theorem dX10_init_104 : decode cX10_init 104 = .ok (.goto (-17), 3) := by decide +kernel
theorem dX10_init_107 : decode cX10_init 107 = .ok (.aload_n 0, 1) := by decide +kernel
theorem dX10_init_108 : decode cX10_init 108 = .ok (.getfield 7, 3) := by decide +kernel
theorem dX10_init_111 : decode cX10_init 111 = .ok (.iconst 3, 1) := by decide +kernel
theorem dX10_init_112 : decode cX10_init 112 = .ok (.sipush 300, 3) := by decide +kernel
theorem dX10_init_115 : decode cX10_init 115 = .ok (.iastore, 1) := by decide +kernel
theorem dX10_init_116 : decode cX10_init 116 = .ok (.aload_n 0, 1) := by decide +kernel
theorem dX10_init_117 : decode cX10_init 117 = .ok (.getfield 7, 3) := by decide +kernel
theorem dX10_init_120 : decode cX10_init 120 = .ok (.iconst 4, 1) := by decide +kernel
theorem dX10_init_121 : decode cX10_init 121 = .ok (.iconst 5, 1) := by decide +kernel
theorem dX10_init_122 : decode cX10_init 122 = .ok (.iastore, 1) := by decide +kernel
theorem dX10_init_123 : decode cX10_init 123 = .ok (.aload_n 0, 1) := by decide +kernel
theorem dX10_init_124 : decode cX10_init 124 = .ok (.getfield 7, 3) := by decide +kernel
theorem dX10_init_127 : decode cX10_init 127 = .ok (.bipush 7, 2) := by decide +kernel
theorem dX10_init_129 : decode cX10_init 129 = .ok (.sipush 500, 3) := by decide +kernel
theorem dX10_init_132 : decode cX10_init 132 = .ok (.iastore, 1) := by decide +kernel
theorem dX10_init_133 : decode cX10_init 133 = .ok (.aload_n 0, 1) := by decide +kernel
theorem dX10_init_134 : decode cX10_init 134 = .ok (.getfield 7, 3) := by decide +kernel
theorem dX10_init_137 : decode cX10_init 137 = .ok (.bipush 13, 2) := by decide +kernel
theorem dX10_init_139 : decode cX10_init 139 = .ok (.iconst 1, 1) := by decide +kernel
theorem dX10_init_140 : decode cX10_init 140 = .ok (.iastore, 1) := by decide +kernel
theorem dX10_init_141 : decode cX10_init 141 = .ok (.iconst 0, 1) := by decide +kernel
theorem dX10_init_142 : decode cX10_init 142 = .ok (.istore_n 1, 1) := by decide +kernel
theorem dX10_init_143 : decode cX10_init 143 = .ok (.iload_n 1, 1) := by decide +kernel
theorem dX10_init_144 : decode cX10_init 144 = .ok (.bipush 6, 2) := by decide +kernel
theorem dX10_init_146 : decode cX10_init 146 = .ok (.if_icmp .ge 25, 3) := by decide +kernel
theorem dX10_init_149 : decode cX10_init 149 = .ok (.aload_n 0, 1) := by decide +kernel
theorem dX10_init_150 : decode cX10_init 150 = .ok (.getfield 7, 3) := by decide +kernel
theorem dX10_init_153 : decode cX10_init 153 = .ok (.bipush 108, 2) := by decide +kernel
theorem dX10_init_155 : decode cX10_init 155 = .ok (.iload_n 1, 1) := by decide +kernel
theorem dX10_init_156 : decode cX10_init 156 = .ok (.iadd, 1) := by decide +kernel
theorem dX10_init_157 : decode cX10_init 157 = .ok (.bipush 100, 2) := by decide +kernel
theorem dX10_init_159 : decode cX10_init 159 = .ok (.bipush 100, 2) := by decide +kernel
theorem dX10_init_161 : decode cX10_init 161 = .ok (.iload_n 1, 1) := by decide +kernel
theorem dX10_init_162 : decode cX10_init 162 = .ok (.imul, 1) := by decide +kernel
theorem dX10_init_163 : decode cX10_init 163 = .ok (.iadd, 1) := by decide +kernel
theorem dX10_init_164 : decode cX10_init 164 = .ok (.iastore, 1) := by decide +kernel
theorem dX10_init_165 : decode cX10_init 165 = .ok (.iinc 1 1, 3) := by decide +kernel
theorem dX10_init_168 : decode cX10_init 168 = .ok (.goto (-25), 3) := by decide +kernel
theorem dX10_init_171 : decode cX10_init 171 = .ok (.return_, 1) := by decide +kernel
theorem dX10_finds_0 : decode cX10_finds 0 = .ok (.aload_n 0, 1) := by decide +kernel
theorem dX10_finds_1 : decode cX10_finds 1 = .ok (.getfield 19, 3) := by decide +kernel
theorem dX10_finds_4 : decode cX10_finds 4 = .ok (.iload_n 1, 1) := by decide +kernel
theorem dX10_finds_5 : decode cX10_finds 5 = .ok (.dup2, 1) := by decide +kernel
theorem dX10_finds_6 : decode cX10_finds 6 = .ok (.iaload, 1) := by decide +kernel
theorem dX10_finds_7 : decode cX10_finds 7 = .ok (.iconst 1, 1) := by decide +kernel
theorem dX10_finds_8 : decode cX10_finds 8 = .ok (.iadd, 1) := by decide +kernel
theorem dX10_finds_9 : decode cX10_finds 9 = .ok (.iastore, 1) := by decide +kernel
theorem dX10_finds_10 : decode cX10_finds 10 = .ok (.ldc 40, 2) := by decide +kernel
theorem dX10_finds_12 : decode cX10_finds 12 = .ok (.iload_n 1, 1) := by decide +kernel
theorem dX10_finds_13 : decode cX10_finds 13 = .ok (.isub, 1) := by decide +kernel
theorem dX10_finds_14 : decode cX10_finds 14 = .ok (.ireturn, 1) := by decide +kernel
theorem dX10_in_0 : decode cX10_in 0 = .ok (.lload_n 0, 1) := by decide +kernel
theorem dX10_in_1 : decode cX10_in 1 = .ok (.lload_n 2, 1) := by decide +kernel
theorem dX10_in_2 : decode cX10_in 2 = .ok (.lcmp, 1) := by decide +kernel
theorem dX10_in_3 : decode cX10_in 3 = .ok (.ifCond .lt 14, 3) := by decide +kernel
theorem dX10_in_6 : decode cX10_in 6 = .ok (.lload_n 0, 1) := by decide +kernel
theorem dX10_in_7 : decode cX10_in 7 = .ok (.lload 4, 2) := by decide +kernel
theorem dX10_in_9 : decode cX10_in 9 = .ok (.lcmp, 1) := by decide +kernel
theorem dX10_in_10 : decode cX10_in 10 = .ok (.ifCond .gt 7, 3) := by decide +kernel
theorem dX10_in_13 : decode cX10_in 13 = .ok (.iconst 1, 1) := by decide +kernel
theorem dX10_in_14 : decode cX10_in 14 = .ok (.goto 4, 3) := by decide +kernel
theorem dX10_in_17 : decode cX10_in 17 = .ok (.iconst 0, 1) := by decide +kernel
theorem dX10_in_18 : decode cX10_in 18 = .ok (.ireturn, 1) := by decide +kernel
theorem dX10_held_0 : decode cX10_held 0 = .ok (.iload_n 0, 1) := by decide +kernel
theorem dX10_held_1 : decode cX10_held 1 = .ok (.iload_n 1, 1) := by decide +kernel
theorem dX10_held_2 : decode cX10_held 2 = .ok (.if_icmp .ge 7, 3) := by decide +kernel
theorem dX10_held_5 : decode cX10_held 5 = .ok (.iload_n 1, 1) := by decide +kernel
theorem dX10_held_6 : decode cX10_held 6 = .ok (.goto 13, 3) := by decide +kernel
theorem dX10_held_9 : decode cX10_held 9 = .ok (.iload_n 0, 1) := by decide +kernel
theorem dX10_held_10 : decode cX10_held 10 = .ok (.iload_n 2, 1) := by decide +kernel
theorem dX10_held_11 : decode cX10_held 11 = .ok (.if_icmp .le 7, 3) := by decide +kernel
theorem dX10_held_14 : decode cX10_held 14 = .ok (.iload_n 2, 1) := by decide +kernel
theorem dX10_held_15 : decode cX10_held 15 = .ok (.goto 4, 3) := by decide +kernel
theorem dX10_held_18 : decode cX10_held 18 = .ok (.iload_n 0, 1) := by decide +kernel
theorem dX10_held_19 : decode cX10_held 19 = .ok (.ireturn, 1) := by decide +kernel
theorem dX10_lesser_0 : decode cX10_lesser 0 = .ok (.iload_n 0, 1) := by decide +kernel
theorem dX10_lesser_1 : decode cX10_lesser 1 = .ok (.iload_n 1, 1) := by decide +kernel
theorem dX10_lesser_2 : decode cX10_lesser 2 = .ok (.if_icmp .ge 7, 3) := by decide +kernel
theorem dX10_lesser_5 : decode cX10_lesser 5 = .ok (.iload_n 0, 1) := by decide +kernel
theorem dX10_lesser_6 : decode cX10_lesser 6 = .ok (.goto 4, 3) := by decide +kernel
theorem dX10_lesser_9 : decode cX10_lesser 9 = .ok (.iload_n 1, 1) := by decide +kernel
theorem dX10_lesser_10 : decode cX10_lesser 10 = .ok (.ireturn, 1) := by decide +kernel
theorem dX10_greater_0 : decode cX10_greater 0 = .ok (.iload_n 0, 1) := by decide +kernel
theorem dX10_greater_1 : decode cX10_greater 1 = .ok (.iload_n 1, 1) := by decide +kernel
theorem dX10_greater_2 : decode cX10_greater 2 = .ok (.if_icmp .le 7, 3) := by decide +kernel
theorem dX10_greater_5 : decode cX10_greater 5 = .ok (.iload_n 0, 1) := by decide +kernel
theorem dX10_greater_6 : decode cX10_greater 6 = .ok (.goto 4, 3) := by decide +kernel
theorem dX10_greater_9 : decode cX10_greater 9 = .ok (.iload_n 1, 1) := by decide +kernel
theorem dX10_greater_10 : decode cX10_greater 10 = .ok (.ireturn, 1) := by decide +kernel
theorem dX10_copies_0 : decode cX10_copies 0 = .ok (.iconst 0, 1) := by decide +kernel
theorem dX10_copies_1 : decode cX10_copies 1 = .ok (.istore_n 2, 1) := by decide +kernel
theorem dX10_copies_2 : decode cX10_copies 2 = .ok (.iload_n 2, 1) := by decide +kernel
theorem dX10_copies_3 : decode cX10_copies 3 = .ok (.sipush 340, 3) := by decide +kernel
theorem dX10_copies_6 : decode cX10_copies 6 = .ok (.if_icmp .ge 15, 3) := by decide +kernel
theorem dX10_copies_9 : decode cX10_copies 9 = .ok (.aload_n 1, 1) := by decide +kernel
theorem dX10_copies_10 : decode cX10_copies 10 = .ok (.iload_n 2, 1) := by decide +kernel
theorem dX10_copies_11 : decode cX10_copies 11 = .ok (.aload_n 0, 1) := by decide +kernel
theorem dX10_copies_12 : decode cX10_copies 12 = .ok (.iload_n 2, 1) := by decide +kernel
theorem dX10_copies_13 : decode cX10_copies 13 = .ok (.iaload, 1) := by decide +kernel
theorem dX10_copies_14 : decode cX10_copies 14 = .ok (.iastore, 1) := by decide +kernel
theorem dX10_copies_15 : decode cX10_copies 15 = .ok (.iinc 2 1, 3) := by decide +kernel
theorem dX10_copies_18 : decode cX10_copies 18 = .ok (.goto (-16), 3) := by decide +kernel
theorem dX10_copies_21 : decode cX10_copies 21 = .ok (.return_, 1) := by decide +kernel
theorem dX10_isFisher_0 : decode cX10_isFisher 0 = .ok (.iload_n 1, 1) := by decide +kernel
theorem dX10_isFisher_1 : decode cX10_isFisher 1 = .ok (.i2l, 1) := by decide +kernel
theorem dX10_isFisher_2 : decode cX10_isFisher 2 = .ok (.lconst 0, 1) := by decide +kernel
theorem dX10_isFisher_3 : decode cX10_isFisher 3 = .ok (.aload_n 0, 1) := by decide +kernel
theorem dX10_isFisher_4 : decode cX10_isFisher 4 = .ok (.getfield 7, 3) := by decide +kernel
theorem dX10_isFisher_7 : decode cX10_isFisher 7 = .ok (.bipush 12, 2) := by decide +kernel
theorem dX10_isFisher_9 : decode cX10_isFisher 9 = .ok (.iaload, 1) := by decide +kernel
theorem dX10_isFisher_10 : decode cX10_isFisher 10 = .ok (.iconst 1, 1) := by decide +kernel
theorem dX10_isFisher_11 : decode cX10_isFisher 11 = .ok (.isub, 1) := by decide +kernel
theorem dX10_isFisher_12 : decode cX10_isFisher 12 = .ok (.i2l, 1) := by decide +kernel
theorem dX10_isFisher_13 : decode cX10_isFisher 13 = .ok (.invokestatic 41, 3) := by decide +kernel
theorem dX10_isFisher_16 : decode cX10_isFisher 16 = .ok (.ireturn, 1) := by decide +kernel
theorem dX10_of_0 : decode cX10_of 0 = .ok (.aload_n 0, 1) := by decide +kernel
theorem dX10_of_1 : decode cX10_of 1 = .ok (.getfield 7, 3) := by decide +kernel
theorem dX10_of_4 : decode cX10_of 4 = .ok (.bipush 114, 2) := by decide +kernel
theorem dX10_of_6 : decode cX10_of 6 = .ok (.bipush 6, 2) := by decide +kernel
theorem dX10_of_8 : decode cX10_of 8 = .ok (.iload_n 1, 1) := by decide +kernel
theorem dX10_of_9 : decode cX10_of 9 = .ok (.imul, 1) := by decide +kernel
theorem dX10_of_10 : decode cX10_of 10 = .ok (.iadd, 1) := by decide +kernel
theorem dX10_of_11 : decode cX10_of 11 = .ok (.iload_n 2, 1) := by decide +kernel
theorem dX10_of_12 : decode cX10_of 12 = .ok (.iadd, 1) := by decide +kernel
theorem dX10_of_13 : decode cX10_of 13 = .ok (.iaload, 1) := by decide +kernel
theorem dX10_of_14 : decode cX10_of 14 = .ok (.ireturn, 1) := by decide +kernel
theorem dX10_becomes_0 : decode cX10_becomes 0 = .ok (.aload_n 0, 1) := by decide +kernel
theorem dX10_becomes_1 : decode cX10_becomes 1 = .ok (.getfield 7, 3) := by decide +kernel
theorem dX10_becomes_4 : decode cX10_becomes 4 = .ok (.bipush 114, 2) := by decide +kernel
theorem dX10_becomes_6 : decode cX10_becomes 6 = .ok (.bipush 6, 2) := by decide +kernel
theorem dX10_becomes_8 : decode cX10_becomes 8 = .ok (.iload_n 1, 1) := by decide +kernel
theorem dX10_becomes_9 : decode cX10_becomes 9 = .ok (.imul, 1) := by decide +kernel
theorem dX10_becomes_10 : decode cX10_becomes 10 = .ok (.iadd, 1) := by decide +kernel
theorem dX10_becomes_11 : decode cX10_becomes 11 = .ok (.iload_n 2, 1) := by decide +kernel
theorem dX10_becomes_12 : decode cX10_becomes 12 = .ok (.iadd, 1) := by decide +kernel
theorem dX10_becomes_13 : decode cX10_becomes 13 = .ok (.iload_n 3, 1) := by decide +kernel
theorem dX10_becomes_14 : decode cX10_becomes 14 = .ok (.iastore, 1) := by decide +kernel
theorem dX10_becomes_15 : decode cX10_becomes 15 = .ok (.return_, 1) := by decide +kernel
theorem dX10_here_0 : decode cX10_here 0 = .ok (.aload_n 0, 1) := by decide +kernel
theorem dX10_here_1 : decode cX10_here 1 = .ok (.getfield 45, 3) := by decide +kernel
theorem dX10_here_4 : decode cX10_here 4 = .ok (.aload_n 0, 1) := by decide +kernel
theorem dX10_here_5 : decode cX10_here 5 = .ok (.getfield 49, 3) := by decide +kernel
theorem dX10_here_8 : decode cX10_here 8 = .ok (.if_icmp .ge 27, 3) := by decide +kernel
theorem dX10_here_11 : decode cX10_here 11 = .ok (.aload_n 0, 1) := by decide +kernel
theorem dX10_here_12 : decode cX10_here 12 = .ok (.getfield 52, 3) := by decide +kernel
theorem dX10_here_15 : decode cX10_here 15 = .ok (.ifCond .ge 20, 3) := by decide +kernel
theorem dX10_here_18 : decode cX10_here 18 = .ok (.aload_n 0, 1) := by decide +kernel
theorem dX10_here_19 : decode cX10_here 19 = .ok (.getfield 7, 3) := by decide +kernel
theorem dX10_here_22 : decode cX10_here 22 = .ok (.aload_n 0, 1) := by decide +kernel
theorem dX10_here_23 : decode cX10_here 23 = .ok (.getfield 55, 3) := by decide +kernel
theorem dX10_here_26 : decode cX10_here 26 = .ok (.aload_n 0, 1) := by decide +kernel
theorem dX10_here_27 : decode cX10_here 27 = .ok (.getfield 45, 3) := by decide +kernel
theorem dX10_here_30 : decode cX10_here 30 = .ok (.iadd, 1) := by decide +kernel
theorem dX10_here_31 : decode cX10_here 31 = .ok (.iaload, 1) := by decide +kernel
theorem dX10_here_32 : decode cX10_here 32 = .ok (.goto 4, 3) := by decide +kernel
theorem dX10_here_35 : decode cX10_here 35 = .ok (.iconst (-1), 1) := by decide +kernel
theorem dX10_here_36 : decode cX10_here 36 = .ok (.ireturn, 1) := by decide +kernel
theorem dX10_wrong_0 : decode cX10_wrong 0 = .ok (.aload_n 0, 1) := by decide +kernel
theorem dX10_wrong_1 : decode cX10_wrong 1 = .ok (.aload_n 0, 1) := by decide +kernel
theorem dX10_wrong_2 : decode cX10_wrong 2 = .ok (.getfield 52, 3) := by decide +kernel
theorem dX10_wrong_5 : decode cX10_wrong 5 = .ok (.ifCond .ge 10, 3) := by decide +kernel
theorem dX10_wrong_8 : decode cX10_wrong 8 = .ok (.aload_n 0, 1) := by decide +kernel
theorem dX10_wrong_9 : decode cX10_wrong 9 = .ok (.getfield 45, 3) := by decide +kernel
theorem dX10_wrong_12 : decode cX10_wrong 12 = .ok (.goto 7, 3) := by decide +kernel
theorem dX10_wrong_15 : decode cX10_wrong 15 = .ok (.aload_n 0, 1) := by decide +kernel
theorem dX10_wrong_16 : decode cX10_wrong 16 = .ok (.getfield 52, 3) := by decide +kernel
theorem dX10_wrong_19 : decode cX10_wrong 19 = .ok (.putfield 52, 3) := by decide +kernel
theorem dX10_wrong_22 : decode cX10_wrong 22 = .ok (.iconst 0, 1) := by decide +kernel
theorem dX10_wrong_23 : decode cX10_wrong 23 = .ok (.ireturn, 1) := by decide +kernel
theorem dX10_takes_0 : decode cX10_takes 0 = .ok (.aload_n 0, 1) := by decide +kernel
theorem dX10_takes_1 : decode cX10_takes 1 = .ok (.invokevirtual 58, 3) := by decide +kernel
theorem dX10_takes_4 : decode cX10_takes 4 = .ok (.iload_n 1, 1) := by decide +kernel
theorem dX10_takes_5 : decode cX10_takes 5 = .ok (.if_icmp .eq 5, 3) := by decide +kernel
theorem dX10_takes_8 : decode cX10_takes 8 = .ok (.iconst 0, 1) := by decide +kernel
theorem dX10_takes_9 : decode cX10_takes 9 = .ok (.ireturn, 1) := by decide +kernel
theorem dX10_takes_10 : decode cX10_takes 10 = .ok (.aload_n 0, 1) := by decide +kernel
theorem dX10_takes_11 : decode cX10_takes 11 = .ok (.dup, 1) := by decide +kernel
theorem dX10_takes_12 : decode cX10_takes 12 = .ok (.getfield 45, 3) := by decide +kernel
theorem dX10_takes_15 : decode cX10_takes 15 = .ok (.iconst 1, 1) := by decide +kernel
theorem dX10_takes_16 : decode cX10_takes 16 = .ok (.iadd, 1) := by decide +kernel
theorem dX10_takes_17 : decode cX10_takes 17 = .ok (.putfield 45, 3) := by decide +kernel
theorem dX10_takes_20 : decode cX10_takes 20 = .ok (.iconst 1, 1) := by decide +kernel
theorem dX10_takes_21 : decode cX10_takes 21 = .ok (.ireturn, 1) := by decide +kernel
theorem dX10_nameOf_0 : decode cX10_nameOf 0 = .ok (.aload_n 0, 1) := by decide +kernel
theorem dX10_nameOf_1 : decode cX10_nameOf 1 = .ok (.getfield 62, 3) := by decide +kernel
theorem dX10_nameOf_4 : decode cX10_nameOf 4 = .ok (.ifCond .eq 35, 3) := by decide +kernel
theorem dX10_nameOf_7 : decode cX10_nameOf 7 = .ok (.iload_n 1, 1) := by decide +kernel
theorem dX10_nameOf_8 : decode cX10_nameOf 8 = .ok (.bipush 108, 2) := by decide +kernel
theorem dX10_nameOf_10 : decode cX10_nameOf 10 = .ok (.if_icmp .ne 7, 3) := by decide +kernel
theorem dX10_nameOf_13 : decode cX10_nameOf 13 = .ok (.iconst 0, 1) := by decide +kernel
theorem dX10_nameOf_14 : decode cX10_nameOf 14 = .ok (.goto 24, 3) := by decide +kernel
theorem dX10_nameOf_17 : decode cX10_nameOf 17 = .ok (.iload_n 1, 1) := by decide +kernel
theorem dX10_nameOf_18 : decode cX10_nameOf 18 = .ok (.bipush 102, 2) := by decide +kernel
theorem dX10_nameOf_20 : decode cX10_nameOf 20 = .ok (.if_icmp .ne 7, 3) := by decide +kernel
theorem dX10_nameOf_23 : decode cX10_nameOf 23 = .ok (.iconst 1, 1) := by decide +kernel
theorem dX10_nameOf_24 : decode cX10_nameOf 24 = .ok (.goto 14, 3) := by decide +kernel
theorem dX10_nameOf_27 : decode cX10_nameOf 27 = .ok (.iload_n 1, 1) := by decide +kernel
theorem dX10_nameOf_28 : decode cX10_nameOf 28 = .ok (.bipush 103, 2) := by decide +kernel
theorem dX10_nameOf_30 : decode cX10_nameOf 30 = .ok (.if_icmp .ne 7, 3) := by decide +kernel
theorem dX10_nameOf_33 : decode cX10_nameOf 33 = .ok (.iconst 2, 1) := by decide +kernel
theorem dX10_nameOf_34 : decode cX10_nameOf 34 = .ok (.goto 4, 3) := by decide +kernel
theorem dX10_nameOf_37 : decode cX10_nameOf 37 = .ok (.iconst (-1), 1) := by decide +kernel
theorem dX10_nameOf_38 : decode cX10_nameOf 38 = .ok (.ireturn, 1) := by decide +kernel
theorem dX10_nameOf_39 : decode cX10_nameOf 39 = .ok (.iload_n 1, 1) := by decide +kernel
theorem dX10_nameOf_40 : decode cX10_nameOf 40 = .ok (.bipush 99, 2) := by decide +kernel
theorem dX10_nameOf_42 : decode cX10_nameOf 42 = .ok (.if_icmp .ne 7, 3) := by decide +kernel
theorem dX10_nameOf_45 : decode cX10_nameOf 45 = .ok (.iconst 0, 1) := by decide +kernel
theorem dX10_nameOf_46 : decode cX10_nameOf 46 = .ok (.goto 24, 3) := by decide +kernel
theorem dX10_nameOf_49 : decode cX10_nameOf 49 = .ok (.iload_n 1, 1) := by decide +kernel
theorem dX10_nameOf_50 : decode cX10_nameOf 50 = .ok (.bipush 115, 2) := by decide +kernel
theorem dX10_nameOf_52 : decode cX10_nameOf 52 = .ok (.if_icmp .ne 7, 3) := by decide +kernel
theorem dX10_nameOf_55 : decode cX10_nameOf 55 = .ok (.iconst 1, 1) := by decide +kernel
theorem dX10_nameOf_56 : decode cX10_nameOf 56 = .ok (.goto 14, 3) := by decide +kernel
theorem dX10_nameOf_59 : decode cX10_nameOf 59 = .ok (.iload_n 1, 1) := by decide +kernel
theorem dX10_nameOf_60 : decode cX10_nameOf 60 = .ok (.bipush 108, 2) := by decide +kernel
theorem dX10_nameOf_62 : decode cX10_nameOf 62 = .ok (.if_icmp .ne 7, 3) := by decide +kernel
theorem dX10_nameOf_65 : decode cX10_nameOf 65 = .ok (.iconst 2, 1) := by decide +kernel
theorem dX10_nameOf_66 : decode cX10_nameOf 66 = .ok (.goto 4, 3) := by decide +kernel
theorem dX10_nameOf_69 : decode cX10_nameOf 69 = .ok (.iconst (-1), 1) := by decide +kernel
theorem dX10_nameOf_70 : decode cX10_nameOf 70 = .ok (.ireturn, 1) := by decide +kernel
theorem dX10_either_0 : decode cX10_either 0 = .ok (.aload_n 0, 1) := by decide +kernel
theorem dX10_either_1 : decode cX10_either 1 = .ok (.invokevirtual 66, 3) := by decide +kernel
theorem dX10_either_4 : decode cX10_either 4 = .ok (.istore_n 1, 1) := by decide +kernel
theorem dX10_either_5 : decode cX10_either 5 = .ok (.aload_n 0, 1) := by decide +kernel
theorem dX10_either_6 : decode cX10_either 6 = .ok (.bipush 124, 2) := by decide +kernel
theorem dX10_either_8 : decode cX10_either 8 = .ok (.invokevirtual 69, 3) := by decide +kernel
theorem dX10_either_11 : decode cX10_either 11 = .ok (.ifCond .eq 25, 3) := by decide +kernel
theorem dX10_either_14 : decode cX10_either 14 = .ok (.aload_n 0, 1) := by decide +kernel
theorem dX10_either_15 : decode cX10_either 15 = .ok (.invokevirtual 66, 3) := by decide +kernel
theorem dX10_either_18 : decode cX10_either 18 = .ok (.istore_n 2, 1) := by decide +kernel
theorem dX10_either_19 : decode cX10_either 19 = .ok (.iload_n 1, 1) := by decide +kernel
theorem dX10_either_20 : decode cX10_either 20 = .ok (.ifCond .ne 7, 3) := by decide +kernel
theorem dX10_either_23 : decode cX10_either 23 = .ok (.iload_n 2, 1) := by decide +kernel
theorem dX10_either_24 : decode cX10_either 24 = .ok (.ifCond .eq 7, 3) := by decide +kernel
theorem dX10_either_27 : decode cX10_either 27 = .ok (.iconst 1, 1) := by decide +kernel
theorem dX10_either_28 : decode cX10_either 28 = .ok (.goto 4, 3) := by decide +kernel
theorem dX10_either_31 : decode cX10_either 31 = .ok (.iconst 0, 1) := by decide +kernel
theorem dX10_either_32 : decode cX10_either 32 = .ok (.istore_n 1, 1) := by decide +kernel
theorem dX10_either_33 : decode cX10_either 33 = .ok (.goto (-28), 3) := by decide +kernel
theorem dX10_either_36 : decode cX10_either 36 = .ok (.iload_n 1, 1) := by decide +kernel
theorem dX10_either_37 : decode cX10_either 37 = .ok (.ireturn, 1) := by decide +kernel
theorem dX10_both_0 : decode cX10_both 0 = .ok (.aload_n 0, 1) := by decide +kernel
theorem dX10_both_1 : decode cX10_both 1 = .ok (.invokevirtual 73, 3) := by decide +kernel
theorem dX10_both_4 : decode cX10_both 4 = .ok (.istore_n 1, 1) := by decide +kernel
theorem dX10_both_5 : decode cX10_both 5 = .ok (.aload_n 0, 1) := by decide +kernel
theorem dX10_both_6 : decode cX10_both 6 = .ok (.bipush 38, 2) := by decide +kernel
theorem dX10_both_8 : decode cX10_both 8 = .ok (.invokevirtual 69, 3) := by decide +kernel
theorem dX10_both_11 : decode cX10_both 11 = .ok (.ifCond .eq 25, 3) := by decide +kernel
theorem dX10_both_14 : decode cX10_both 14 = .ok (.aload_n 0, 1) := by decide +kernel
theorem dX10_both_15 : decode cX10_both 15 = .ok (.invokevirtual 73, 3) := by decide +kernel
theorem dX10_both_18 : decode cX10_both 18 = .ok (.istore_n 2, 1) := by decide +kernel
theorem dX10_both_19 : decode cX10_both 19 = .ok (.iload_n 1, 1) := by decide +kernel
theorem dX10_both_20 : decode cX10_both 20 = .ok (.ifCond .eq 11, 3) := by decide +kernel
theorem dX10_both_23 : decode cX10_both 23 = .ok (.iload_n 2, 1) := by decide +kernel
theorem dX10_both_24 : decode cX10_both 24 = .ok (.ifCond .eq 7, 3) := by decide +kernel
theorem dX10_both_27 : decode cX10_both 27 = .ok (.iconst 1, 1) := by decide +kernel
theorem dX10_both_28 : decode cX10_both 28 = .ok (.goto 4, 3) := by decide +kernel
theorem dX10_both_31 : decode cX10_both 31 = .ok (.iconst 0, 1) := by decide +kernel
theorem dX10_both_32 : decode cX10_both 32 = .ok (.istore_n 1, 1) := by decide +kernel
theorem dX10_both_33 : decode cX10_both 33 = .ok (.goto (-28), 3) := by decide +kernel
theorem dX10_both_36 : decode cX10_both 36 = .ok (.iload_n 1, 1) := by decide +kernel
theorem dX10_both_37 : decode cX10_both 37 = .ok (.ireturn, 1) := by decide +kernel
theorem dX10_compared_0 : decode cX10_compared 0 = .ok (.aload_n 0, 1) := by decide +kernel
theorem dX10_compared_1 : decode cX10_compared 1 = .ok (.invokevirtual 76, 3) := by decide +kernel
theorem dX10_compared_4 : decode cX10_compared 4 = .ok (.istore_n 1, 1) := by decide +kernel
theorem dX10_compared_5 : decode cX10_compared 5 = .ok (.aload_n 0, 1) := by decide +kernel
theorem dX10_compared_6 : decode cX10_compared 6 = .ok (.invokevirtual 58, 3) := by decide +kernel
theorem dX10_compared_9 : decode cX10_compared 9 = .ok (.istore_n 2, 1) := by decide +kernel
theorem dX10_compared_10 : decode cX10_compared 10 = .ok (.iload_n 2, 1) := by decide +kernel
theorem dX10_compared_11 : decode cX10_compared 11 = .ok (.bipush 60, 2) := by decide +kernel
theorem dX10_compared_13 : decode cX10_compared 13 = .ok (.if_icmp .eq 17, 3) := by decide +kernel
theorem dX10_compared_16 : decode cX10_compared 16 = .ok (.iload_n 2, 1) := by decide +kernel
theorem dX10_compared_17 : decode cX10_compared 17 = .ok (.bipush 61, 2) := by decide +kernel
theorem dX10_compared_19 : decode cX10_compared 19 = .ok (.if_icmp .eq 11, 3) := by decide +kernel
theorem dX10_compared_22 : decode cX10_compared 22 = .ok (.iload_n 2, 1) := by decide +kernel
theorem dX10_compared_23 : decode cX10_compared 23 = .ok (.bipush 62, 2) := by decide +kernel
theorem dX10_compared_25 : decode cX10_compared 25 = .ok (.if_icmp .eq 5, 3) := by decide +kernel
theorem dX10_compared_28 : decode cX10_compared 28 = .ok (.iload_n 1, 1) := by decide +kernel
theorem dX10_compared_29 : decode cX10_compared 29 = .ok (.ireturn, 1) := by decide +kernel
theorem dX10_compared_30 : decode cX10_compared 30 = .ok (.aload_n 0, 1) := by decide +kernel
theorem dX10_compared_31 : decode cX10_compared 31 = .ok (.dup, 1) := by decide +kernel
theorem dX10_compared_32 : decode cX10_compared 32 = .ok (.getfield 45, 3) := by decide +kernel
theorem dX10_compared_35 : decode cX10_compared 35 = .ok (.iconst 1, 1) := by decide +kernel
theorem dX10_compared_36 : decode cX10_compared 36 = .ok (.iadd, 1) := by decide +kernel
theorem dX10_compared_37 : decode cX10_compared 37 = .ok (.putfield 45, 3) := by decide +kernel
theorem dX10_compared_40 : decode cX10_compared 40 = .ok (.aload_n 0, 1) := by decide +kernel
theorem dX10_compared_41 : decode cX10_compared 41 = .ok (.invokevirtual 76, 3) := by decide +kernel
theorem dX10_compared_44 : decode cX10_compared 44 = .ok (.istore_n 3, 1) := by decide +kernel
theorem dX10_compared_45 : decode cX10_compared 45 = .ok (.iload_n 2, 1) := by decide +kernel
theorem dX10_compared_46 : decode cX10_compared 46 = .ok (.bipush 60, 2) := by decide +kernel
theorem dX10_compared_48 : decode cX10_compared 48 = .ok (.if_icmp .ne 11, 3) := by decide +kernel
theorem dX10_compared_51 : decode cX10_compared 51 = .ok (.iload_n 1, 1) := by decide +kernel
theorem dX10_compared_52 : decode cX10_compared 52 = .ok (.iload_n 3, 1) := by decide +kernel
theorem dX10_compared_53 : decode cX10_compared 53 = .ok (.if_icmp .ge 29, 3) := by decide +kernel
theorem dX10_compared_56 : decode cX10_compared 56 = .ok (.goto 22, 3) := by decide +kernel
theorem dX10_compared_59 : decode cX10_compared 59 = .ok (.iload_n 2, 1) := by decide +kernel
theorem dX10_compared_60 : decode cX10_compared 60 = .ok (.bipush 61, 2) := by decide +kernel
theorem dX10_compared_62 : decode cX10_compared 62 = .ok (.if_icmp .ne 11, 3) := by decide +kernel
theorem dX10_compared_65 : decode cX10_compared 65 = .ok (.iload_n 1, 1) := by decide +kernel
theorem dX10_compared_66 : decode cX10_compared 66 = .ok (.iload_n 3, 1) := by decide +kernel
theorem dX10_compared_67 : decode cX10_compared 67 = .ok (.if_icmp .ne 15, 3) := by decide +kernel
theorem dX10_compared_70 : decode cX10_compared 70 = .ok (.goto 8, 3) := by decide +kernel
theorem dX10_compared_73 : decode cX10_compared 73 = .ok (.iload_n 1, 1) := by decide +kernel
theorem dX10_compared_74 : decode cX10_compared 74 = .ok (.iload_n 3, 1) := by decide +kernel
theorem dX10_compared_75 : decode cX10_compared 75 = .ok (.if_icmp .le 7, 3) := by decide +kernel
theorem dX10_compared_78 : decode cX10_compared 78 = .ok (.iconst 1, 1) := by decide +kernel
theorem dX10_compared_79 : decode cX10_compared 79 = .ok (.goto 4, 3) := by decide +kernel
theorem dX10_compared_82 : decode cX10_compared 82 = .ok (.iconst 0, 1) := by decide +kernel
theorem dX10_compared_83 : decode cX10_compared 83 = .ok (.ireturn, 1) := by decide +kernel
theorem dX10_sum_0 : decode cX10_sum 0 = .ok (.aload_n 0, 1) := by decide +kernel
theorem dX10_sum_1 : decode cX10_sum 1 = .ok (.invokevirtual 79, 3) := by decide +kernel
theorem dX10_sum_4 : decode cX10_sum 4 = .ok (.istore_n 1, 1) := by decide +kernel
theorem dX10_sum_5 : decode cX10_sum 5 = .ok (.aload_n 0, 1) := by decide +kernel
theorem dX10_sum_6 : decode cX10_sum 6 = .ok (.invokevirtual 58, 3) := by decide +kernel
theorem dX10_sum_9 : decode cX10_sum 9 = .ok (.bipush 43, 2) := by decide +kernel
theorem dX10_sum_11 : decode cX10_sum 11 = .ok (.if_icmp .eq 12, 3) := by decide +kernel
theorem dX10_sum_14 : decode cX10_sum 14 = .ok (.aload_n 0, 1) := by decide +kernel
theorem dX10_sum_15 : decode cX10_sum 15 = .ok (.invokevirtual 58, 3) := by decide +kernel
theorem dX10_sum_18 : decode cX10_sum 18 = .ok (.bipush 45, 2) := by decide +kernel
theorem dX10_sum_20 : decode cX10_sum 20 = .ok (.if_icmp .ne 42, 3) := by decide +kernel
theorem dX10_sum_23 : decode cX10_sum 23 = .ok (.aload_n 0, 1) := by decide +kernel
theorem dX10_sum_24 : decode cX10_sum 24 = .ok (.invokevirtual 58, 3) := by decide +kernel
theorem dX10_sum_27 : decode cX10_sum 27 = .ok (.istore_n 2, 1) := by decide +kernel
theorem dX10_sum_28 : decode cX10_sum 28 = .ok (.aload_n 0, 1) := by decide +kernel
theorem dX10_sum_29 : decode cX10_sum 29 = .ok (.dup, 1) := by decide +kernel
theorem dX10_sum_30 : decode cX10_sum 30 = .ok (.getfield 45, 3) := by decide +kernel
theorem dX10_sum_33 : decode cX10_sum 33 = .ok (.iconst 1, 1) := by decide +kernel
theorem dX10_sum_34 : decode cX10_sum 34 = .ok (.iadd, 1) := by decide +kernel
theorem dX10_sum_35 : decode cX10_sum 35 = .ok (.putfield 45, 3) := by decide +kernel
theorem dX10_sum_38 : decode cX10_sum 38 = .ok (.aload_n 0, 1) := by decide +kernel
theorem dX10_sum_39 : decode cX10_sum 39 = .ok (.invokevirtual 79, 3) := by decide +kernel
theorem dX10_sum_42 : decode cX10_sum 42 = .ok (.istore_n 3, 1) := by decide +kernel
theorem dX10_sum_43 : decode cX10_sum 43 = .ok (.iload_n 2, 1) := by decide +kernel
theorem dX10_sum_44 : decode cX10_sum 44 = .ok (.bipush 43, 2) := by decide +kernel
theorem dX10_sum_46 : decode cX10_sum 46 = .ok (.if_icmp .ne 9, 3) := by decide +kernel
theorem dX10_sum_49 : decode cX10_sum 49 = .ok (.iload_n 1, 1) := by decide +kernel
theorem dX10_sum_50 : decode cX10_sum 50 = .ok (.iload_n 3, 1) := by decide +kernel
theorem dX10_sum_51 : decode cX10_sum 51 = .ok (.iadd, 1) := by decide +kernel
theorem dX10_sum_52 : decode cX10_sum 52 = .ok (.goto 6, 3) := by decide +kernel
theorem dX10_sum_55 : decode cX10_sum 55 = .ok (.iload_n 1, 1) := by decide +kernel
theorem dX10_sum_56 : decode cX10_sum 56 = .ok (.iload_n 3, 1) := by decide +kernel
theorem dX10_sum_57 : decode cX10_sum 57 = .ok (.isub, 1) := by decide +kernel
theorem dX10_sum_58 : decode cX10_sum 58 = .ok (.istore_n 1, 1) := by decide +kernel
theorem dX10_sum_59 : decode cX10_sum 59 = .ok (.goto (-54), 3) := by decide +kernel
theorem dX10_sum_62 : decode cX10_sum 62 = .ok (.iload_n 1, 1) := by decide +kernel
theorem dX10_sum_63 : decode cX10_sum 63 = .ok (.ireturn, 1) := by decide +kernel
theorem dX10_product_0 : decode cX10_product 0 = .ok (.aload_n 0, 1) := by decide +kernel
theorem dX10_product_1 : decode cX10_product 1 = .ok (.invokevirtual 82, 3) := by decide +kernel
theorem dX10_product_4 : decode cX10_product 4 = .ok (.istore_n 1, 1) := by decide +kernel
theorem dX10_product_5 : decode cX10_product 5 = .ok (.aload_n 0, 1) := by decide +kernel
theorem dX10_product_6 : decode cX10_product 6 = .ok (.invokevirtual 58, 3) := by decide +kernel
theorem dX10_product_9 : decode cX10_product 9 = .ok (.bipush 42, 2) := by decide +kernel
theorem dX10_product_11 : decode cX10_product 11 = .ok (.if_icmp .eq 21, 3) := by decide +kernel
theorem dX10_product_14 : decode cX10_product 14 = .ok (.aload_n 0, 1) := by decide +kernel
theorem dX10_product_15 : decode cX10_product 15 = .ok (.invokevirtual 58, 3) := by decide +kernel
theorem dX10_product_18 : decode cX10_product 18 = .ok (.bipush 47, 2) := by decide +kernel
theorem dX10_product_20 : decode cX10_product 20 = .ok (.if_icmp .eq 12, 3) := by decide +kernel
theorem dX10_product_23 : decode cX10_product 23 = .ok (.aload_n 0, 1) := by decide +kernel
theorem dX10_product_24 : decode cX10_product 24 = .ok (.invokevirtual 58, 3) := by decide +kernel
theorem dX10_product_27 : decode cX10_product 27 = .ok (.bipush 37, 2) := by decide +kernel
theorem dX10_product_29 : decode cX10_product 29 = .ok (.if_icmp .ne 62, 3) := by decide +kernel
theorem dX10_product_32 : decode cX10_product 32 = .ok (.aload_n 0, 1) := by decide +kernel
theorem dX10_product_33 : decode cX10_product 33 = .ok (.invokevirtual 58, 3) := by decide +kernel
theorem dX10_product_36 : decode cX10_product 36 = .ok (.istore_n 2, 1) := by decide +kernel
theorem dX10_product_37 : decode cX10_product 37 = .ok (.aload_n 0, 1) := by decide +kernel
theorem dX10_product_38 : decode cX10_product 38 = .ok (.dup, 1) := by decide +kernel
theorem dX10_product_39 : decode cX10_product 39 = .ok (.getfield 45, 3) := by decide +kernel
theorem dX10_product_42 : decode cX10_product 42 = .ok (.iconst 1, 1) := by decide +kernel
theorem dX10_product_43 : decode cX10_product 43 = .ok (.iadd, 1) := by decide +kernel
theorem dX10_product_44 : decode cX10_product 44 = .ok (.putfield 45, 3) := by decide +kernel
theorem dX10_product_47 : decode cX10_product 47 = .ok (.aload_n 0, 1) := by decide +kernel
theorem dX10_product_48 : decode cX10_product 48 = .ok (.invokevirtual 82, 3) := by decide +kernel
theorem dX10_product_51 : decode cX10_product 51 = .ok (.istore_n 3, 1) := by decide +kernel
theorem dX10_product_52 : decode cX10_product 52 = .ok (.iload_n 2, 1) := by decide +kernel
