/-! THE MODEL, READ -/
theorem inb_340_0 : inb 0 340 = True := by simp [inb]
theorem inb_340_1 : inb 1 340 = True := by simp [inb]
theorem inb_340_2 : inb 2 340 = True := by simp [inb]
theorem inb_340_3 : inb 3 340 = True := by simp [inb]
theorem inb_340_4 : inb 4 340 = True := by simp [inb]
theorem inb_340_5 : inb 5 340 = True := by simp [inb]
theorem inb_340_6 : inb 6 340 = True := by simp [inb]
theorem inb_340_7 : inb 7 340 = True := by simp [inb]
theorem inb_340_8 : inb 8 340 = True := by simp [inb]
theorem inb_340_9 : inb 9 340 = True := by simp [inb]
theorem inb_340_10 : inb 10 340 = True := by simp [inb]
theorem inb_340_11 : inb 11 340 = True := by simp [inb]
theorem inb_340_12 : inb 12 340 = True := by simp [inb]
theorem inb_340_13 : inb 13 340 = True := by simp [inb]
theorem inb_340_14 : inb 14 340 = True := by simp [inb]
theorem inb_340_15 : inb 15 340 = True := by simp [inb]
theorem m_o : okc 95 10 = true := by decide
theorem m_a96 : oka 96 340 = true := by decide
theorem m_n96 : alen 96 = 340 := by decide
theorem m_a97 : oka 97 340 = true := by decide
theorem m_n97 : alen 97 = 340 := by decide
theorem m_a98 : oka 98 340 = true := by decide
theorem m_n98 : alen 98 = 340 := by decide
theorem m_a99 : oka 99 6 = true := by decide
theorem m_n99 : alen 99 = 6 := by decide
theorem m_a100 : oka 100 3 = true := by decide
theorem m_n100 : alen 100 = 3 := by decide
theorem m_a101 : oka 101 40 = true := by decide
theorem m_n101 : alen 101 = 40 := by decide
theorem m_a102 : oka 102 4 = true := by decide
theorem m_n102 : alen 102 = 4 := by decide
theorem m_a103 : oka 103 4 = true := by decide
theorem m_n103 : alen 103 = 4 := by decide
theorem m_a104 : oka 104 160 = true := by decide
theorem m_n104 : alen 104 = 160 := by decide
theorem m_a105 : oka 105 40 = true := by decide
theorem m_n105 : alen 105 = 40 := by decide
theorem s170 (X : im_E) (d : Nat) (s h : Int32) (σ : Nat → Nat → Int32) (Q : Option Value → im_M → Prop) (hi : inb (16 + 24 * s + rm h 24) 340) : Ev X (d) 170 0 (im_ent 3 [.ref 95, .int s, .int h]) [] (mem σ) Q = Q (some (.int (σ 96 (16 + 24 * s + rm h 24).toNatClampNeg))) (mem (σ)) := by
  show Ev X (d) 170 0 [some (.ref 95), some (.int s), some (.int h)] [] (mem σ) Q = _
  unfold rm at hi ⊢
  simp only [E_aload0 (q := 1) cc_170 dX10_rainAt_0 rfl, E_aloadN0 (q := 1) cc_170 dX10_rainAt_0 rfl, E_getP (q := 4) (o := 1) cc_170 dX10_rainAt_1 rfl (by decide) rfl (by decide) rfl, E_bipush (q := 6) (x := 16) cc_170 dX10_rainAt_4 rfl rfl, E_bipush (q := 8) (x := 24) cc_170 dX10_rainAt_6 rfl rfl, E_iload1 (q := 9) cc_170 dX10_rainAt_8 rfl, E_imul (q := 10) cc_170 dX10_rainAt_9 rfl, E_iadd (q := 11) cc_170 dX10_rainAt_10 rfl, E_iload2 (q := 12) cc_170 dX10_rainAt_11 rfl, E_bipush (q := 14) (x := 24) cc_170 dX10_rainAt_12 rfl rfl, E_irem (q := 15) cc_170 dX10_rainAt_14 (hq := rfl), E_iadd (q := 16) cc_170 dX10_rainAt_15 rfl, E_aldA (q := 17) cc_170 dX10_rainAt_16 rfl, E_ireturn cc_170 dX10_rainAt_17 rfl, Option.toList, List.cons_append, List.nil_append, cz_nil, cs_i, cs_r, cs_n, cs_l, az_nil, az_i, az_r, az_n, az_l, cl_i, cl_r, cl_n, cl_0, cl_l, ct_i, ct_r, ct_n, bi_0, bi_n0, bi_nb, isb_0, isb_1, isb_bi, Nat.reduceAdd, Nat.reduceLeDiff, Nat.zero_le, Nat.zero_add, Nat.add_zero, hi, Int32.reduceOfInt, Int32.reduceAdd, Int32.reduceMul, Int32.reduceLT, Int32.reduceLE, nz_2, nz_3, nz_9, nz_10, nz_24, nz_60, not_false_eq_true, if_false, if_true, reduceIte, m_o, m_a96, m_n96, m_a97, m_n97, m_a98, m_n98, m_a99, m_n99, m_a100, m_n100, m_a101, m_n101, m_a102, m_n102, m_a103, m_n103, m_a104, m_n104, m_a105, m_n105]
theorem s174 (X : im_E) (d : Nat) (h : Int32) (σ : Nat → Nat → Int32) (Q : Option Value → im_M → Prop) (h0 : inb (16 + rm h 24) 340) (h1 : inb (40 + rm h 24) 340) (h2 : inb (64 + rm h 24) 340) : Ev X (d + 1) 174 0 (im_ent 4 [.ref 95, .int h]) [] (mem σ) Q = Q (some (.int (σ 96 (16 + rm h 24).toNatClampNeg * σ 96 0 + σ 96 (40 + rm h 24).toNatClampNeg * σ 96 1 + σ 96 (64 + rm h 24).toNatClampNeg * σ 96 2))) (mem (σ)) := by
  show Ev X (d + 1) 174 0 [some (.ref 95), some (.int h), none, none] [] (mem σ) Q = _
  simp only [E_iconst (q := 1) (x := 0) cc_174 dX10_flowAt_0 rfl rfl, E_istore2 (q := 2) cc_174 dX10_flowAt_1 rfl, E_iconst (q := 3) (x := 0) cc_174 dX10_flowAt_2 rfl rfl, E_istore3 (q := 4) cc_174 dX10_flowAt_3 rfl, E_iload3 (q := 5) cc_174 dX10_flowAt_4 rfl, E_iconst (q := 6) (x := 3) cc_174 dX10_flowAt_5 rfl rfl, E_icmp_ge (q := 9) (t := 33) cc_174 dX10_flowAt_6 rfl rfl, E_iload2 (q := 10) cc_174 dX10_flowAt_9 rfl, E_aload0 (q := 11) cc_174 dX10_flowAt_10 rfl, E_aloadN0 (q := 11) cc_174 dX10_flowAt_10 rfl, E_iload3 (q := 12) cc_174 dX10_flowAt_11 rfl, E_iload1 (q := 13) cc_174 dX10_flowAt_12 rfl, E_cV2 (q := 16) (j := 170) (mx := 3) (ci := 10) cc_174 dX10_flowAt_13 rfl rfl (by decide) rfl rfl, E_aload0 (q := 17) cc_174 dX10_flowAt_16 rfl, E_aloadN0 (q := 17) cc_174 dX10_flowAt_16 rfl, E_getP (q := 20) (o := 1) cc_174 dX10_flowAt_17 rfl (by decide) rfl (by decide) rfl, E_iconst (q := 21) (x := 0) cc_174 dX10_flowAt_20 rfl rfl, E_iload3 (q := 22) cc_174 dX10_flowAt_21 rfl, E_iadd (q := 23) cc_174 dX10_flowAt_22 rfl, E_aldA (q := 24) cc_174 dX10_flowAt_23 rfl, E_imul (q := 25) cc_174 dX10_flowAt_24 rfl, E_iadd (q := 26) cc_174 dX10_flowAt_25 rfl, E_istore2 (q := 27) cc_174 dX10_flowAt_26 rfl, E_iinc3 (q := 30) cc_174 dX10_flowAt_27 rfl rfl, E_goto (t := 4) cc_174 dX10_flowAt_30 rfl, E_iload2 (q := 34) cc_174 dX10_flowAt_33 rfl, E_ireturn cc_174 dX10_flowAt_34 rfl, Option.toList, List.cons_append, List.nil_append, cz_nil, cs_i, cs_r, cs_n, cs_l, az_nil, az_i, az_r, az_n, az_l, cl_i, cl_r, cl_n, cl_0, cl_l, ct_i, ct_r, ct_n, bi_0, bi_n0, bi_nb, isb_0, isb_1, isb_bi, Nat.reduceAdd, Nat.reduceLeDiff, Nat.zero_le, Nat.zero_add, Nat.add_zero, s170, h0, h1, h2, inb_340_0, inb_340_1, inb_340_2, Int32.reduceOfInt, Int32.reduceAdd, Int32.reduceMul, Int32.reduceLT, Int32.reduceLE, nz_2, nz_3, nz_9, nz_10, nz_24, nz_60, not_false_eq_true, if_false, if_true, reduceIte, m_o, m_a96, m_n96, m_a97, m_n97, m_a98, m_n98, m_a99, m_n99, m_a100, m_n100, m_a101, m_n101, m_a102, m_n102, m_a103, m_n103, m_a104, m_n104, m_a105, m_n105]
  simp only [Int32.zero_add]
  rfl
def flM (D : Nat → Int32) (h : Int32) : Int32 := D (16 + rm h 24).toNatClampNeg * D 0 + D (40 + rm h 24).toNatClampNeg * D 1 + D (64 + rm h 24).toNatClampNeg * D 2
theorem t0 : Int32.toNatClampNeg 0 = 0 := by decide
theorem t1 : Int32.toNatClampNeg 1 = 1 := by decide
theorem t2 : Int32.toNatClampNeg 2 = 2 := by decide
theorem t3 : Int32.toNatClampNeg 3 = 3 := by decide
theorem t4 : Int32.toNatClampNeg 4 = 4 := by decide
theorem t5 : Int32.toNatClampNeg 5 = 5 := by decide
theorem t6 : Int32.toNatClampNeg 6 = 6 := by decide
theorem t7 : Int32.toNatClampNeg 7 = 7 := by decide
theorem t8 : Int32.toNatClampNeg 8 = 8 := by decide
theorem t9 : Int32.toNatClampNeg 9 = 9 := by decide
theorem t10 : Int32.toNatClampNeg 10 = 10 := by decide
theorem t11 : Int32.toNatClampNeg 11 = 11 := by decide
theorem t12 : Int32.toNatClampNeg 12 = 12 := by decide
theorem t13 : Int32.toNatClampNeg 13 = 13 := by decide
theorem t14 : Int32.toNatClampNeg 14 = 14 := by decide
theorem t15 : Int32.toNatClampNeg 15 = 15 := by decide
theorem s175 (X : im_E) (d : Nat)  (σ : Nat → Nat → Int32) (Q : Option Value → im_M → Prop) (h0 : inb (16 + rm (σ 96 11) 24) 340) (h1 : inb (40 + rm (σ 96 11) 24) 340) (h2 : inb (64 + rm (σ 96 11) 24) 340) : Ev X (d + 1 + 1) 175 0 (im_ent 1 [.ref 95]) [] (mem σ) Q = Q (some (.int (if flM (σ 96) (σ 96 11) - σ 96 3 / 60 < 0 then 0 else flM (σ 96) (σ 96 11) - σ 96 3 / 60))) (mem (σ)) := by
  show Ev X (d + 1 + 1) 175 0 [some (.ref 95)] [] (mem σ) Q = _
  simp only [E_iconst (q := 1) (x := 0) cc_175 dX10_current_0 rfl rfl, E_aload0 (q := 2) cc_175 dX10_current_1 rfl, E_aloadN0 (q := 2) cc_175 dX10_current_1 rfl, E_aload0 (q := 3) cc_175 dX10_current_2 rfl, E_aloadN0 (q := 3) cc_175 dX10_current_2 rfl, E_getP (q := 6) (o := 1) cc_175 dX10_current_3 rfl (by decide) rfl (by decide) rfl, E_bipush (q := 8) (x := 11) cc_175 dX10_current_6 rfl rfl, E_aldA (q := 9) cc_175 dX10_current_8 rfl, E_cV1 (q := 12) (j := 174) (mx := 4) (ci := 10) cc_175 dX10_current_9 rfl rfl (by decide) rfl rfl, E_aload0 (q := 13) cc_175 dX10_current_12 rfl, E_aloadN0 (q := 13) cc_175 dX10_current_12 rfl, E_getP (q := 16) (o := 1) cc_175 dX10_current_13 rfl (by decide) rfl (by decide) rfl, E_iconst (q := 17) (x := 3) cc_175 dX10_current_16 rfl rfl, E_aldA (q := 18) cc_175 dX10_current_17 rfl, E_bipush (q := 20) (x := 60) cc_175 dX10_current_18 rfl rfl, E_idiv (q := 21) cc_175 dX10_current_20 (hq := rfl), E_isub (q := 22) cc_175 dX10_current_21 rfl, E_callS2 (q := 25) (j := 168) (mx := 2) cc_175 dX10_current_22 rfl rfl (by decide) (by decide) rfl, E_ireturn cc_175 dX10_current_25 rfl, Option.toList, List.cons_append, List.nil_append, cz_nil, cs_i, cs_r, cs_n, cs_l, az_nil, az_i, az_r, az_n, az_l, cl_i, cl_r, cl_n, cl_0, cl_l, ct_i, ct_r, ct_n, bi_0, bi_n0, bi_nb, isb_0, isb_1, isb_bi, Nat.reduceAdd, Nat.reduceLeDiff, Nat.zero_le, Nat.zero_add, Nat.add_zero, s174, s168, h0, h1, h2, flM, inb_340_0, inb_340_1, inb_340_2, inb_340_3, inb_340_4, inb_340_5, inb_340_6, inb_340_7, inb_340_8, inb_340_9, inb_340_10, inb_340_11, inb_340_12, inb_340_13, inb_340_14, inb_340_15, t11, t3, t7, t8, Int32.reduceOfInt, Int32.reduceAdd, Int32.reduceMul, Int32.reduceLT, Int32.reduceLE, nz_2, nz_3, nz_9, nz_10, nz_24, nz_60, not_false_eq_true, if_false, if_true, reduceIte, m_o, m_a96, m_n96, m_a97, m_n97, m_a98, m_n98, m_a99, m_n99, m_a100, m_n100, m_a101, m_n101, m_a102, m_n102, m_a103, m_n103, m_a104, m_n104, m_a105, m_n105]
  rfl
theorem s177 (X : im_E) (d : Nat)  (σ : Nat → Nat → Int32) (Q : Option Value → im_M → Prop) : Ev X (d) 177 0 (im_ent 1 [.ref 95]) [] (mem σ) Q = Q (some (.int (bi (σ 96 8 < σ 96 7)))) (mem (σ)) := by
  show Ev X (d) 177 0 [some (.ref 95)] [] (mem σ) Q = _
  simp only [E_aload0 (q := 1) cc_177 dX10_stands_0 rfl, E_aloadN0 (q := 1) cc_177 dX10_stands_0 rfl, E_getP (q := 4) (o := 1) cc_177 dX10_stands_1 rfl (by decide) rfl (by decide) rfl, E_bipush (q := 6) (x := 8) cc_177 dX10_stands_4 rfl rfl, E_aldA (q := 7) cc_177 dX10_stands_6 rfl, E_aload0 (q := 8) cc_177 dX10_stands_7 rfl, E_aloadN0 (q := 8) cc_177 dX10_stands_7 rfl, E_getP (q := 11) (o := 1) cc_177 dX10_stands_8 rfl (by decide) rfl (by decide) rfl, E_bipush (q := 13) (x := 7) cc_177 dX10_stands_11 rfl rfl, E_aldA (q := 14) cc_177 dX10_stands_13 rfl, E_icmp_ge (q := 17) (t := 21) cc_177 dX10_stands_14 rfl rfl, E_iconst (q := 18) (x := 1) cc_177 dX10_stands_17 rfl rfl, E_goto (t := 22) cc_177 dX10_stands_18 rfl, E_iconst (q := 22) (x := 0) cc_177 dX10_stands_21 rfl rfl, E_zret cc_177 dX10_stands_22 rfl, Option.toList, List.cons_append, List.nil_append, cz_nil, cs_i, cs_r, cs_n, cs_l, az_nil, az_i, az_r, az_n, az_l, cl_i, cl_r, cl_n, cl_0, cl_l, ct_i, ct_r, ct_n, bi_0, bi_n0, bi_nb, isb_0, isb_1, isb_bi, Nat.reduceAdd, Nat.reduceLeDiff, Nat.zero_le, Nat.zero_add, Nat.add_zero, inb_340_0, inb_340_1, inb_340_2, inb_340_3, inb_340_4, inb_340_5, inb_340_6, inb_340_7, inb_340_8, inb_340_9, inb_340_10, inb_340_11, inb_340_12, inb_340_13, inb_340_14, inb_340_15, t11, t3, t7, t8, Int32.reduceOfInt, Int32.reduceAdd, Int32.reduceMul, Int32.reduceLT, Int32.reduceLE, nz_2, nz_3, nz_9, nz_10, nz_24, nz_60, not_false_eq_true, if_false, if_true, reduceIte, m_o, m_a96, m_n96, m_a97, m_n97, m_a98, m_n98, m_a99, m_n99, m_a100, m_n100, m_a101, m_n101, m_a102, m_n102, m_a103, m_n103, m_a104, m_n104, m_a105, m_n105]
  by_cases h : σ 96 8 < σ 96 7
  · rw [if_neg (Int32.not_le.mpr h), bi_t h]
  · rw [if_pos (Int32.not_lt.mp h), bi_f h]
