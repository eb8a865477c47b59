/-! THE MODEL, READ -/
theorem m_o : okc 95 10 = true := by decide
theorem m_a96 : oka 96 340 = true := by decide
theorem m_n96 : alen 96 = 340 := by decide
theorem m_a97 : oka 97 340 = true := by decide
theorem m_n97 : alen 97 = 340 := by decide
theorem m_a98 : oka 98 340 = true := by decide
theorem m_n98 : alen 98 = 340 := by decide
theorem m_a99 : oka 99 6 = true := by decide
theorem m_n99 : alen 99 = 6 := by decide
theorem m_a100 : oka 100 3 = true := by decide
theorem m_n100 : alen 100 = 3 := by decide
theorem m_a101 : oka 101 40 = true := by decide
theorem m_n101 : alen 101 = 40 := by decide
theorem m_a102 : oka 102 4 = true := by decide
theorem m_n102 : alen 102 = 4 := by decide
theorem m_a103 : oka 103 4 = true := by decide
theorem m_n103 : alen 103 = 4 := by decide
theorem m_a104 : oka 104 160 = true := by decide
theorem m_n104 : alen 104 = 160 := by decide
theorem m_a105 : oka 105 40 = true := by decide
theorem m_n105 : alen 105 = 40 := by decide
theorem s170 (X : im_E) (d : Nat) (s h : Int32) (σ : Nat → Nat → Int32) (Q : Option Value → im_M → Prop) (hi : inb (16 + 24 * s + rm h 24) 340) : Ev X (d) 170 0 (im_ent 3 [.ref 95, .int s, .int h]) [] (mem σ) Q = Q (some (.int (σ 96 (16 + 24 * s + rm h 24).toNatClampNeg))) (mem (σ)) := by
  show Ev X (d) 170 0 [some (.ref 95), some (.int s), some (.int h)] [] (mem σ) Q = _
  unfold rm at hi ⊢
  simp only [E_aload0 (q := 1) cc_170 dX10_rainAt_0 rfl, E_aloadN0 (q := 1) cc_170 dX10_rainAt_0 rfl, E_getP (q := 4) (o := 1) cc_170 dX10_rainAt_1 rfl (by decide) rfl (by decide) rfl, E_bipush (q := 6) (x := 16) cc_170 dX10_rainAt_4 rfl rfl, E_bipush (q := 8) (x := 24) cc_170 dX10_rainAt_6 rfl rfl, E_iload1 (q := 9) cc_170 dX10_rainAt_8 rfl, E_imul (q := 10) cc_170 dX10_rainAt_9 rfl, E_iadd (q := 11) cc_170 dX10_rainAt_10 rfl, E_iload2 (q := 12) cc_170 dX10_rainAt_11 rfl, E_bipush (q := 14) (x := 24) cc_170 dX10_rainAt_12 rfl rfl, E_irem (q := 15) cc_170 dX10_rainAt_14 (hq := rfl), E_iadd (q := 16) cc_170 dX10_rainAt_15 rfl, E_aldA (q := 17) cc_170 dX10_rainAt_16 rfl, E_ireturn cc_170 dX10_rainAt_17 rfl, Option.toList, List.cons_append, List.nil_append, cz_nil, cs_i, cs_r, cs_n, cs_l, az_nil, az_i, az_r, az_n, az_l, cl_i, cl_r, cl_n, cl_0, cl_l, ct_i, ct_r, ct_n, bi_0, bi_n0, bi_nb, isb_0, isb_1, isb_bi, Nat.reduceAdd, Nat.reduceLeDiff, Nat.zero_le, Nat.zero_add, Nat.add_zero, hi, Int32.reduceOfInt, Int32.reduceAdd, Int32.reduceMul, Int32.reduceLT, Int32.reduceLE, nz_2, nz_3, nz_9, nz_10, nz_24, nz_60, not_false_eq_true, if_false, if_true, reduceIte, m_o, m_a96, m_n96, m_a97, m_n97, m_a98, m_n98, m_a99, m_n99, m_a100, m_n100, m_a101, m_n101, m_a102, m_n102, m_a103, m_n103, m_a104, m_n104, m_a105, m_n105]
