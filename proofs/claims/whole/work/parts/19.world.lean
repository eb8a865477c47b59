/-! WORLDS, READ -/
/-- the machine's remainder -/
def rm (x y : Int32) : Int32 := x - x / y * y
def fm (x y : Int32) : Int32 := if 0 ≤ x ^^^ y then rm x y else if rm x y = 0 then rm x y else rm x y + y
theorem s23 (X : im_E) (d : Nat) (x y : Int32) (hy : y ≠ 0) (M : im_M) (Q : Option Value → im_M → Prop) : Ev X d 23 0 (im_ent 3 [.int x, .int y]) [] M Q = Q (some (.int (fm x y))) M := by
  show Ev X d 23 0 [some (.int x), some (.int y), none] [] M Q = _
  simp only [E_iload0 (q := 1) cc_23 dJ9_floorMod_7cf53_0 rfl, E_iload1 (q := 2) cc_23 dJ9_floorMod_7cf53_1 rfl, E_irem (q := 3) cc_23 dJ9_floorMod_7cf53_2 (hq := rfl), E_istore2 (q := 4) cc_23 dJ9_floorMod_7cf53_3 rfl, E_iload0 (q := 5) cc_23 dJ9_floorMod_7cf53_4 rfl, E_iload1 (q := 6) cc_23 dJ9_floorMod_7cf53_5 rfl, E_ixor (q := 7) cc_23 dJ9_floorMod_7cf53_6 rfl, E_if_ge (q := 10) (t := 18) cc_23 dJ9_floorMod_7cf53_7 rfl rfl, E_iload2 (q := 11) cc_23 dJ9_floorMod_7cf53_10 rfl, E_if_eq (q := 14) (t := 18) cc_23 dJ9_floorMod_7cf53_11 rfl rfl, E_iload2 (q := 15) cc_23 dJ9_floorMod_7cf53_14 rfl, E_iload1 (q := 16) cc_23 dJ9_floorMod_7cf53_15 rfl, E_iadd (q := 17) cc_23 dJ9_floorMod_7cf53_16 rfl, E_ireturn cc_23 dJ9_floorMod_7cf53_17 rfl, E_iload2 (q := 19) cc_23 dJ9_floorMod_7cf53_18 rfl, E_ireturn cc_23 dJ9_floorMod_7cf53_19 rfl, Option.toList, List.cons_append, List.nil_append, cz_nil, cs_i, cs_r, cs_n, cs_l, az_nil, az_i, az_r, az_n, az_l, cl_i, cl_r, cl_n, cl_0, cl_l, ct_i, ct_r, ct_n, bi_0, bi_n0, bi_nb, isb_0, isb_1, isb_bi, Nat.reduceAdd, Nat.reduceLeDiff, Nat.zero_le, Nat.zero_add, Nat.add_zero, hy, ne_eq, not_false_eq_true]
  unfold fm rm
  by_cases h : 0 ≤ x ^^^ y
  · rw [if_pos h, if_pos h]
  · rw [if_neg h, if_neg h]
    by_cases h2 : x - x / y * y = 0
    · rw [if_pos h2, if_pos h2]
    · rw [if_neg h2, if_neg h2]

theorem nz_2 : ((2 : Int32) = 0) = False := by decide
theorem nz_3 : ((3 : Int32) = 0) = False := by decide
theorem nz_9 : ((9 : Int32) = 0) = False := by decide
theorem nz_10 : ((10 : Int32) = 0) = False := by decide
theorem nz_24 : ((24 : Int32) = 0) = False := by decide
theorem nz_60 : ((60 : Int32) = 0) = False := by decide
def WB (b : Nat) : Prop := b = 1 ∨ b = 27 ∨ b = 53
theorem w_o0 {b : Nat} (h : WB b) : okc b 8 = true := by rcases h with rfl | rfl | rfl <;> decide
theorem w_o1 {b : Nat} (h : WB b) : okc (b + 1) 5 = true := by rcases h with rfl | rfl | rfl <;> decide
theorem w_o4 {b : Nat} (h : WB b) : okc (b + 4) 2 = true := by rcases h with rfl | rfl | rfl <;> decide
theorem w_o7 {b : Nat} (h : WB b) : okc (b + 7) 1 = true := by rcases h with rfl | rfl | rfl <;> decide
theorem w_o10 {b : Nat} (h : WB b) : okc (b + 10) 1 = true := by rcases h with rfl | rfl | rfl <;> decide
theorem w_o13 {b : Nat} (h : WB b) : okc (b + 13) 6 = true := by rcases h with rfl | rfl | rfl <;> decide
theorem w_a2 {b : Nat} (h : WB b) : oka (b + 2) 3 = true := by rcases h with rfl | rfl | rfl <;> decide
theorem w_n2 {b : Nat} (h : WB b) : alen (b + 2) = 3 := alen_of (w_a2 h)
theorem w_a3 {b : Nat} (h : WB b) : oka (b + 3) 72 = true := by rcases h with rfl | rfl | rfl <;> decide
theorem w_n3 {b : Nat} (h : WB b) : alen (b + 3) = 72 := alen_of (w_a3 h)
theorem w_a5 {b : Nat} (h : WB b) : oka (b + 5) 10 = true := by rcases h with rfl | rfl | rfl <;> decide
theorem w_n5 {b : Nat} (h : WB b) : alen (b + 5) = 10 := alen_of (w_a5 h)
theorem w_a6 {b : Nat} (h : WB b) : oka (b + 6) 10 = true := by rcases h with rfl | rfl | rfl <;> decide
theorem w_n6 {b : Nat} (h : WB b) : alen (b + 6) = 10 := alen_of (w_a6 h)
theorem w_a8 {b : Nat} (h : WB b) : oka (b + 8) 50 = true := by rcases h with rfl | rfl | rfl <;> decide
theorem w_n8 {b : Nat} (h : WB b) : alen (b + 8) = 50 := alen_of (w_a8 h)
theorem w_a9 {b : Nat} (h : WB b) : oka (b + 9) 50 = true := by rcases h with rfl | rfl | rfl <;> decide
theorem w_n9 {b : Nat} (h : WB b) : alen (b + 9) = 50 := alen_of (w_a9 h)
theorem w_a11 {b : Nat} (h : WB b) : oka (b + 11) 50 = true := by rcases h with rfl | rfl | rfl <;> decide
theorem w_n11 {b : Nat} (h : WB b) : alen (b + 11) = 50 := alen_of (w_a11 h)
theorem w_a12 {b : Nat} (h : WB b) : oka (b + 12) 50 = true := by rcases h with rfl | rfl | rfl <;> decide
theorem w_n12 {b : Nat} (h : WB b) : alen (b + 12) = 50 := alen_of (w_a12 h)
theorem w_a14 {b : Nat} (h : WB b) : oka (b + 14) 50 = true := by rcases h with rfl | rfl | rfl <;> decide
theorem w_n14 {b : Nat} (h : WB b) : alen (b + 14) = 50 := alen_of (w_a14 h)
theorem w_a16 {b : Nat} (h : WB b) : oka (b + 16) 6 = true := by rcases h with rfl | rfl | rfl <;> decide
theorem w_n16 {b : Nat} (h : WB b) : alen (b + 16) = 6 := alen_of (w_a16 h)
theorem w_a17 {b : Nat} (h : WB b) : oka (b + 17) 20 = true := by rcases h with rfl | rfl | rfl <;> decide
theorem w_n17 {b : Nat} (h : WB b) : alen (b + 17) = 20 := alen_of (w_a17 h)
theorem s22 (X : im_E) (d : Nat) {b : Nat} (hb : WB b)  (σ : Nat → Nat → Int32) (Q : Option Value → im_M → Prop) : Ev X (d + 1) 22 0 (im_ent 1 [.ref b]) [] (mem σ) Q = Q (some (.int (fm (σ b 10) 24))) (mem σ) := by
  show Ev X (d + 1) 22 0 [some (.ref b)] [] (mem σ) Q = _
  simp only [E_aload0 (q := 1) cc_22 dX8_hourOfDay_0 rfl, E_aloadN0 (q := 1) cc_22 dX8_hourOfDay_0 rfl, E_getI (q := 4) cc_22 dX8_hourOfDay_1 rfl (by decide) rfl rfl, E_bipush (q := 6) (x := 24) cc_22 dX8_hourOfDay_4 rfl rfl, E_callS2 (q := 9) (j := 23) (mx := 3) cc_22 dX8_hourOfDay_6 rfl rfl (by decide) (by decide) rfl, E_ireturn cc_22 dX8_hourOfDay_9 rfl, Option.toList, List.cons_append, List.nil_append, cz_nil, cs_i, cs_r, cs_n, cs_l, az_nil, az_i, az_r, az_n, az_l, cl_i, cl_r, cl_n, cl_0, cl_l, ct_i, ct_r, ct_n, bi_0, bi_n0, bi_nb, isb_0, isb_1, isb_bi, Nat.reduceAdd, Nat.reduceLeDiff, Nat.zero_le, Nat.zero_add, Nat.add_zero, s23 _ _ _ 24 (by decide), w_o0 hb, w_o1 hb, w_o4 hb, w_o7 hb, w_o10 hb, w_o13 hb, w_a2 hb, w_n2 hb, w_a3 hb, w_n3 hb, w_a5 hb, w_n5 hb, w_a6 hb, w_n6 hb, w_a8 hb, w_n8 hb, w_a9 hb, w_n9 hb, w_a11 hb, w_n11 hb, w_a12 hb, w_n12 hb, w_a14 hb, w_n14 hb, w_a16 hb, w_n16 hb, w_a17 hb, w_n17 hb, Nat.add_assoc]
def flW (σ : Nat → Nat → Int32) (b : Nat) : Int32 := rnA σ (b + 1) 0 (fm (σ b 10) 24) * σ (b + 2) 0 + rnA σ (b + 1) 1 (fm (σ b 10) 24) * σ (b + 2) 1 + rnA σ (b + 1) 2 (fm (σ b 10) 24) * σ (b + 2) 2
theorem s21 (X : im_E) (d : Nat) {b : Nat} (hb : WB b)  (σ : Nat → Nat → Int32) (Q : Option Value → im_M → Prop) : Ev X (d + 1 + 1 + 1) 21 0 (im_ent 1 [.ref b]) [] (mem σ) Q = Q (some (.int (flW σ b))) (mem σ) := by
  show Ev X (d + 1 + 1 + 1) 21 0 [some (.ref b)] [] (mem σ) Q = _
  simp only [E_aload0 (q := 1) cc_21 dX8_flow_0 rfl, E_aloadN0 (q := 1) cc_21 dX8_flow_0 rfl, E_getP (q := 4) (o := 1) cc_21 dX8_flow_1 rfl (by decide) rfl (by decide) rfl, E_aload0 (q := 5) cc_21 dX8_flow_4 rfl, E_aloadN0 (q := 5) cc_21 dX8_flow_4 rfl, E_cV0 (q := 8) (j := 22) (mx := 1) (ci := 8) cc_21 dX8_flow_5 rfl rfl (by decide) rfl rfl, E_cV1 (q := 11) (j := 24) (mx := 4) (ci := 5) cc_21 dX8_flow_8 rfl rfl (by decide) rfl rfl, E_ireturn cc_21 dX8_flow_11 rfl, Option.toList, List.cons_append, List.nil_append, cz_nil, cs_i, cs_r, cs_n, cs_l, az_nil, az_i, az_r, az_n, az_l, cl_i, cl_r, cl_n, cl_0, cl_l, ct_i, ct_r, ct_n, bi_0, bi_n0, bi_nb, isb_0, isb_1, isb_bi, Nat.reduceAdd, Nat.reduceLeDiff, Nat.zero_le, Nat.zero_add, Nat.add_zero, s22 X _ hb, s24, flW, w_o0 hb, w_o1 hb, w_o4 hb, w_o7 hb, w_o10 hb, w_o13 hb, w_a2 hb, w_n2 hb, w_a3 hb, w_n3 hb, w_a5 hb, w_n5 hb, w_a6 hb, w_n6 hb, w_a8 hb, w_n8 hb, w_a9 hb, w_n9 hb, w_a11 hb, w_n11 hb, w_a12 hb, w_n12 hb, w_a14 hb, w_n14 hb, w_a16 hb, w_n16 hb, w_a17 hb, w_n17 hb, Nat.add_assoc]
theorem s25 (X : im_E) (d : Nat) {b : Nat} (hb : WB b) (f : Int32) (σ : Nat → Nat → Int32) (Q : Option Value → im_M → Prop) : Ev X (d + 1) 25 0 (im_ent 2 [.ref b, .int f]) [] (mem σ) Q = Q (some (.int (mx 0 (f - σ b 11 / 60)))) (mem σ) := by
  show Ev X (d + 1) 25 0 [some (.ref b), some (.int f)] [] (mem σ) Q = _
  simp only [E_iconst (q := 1) (x := 0) cc_25 dX8_currentOf_0 rfl rfl, E_iload1 (q := 2) cc_25 dX8_currentOf_1 rfl, E_aload0 (q := 3) cc_25 dX8_currentOf_2 rfl, E_aloadN0 (q := 3) cc_25 dX8_currentOf_2 rfl, E_getI (q := 6) cc_25 dX8_currentOf_3 rfl (by decide) rfl rfl, E_bipush (q := 8) (x := 60) cc_25 dX8_currentOf_6 rfl rfl, E_idiv (q := 9) cc_25 dX8_currentOf_8 (hq := rfl), E_isub (q := 10) cc_25 dX8_currentOf_9 rfl, E_callS2 (q := 13) (j := 26) (mx := 2) cc_25 dX8_currentOf_10 rfl rfl (by decide) (by decide) rfl, E_ireturn cc_25 dX8_currentOf_13 rfl, Option.toList, List.cons_append, List.nil_append, cz_nil, cs_i, cs_r, cs_n, cs_l, az_nil, az_i, az_r, az_n, az_l, cl_i, cl_r, cl_n, cl_0, cl_l, ct_i, ct_r, ct_n, bi_0, bi_n0, bi_nb, isb_0, isb_1, isb_bi, Nat.reduceAdd, Nat.reduceLeDiff, Nat.zero_le, Nat.zero_add, Nat.add_zero, s26, Int32.reduceOfInt, Int32.reduceAdd, Int32.reduceLT, Int32.reduceLE, nz_2, nz_3, nz_9, nz_10, nz_24, nz_60, not_false_eq_true, if_false, if_true, reduceIte, w_o0 hb, w_o1 hb, w_o4 hb, w_o7 hb, w_o10 hb, w_o13 hb, w_a2 hb, w_n2 hb, w_a3 hb, w_n3 hb, w_a5 hb, w_n5 hb, w_a6 hb, w_n6 hb, w_a8 hb, w_n8 hb, w_a9 hb, w_n9 hb, w_a11 hb, w_n11 hb, w_a12 hb, w_n12 hb, w_a14 hb, w_n14 hb, w_a16 hb, w_n16 hb, w_a17 hb, w_n17 hb, Nat.add_assoc]
theorem s29 (X : im_E) (d : Nat) {b : Nat} (hb : WB b)  (σ : Nat → Nat → Int32) (Q : Option Value → im_M → Prop) : Ev X (d) 29 0 (im_ent 1 [.ref b]) [] (mem σ) Q = Q (some (.int (bi (σ b 16 < σ b 17)))) (mem σ) := by
  show Ev X (d) 29 0 [some (.ref b)] [] (mem σ) Q = _
  simp only [E_aload0 (q := 1) cc_29 dX8_stands_0 rfl, E_aloadN0 (q := 1) cc_29 dX8_stands_0 rfl, E_getI (q := 4) cc_29 dX8_stands_1 rfl (by decide) rfl rfl, E_aload0 (q := 5) cc_29 dX8_stands_4 rfl, E_aloadN0 (q := 5) cc_29 dX8_stands_4 rfl, E_getI (q := 8) cc_29 dX8_stands_5 rfl (by decide) rfl rfl, E_icmp_ge (q := 11) (t := 15) cc_29 dX8_stands_8 rfl rfl, E_iconst (q := 12) (x := 1) cc_29 dX8_stands_11 rfl rfl, E_goto (t := 16) cc_29 dX8_stands_12 rfl, E_iconst (q := 16) (x := 0) cc_29 dX8_stands_15 rfl rfl, E_zret cc_29 dX8_stands_16 rfl, Option.toList, List.cons_append, List.nil_append, cz_nil, cs_i, cs_r, cs_n, cs_l, az_nil, az_i, az_r, az_n, az_l, cl_i, cl_r, cl_n, cl_0, cl_l, ct_i, ct_r, ct_n, bi_0, bi_n0, bi_nb, isb_0, isb_1, isb_bi, Nat.reduceAdd, Nat.reduceLeDiff, Nat.zero_le, Nat.zero_add, Nat.add_zero, Int32.reduceOfInt, Int32.reduceAdd, Int32.reduceLT, Int32.reduceLE, nz_2, nz_3, nz_9, nz_10, nz_24, nz_60, not_false_eq_true, if_false, if_true, reduceIte, w_o0 hb, w_o1 hb, w_o4 hb, w_o7 hb, w_o10 hb, w_o13 hb, w_a2 hb, w_n2 hb, w_a3 hb, w_n3 hb, w_a5 hb, w_n5 hb, w_a6 hb, w_n6 hb, w_a8 hb, w_n8 hb, w_a9 hb, w_n9 hb, w_a11 hb, w_n11 hb, w_a12 hb, w_n12 hb, w_a14 hb, w_n14 hb, w_a16 hb, w_n16 hb, w_a17 hb, w_n17 hb, Nat.add_assoc]
  by_cases h : σ b 16 < σ b 17
  · rw [if_neg (Int32.not_le.mpr h), bi_t h]
  · rw [if_pos (Int32.not_lt.mp h), bi_f h]
def ntW (σ : Nat → Nat → Int32) (b : Nat) (s : Int32) : Int32 := if s = 0 then 0 else 1 + rm (σ b 14 / 10 + s) 9
theorem s36 (X : im_E) (d : Nat) {b : Nat} (hb : WB b) (s : Int32) (σ : Nat → Nat → Int32) (Q : Option Value → im_M → Prop) : Ev X (d) 36 0 (im_ent 2 [.ref b, .int s]) [] (mem σ) Q = Q (some (.int (ntW σ b s))) (mem σ) := by
  show Ev X (d) 36 0 [some (.ref b), some (.int s)] [] (mem σ) Q = _
  simp only [E_iload1 (q := 1) cc_36 dX8_noteOf_0 rfl, E_if_ne (q := 4) (t := 8) cc_36 dX8_noteOf_1 rfl rfl, E_iconst (q := 5) (x := 0) cc_36 dX8_noteOf_4 rfl rfl, E_goto (t := 22) cc_36 dX8_noteOf_5 rfl, E_iconst (q := 9) (x := 1) cc_36 dX8_noteOf_8 rfl rfl, E_aload0 (q := 10) cc_36 dX8_noteOf_9 rfl, E_aloadN0 (q := 10) cc_36 dX8_noteOf_9 rfl, E_getI (q := 13) cc_36 dX8_noteOf_10 rfl (by decide) rfl rfl, E_bipush (q := 15) (x := 10) cc_36 dX8_noteOf_13 rfl rfl, E_idiv (q := 16) cc_36 dX8_noteOf_15 (hq := rfl), E_iload1 (q := 17) cc_36 dX8_noteOf_16 rfl, E_iadd (q := 18) cc_36 dX8_noteOf_17 rfl, E_bipush (q := 20) (x := 9) cc_36 dX8_noteOf_18 rfl rfl, E_irem (q := 21) cc_36 dX8_noteOf_20 (hq := rfl), E_iadd (q := 22) cc_36 dX8_noteOf_21 rfl, E_ireturn cc_36 dX8_noteOf_22 rfl, Option.toList, List.cons_append, List.nil_append, cz_nil, cs_i, cs_r, cs_n, cs_l, az_nil, az_i, az_r, az_n, az_l, cl_i, cl_r, cl_n, cl_0, cl_l, ct_i, ct_r, ct_n, bi_0, bi_n0, bi_nb, isb_0, isb_1, isb_bi, Nat.reduceAdd, Nat.reduceLeDiff, Nat.zero_le, Nat.zero_add, Nat.add_zero, Int32.reduceOfInt, Int32.reduceAdd, Int32.reduceLT, Int32.reduceLE, nz_2, nz_3, nz_9, nz_10, nz_24, nz_60, not_false_eq_true, if_false, if_true, reduceIte, w_o0 hb, w_o1 hb, w_o4 hb, w_o7 hb, w_o10 hb, w_o13 hb, w_a2 hb, w_n2 hb, w_a3 hb, w_n3 hb, w_a5 hb, w_n5 hb, w_a6 hb, w_n6 hb, w_a8 hb, w_n8 hb, w_a9 hb, w_n9 hb, w_a11 hb, w_n11 hb, w_a12 hb, w_n12 hb, w_a14 hb, w_n14 hb, w_a16 hb, w_n16 hb, w_a17 hb, w_n17 hb, Nat.add_assoc]
  unfold ntW
  by_cases h : s = 0
  · rw [if_pos h, if_neg (fun q => q h)]
  · rw [if_neg h, if_pos h]; rfl
