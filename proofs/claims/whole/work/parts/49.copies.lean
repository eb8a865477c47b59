/-! COPIES -/
theorem cp_o {σ : Nat → Nat → Int32} {a b sp dp n c : Nat} (h : c ≠ b) : cp σ a b sp dp n c = σ c := by
  funext k
  unfold cp
  rw [if_neg h]
theorem cp_s {σ : Nat → Nat → Int32} {a b n k : Nat} (h : k < n) : cp σ a b 0 0 n b k = σ a k := by
  unfold cp va_cpy
  rw [if_pos rfl]
  simp [h]
def cpi (σ : Nat → Nat → Int32) (a b i : Nat) : Nat → Nat → Int32 := fun a' k' => if a' = b then (if k' < i then σ a k' else σ b k') else σ a' k'
theorem cpi_0 {σ : Nat → Nat → Int32} {a b : Nat} : cpi σ a b 0 = σ := by
  funext a' k'
  unfold cpi
  by_cases h : a' = b
  · rw [if_pos h, if_neg (by omega), h]
  · rw [if_neg h]
theorem cpi_1 {σ : Nat → Nat → Int32} {a b i : Nat} : up (cpi σ a b i) b i (σ a i) = cpi σ a b (i + 1) := by
  funext a' k'
  unfold up cpi
  by_cases h : a' = b
  · by_cases g : k' = i
    · subst g
      simp [h]
    · by_cases q : k' < i
      · simp [h, g, q, show k' < i + 1 by omega]
      · simp [h, g, q, show ¬ k' < i + 1 by omega]
  · simp [h]
theorem cpi_o {σ : Nat → Nat → Int32} {a b i c : Nat} (h : c ≠ b) : cpi σ a b i c = σ c := by
  funext k
  unfold cpi
  rw [if_neg h]
theorem cpi_s {σ : Nat → Nat → Int32} {a b i k : Nat} (h : k < i) : cpi σ a b i b k = σ a k := by
  unfold cpi
  rw [if_pos rfl, if_pos h]
theorem n340 {n : Nat} (h : n < 340) : inb (Int32.ofNat n) 340 ∧ (Int32.ofNat n).toNatClampNeg = n ∧ ¬ 340 ≤ Int32.ofNat n ∧ Int32.ofNat n + 1 = Int32.ofNat (n + 1) := by
  refine ⟨inbN h (by decide), ofNc (by omega), fun q => ?_, add_N (b := 1)⟩
  have := (le_N (a := 340) (by decide) (by omega)).mp q
  omega
theorem cl_207 (X : im_E) (d : Nat) {a b : Nat} (hab : a ≠ b) (ha : oka a 340 = true) (hb : oka b 340 = true) (σ : Nat → Nat → Int32) : ∀ (k i : Nat), i + k = 340 → ∀ Q, Ev X d 207 2 [some (.ref a), some (.ref b), some (.int (Int32.ofNat i))] [] (mem (cpi σ a b i)) Q = Q none (mem (cpi σ a b 340))
  | 0, i, h, Q => by
    have hi : i = 340 := by omega
    subst hi
    have z : (340 : Int32) ≤ Int32.ofNat 340 := by decide
    simp only [E_iload2 (q := 3) cc_207 dX10_copies_2 rfl, E_sipush (q := 6) (x := 340) cc_207 dX10_copies_3 rfl rfl, E_icmp_ge (q := 9) (t := 21) cc_207 dX10_copies_6 rfl rfl, E_aload1 (q := 10) cc_207 dX10_copies_9 rfl, E_aloadN1 (q := 10) cc_207 dX10_copies_9 rfl, E_iload2 (q := 11) cc_207 dX10_copies_10 rfl, E_aload0 (q := 12) cc_207 dX10_copies_11 rfl, E_aloadN0 (q := 12) cc_207 dX10_copies_11 rfl, E_iload2 (q := 13) cc_207 dX10_copies_12 rfl, E_aldA (q := 14) cc_207 dX10_copies_13 rfl, E_astA (q := 15) cc_207 dX10_copies_14 rfl, E_iinc2 (q := 18) cc_207 dX10_copies_15 rfl rfl, E_goto (t := 2) cc_207 dX10_copies_18 rfl, E_return cc_207 dX10_copies_21 rfl, Option.toList, List.cons_append, List.nil_append, cz_nil, cs_i, cs_r, cs_n, cs_l, az_nil, az_i, az_r, az_n, az_l, cl_i, cl_r, cl_n, cl_0, cl_l, bi_0, bi_n0, bi_nb, isb_0, isb_1, isb_bi, Nat.reduceAdd, Nat.reduceLeDiff, Nat.zero_le, Nat.zero_add, Nat.add_zero, z, cu_i, cu_r, nz_1, false_and, and_false, true_and, and_true, and_self, Int32.reduceOfInt, Int32.reduceAdd, Int32.reduceSub, Int32.reduceMul, Int32.reduceLT, Int32.reduceLE, nz_2, nz_3, nz_9, nz_10, nz_24, nz_60, not_false_eq_true, not_true_eq_false, if_false, if_true, reduceIte]
  | k + 1, i, h, Q => by
    obtain ⟨f1, f2, f3, f4⟩ := n340 (show i < 340 by omega)
    have ih := cl_207 X d hab ha hb σ k (i + 1) (by omega) Q
    have e1 : cpi σ a b i a i = σ a i := by rw [cpi_o hab]
    have e2 := @cpi_1 σ a b i
    rw [← ih]
    conv => lhs; simp only [E_iload2 (q := 3) cc_207 dX10_copies_2 rfl, E_sipush (q := 6) (x := 340) cc_207 dX10_copies_3 rfl rfl, E_icmp_ge (q := 9) (t := 21) cc_207 dX10_copies_6 rfl rfl, Option.toList, List.cons_append, List.nil_append, cz_nil, cs_i, cs_r, cs_n, cs_l, az_nil, az_i, az_r, az_n, az_l, cl_i, cl_r, cl_n, cl_0, cl_l, bi_0, bi_n0, bi_nb, isb_0, isb_1, isb_bi, Nat.reduceAdd, Nat.reduceLeDiff, Nat.zero_le, Nat.zero_add, Nat.add_zero, f3, cu_i, cu_r, nz_1, false_and, and_false, true_and, and_true, and_self, Int32.reduceOfInt, Int32.reduceAdd, Int32.reduceSub, Int32.reduceMul, Int32.reduceLT, Int32.reduceLE, nz_2, nz_3, nz_9, nz_10, nz_24, nz_60, not_false_eq_true, not_true_eq_false, if_false, if_true, reduceIte]
    conv => lhs; simp only [E_aload1 (q := 10) cc_207 dX10_copies_9 rfl, E_aloadN1 (q := 10) cc_207 dX10_copies_9 rfl, E_iload2 (q := 11) cc_207 dX10_copies_10 rfl, E_aload0 (q := 12) cc_207 dX10_copies_11 rfl, E_aloadN0 (q := 12) cc_207 dX10_copies_11 rfl, E_iload2 (q := 13) cc_207 dX10_copies_12 rfl, E_aldA (q := 14) cc_207 dX10_copies_13 rfl, E_astA (q := 15) cc_207 dX10_copies_14 rfl, E_iinc2 (q := 18) cc_207 dX10_copies_15 rfl rfl, E_goto (t := 2) cc_207 dX10_copies_18 rfl, E_return cc_207 dX10_copies_21 rfl, Option.toList, List.cons_append, List.nil_append, cz_nil, cs_i, cs_r, cs_n, cs_l, az_nil, az_i, az_r, az_n, az_l, cl_i, cl_r, cl_n, cl_0, cl_l, bi_0, bi_n0, bi_nb, isb_0, isb_1, isb_bi, Nat.reduceAdd, Nat.reduceLeDiff, Nat.zero_le, Nat.zero_add, Nat.add_zero, ha, hb, alen_of ha, alen_of hb, f1, f2, f4, e1, e2, cu_i, cu_r, nz_1, false_and, and_false, true_and, and_true, and_self, Int32.reduceOfInt, Int32.reduceAdd, Int32.reduceSub, Int32.reduceMul, Int32.reduceLT, Int32.reduceLE, nz_2, nz_3, nz_9, nz_10, nz_24, nz_60, not_false_eq_true, not_true_eq_false, if_false, if_true, reduceIte]
theorem s207 (X : im_E) (d : Nat) {a b : Nat} (hab : a ≠ b) (ha : oka a 340 = true) (hb : oka b 340 = true) (σ : Nat → Nat → Int32) (Q : Option Value → im_M → Prop) : Ev X d 207 0 (im_ent 3 [.ref a, .ref b]) [] (mem σ) Q = Q none (mem (cpi σ a b 340)) := by
  have e := cl_207 X d hab ha hb σ 340 0 rfl Q
  rw [cpi_0] at e
  have z : Int32.ofNat 0 = 0 := rfl
  rw [z] at e
  rw [← e]
  show Ev X d 207 0 [some (.ref a), some (.ref b), none] [] (mem σ) Q = _
  conv => lhs; simp only [E_iconst (q := 1) (x := 0) cc_207 dX10_copies_0 rfl rfl, E_istore2 (q := 2) cc_207 dX10_copies_1 rfl, Option.toList, List.cons_append, List.nil_append, cz_nil, cs_i, cs_r, cs_n, cs_l, az_nil, az_i, az_r, az_n, az_l, cl_i, cl_r, cl_n, cl_0, cl_l, bi_0, bi_n0, bi_nb, isb_0, isb_1, isb_bi, Nat.reduceAdd, Nat.reduceLeDiff, Nat.zero_le, Nat.zero_add, Nat.add_zero, cu_i, cu_r, nz_1, false_and, and_false, true_and, and_true, and_self, Int32.reduceOfInt, Int32.reduceAdd, Int32.reduceSub, Int32.reduceMul, Int32.reduceLT, Int32.reduceLE, nz_2, nz_3, nz_9, nz_10, nz_24, nz_60, not_false_eq_true, not_true_eq_false, if_false, if_true, reduceIte]
theorem s111 (X : im_E) (d : Nat) {b c : Nat} (hb : WB b) (hc : WB c) (σ : Nat → Nat → Int32) (Q : Option Value → im_M → Prop) : Ev X d 111 0 (im_ent 2 [.ref (b + 1), .ref (c + 1)]) [] (mem σ) Q = Q none (mem (cp (cp σ (c + 2) (b + 2) 0 0 3) (c + 3) (b + 3) 0 0 72)) := by
  have n0 : ¬ (0 : Int32) < 0 := by decide
  have n3 : ¬ (3 : Int32) < 0 := by decide
  have n72 : ¬ (72 : Int32) < 0 := by decide
  have n10 : ¬ (10 : Int32) < 0 := by decide
  have n50 : ¬ (50 : Int32) < 0 := by decide
  have n6 : ¬ (6 : Int32) < 0 := by decide
  have n20 : ¬ (20 : Int32) < 0 := by decide
  have c3 : Int32.toNatClampNeg 3 = 3 := by decide
  have c72 : Int32.toNatClampNeg 72 = 72 := by decide
  have c10 : Int32.toNatClampNeg 10 = 10 := by decide
  have c50 : Int32.toNatClampNeg 50 = 50 := by decide
  have c6 : Int32.toNatClampNeg 6 = 6 := by decide
  have c20 : Int32.toNatClampNeg 20 = 20 := by decide
  show Ev X d 111 0 [some (.ref (b + 1)), some (.ref (c + 1))] [] (mem σ) Q = _
  simp only [E_aload1 (q := 1) cc_111 dX5_copyOf_0 rfl, E_aloadN1 (q := 1) cc_111 dX5_copyOf_0 rfl, E_getP (q := 4) (o := 1) cc_111 dX5_copyOf_1 rfl (by decide) rfl (by decide) rfl, E_iconst (q := 5) (x := 0) cc_111 dX5_copyOf_4 rfl rfl, E_aload0 (q := 6) cc_111 dX5_copyOf_5 rfl, E_aloadN0 (q := 6) cc_111 dX5_copyOf_5 rfl, E_getP (q := 9) (o := 1) cc_111 dX5_copyOf_6 rfl (by decide) rfl (by decide) rfl, E_iconst (q := 10) (x := 0) cc_111 dX5_copyOf_9 rfl rfl, E_iconst (q := 11) (x := 3) cc_111 dX5_copyOf_10 rfl rfl, E_copyA (q := 14) cc_111 dX5_copyOf_11 rfl rfl, E_aload1 (q := 15) cc_111 dX5_copyOf_14 rfl, E_aloadN1 (q := 15) cc_111 dX5_copyOf_14 rfl, E_getP (q := 18) (o := 2) cc_111 dX5_copyOf_15 rfl (by decide) rfl (by decide) rfl, E_iconst (q := 19) (x := 0) cc_111 dX5_copyOf_18 rfl rfl, E_aload0 (q := 20) cc_111 dX5_copyOf_19 rfl, E_aloadN0 (q := 20) cc_111 dX5_copyOf_19 rfl, E_getP (q := 23) (o := 2) cc_111 dX5_copyOf_20 rfl (by decide) rfl (by decide) rfl, E_iconst (q := 24) (x := 0) cc_111 dX5_copyOf_23 rfl rfl, E_bipush (q := 26) (x := 72) cc_111 dX5_copyOf_24 rfl rfl, E_copyA (q := 29) cc_111 dX5_copyOf_26 rfl rfl, E_return cc_111 dX5_copyOf_29 rfl, Option.toList, List.cons_append, List.nil_append, cz_nil, cs_i, cs_r, cs_n, cs_l, az_nil, az_i, az_r, az_n, az_l, cl_i, cl_r, cl_n, cl_0, cl_l, bi_0, bi_n0, bi_nb, isb_0, isb_1, isb_bi, Nat.reduceAdd, Nat.reduceLeDiff, Nat.zero_le, Nat.zero_add, Nat.add_zero, n0, n3, n72, n10, n50, n6, n20, t0, c3, c72, c10, c50, c6, c20, Nat.le_refl, cu_i, cu_r, nz_1, false_and, and_false, true_and, and_true, and_self, Int32.reduceOfInt, Int32.reduceAdd, Int32.reduceSub, Int32.reduceMul, Int32.reduceLT, Int32.reduceLE, nz_2, nz_3, nz_9, nz_10, nz_24, nz_60, not_false_eq_true, not_true_eq_false, if_false, if_true, reduceIte, w_o0 hb, w_o1 hb, w_o4 hb, w_o7 hb, w_o10 hb, w_o13 hb, w_a2 hb, w_n2 hb, w_a3 hb, w_n3 hb, w_a5 hb, w_n5 hb, w_a6 hb, w_n6 hb, w_a8 hb, w_n8 hb, w_a9 hb, w_n9 hb, w_a11 hb, w_n11 hb, w_a12 hb, w_n12 hb, w_a14 hb, w_n14 hb, w_a16 hb, w_n16 hb, w_a17 hb, w_n17 hb, w_o0 hc, w_o1 hc, w_o4 hc, w_o7 hc, w_o10 hc, w_o13 hc, w_a2 hc, w_n2 hc, w_a3 hc, w_n3 hc, w_a5 hc, w_n5 hc, w_a6 hc, w_n6 hc, w_a8 hc, w_n8 hc, w_a9 hc, w_n9 hc, w_a11 hc, w_n11 hc, w_a12 hc, w_n12 hc, w_a14 hc, w_n14 hc, w_a16 hc, w_n16 hc, w_a17 hc, w_n17 hc, Nat.add_assoc]
theorem bc_ne {b c : Nat} (hb : WB b) (hc : WB c) (h : b ≠ c) {o o' : Nat} (ho : o ≤ 25) (ho' : o' ≤ 25) : b + o ≠ c + o' := by
  rcases hb with rfl | rfl | rfl <;> rcases hc with rfl | rfl | rfl <;> first | exact absurd rfl h | omega
theorem s112 (X : im_E) (d : Nat) {b c : Nat} (hb : WB b) (hc : WB c) (σ : Nat → Nat → Int32) (Q : Option Value → im_M → Prop) : Ev X d 112 0 (im_ent 2 [.ref (b + 4), .ref (c + 4)]) [] (mem σ) Q = Q none (mem (cp (cp (up σ (b + 4) 2 (σ (c + 4) 2)) (c + 5) (b + 5) 0 0 10) (c + 6) (b + 6) 0 0 10)) := by
  have n0 : ¬ (0 : Int32) < 0 := by decide
  have n3 : ¬ (3 : Int32) < 0 := by decide
  have n72 : ¬ (72 : Int32) < 0 := by decide
  have n10 : ¬ (10 : Int32) < 0 := by decide
  have n50 : ¬ (50 : Int32) < 0 := by decide
  have n6 : ¬ (6 : Int32) < 0 := by decide
  have n20 : ¬ (20 : Int32) < 0 := by decide
  have c3 : Int32.toNatClampNeg 3 = 3 := by decide
  have c72 : Int32.toNatClampNeg 72 = 72 := by decide
  have c10 : Int32.toNatClampNeg 10 = 10 := by decide
  have c50 : Int32.toNatClampNeg 50 = 50 := by decide
  have c6 : Int32.toNatClampNeg 6 = 6 := by decide
  have c20 : Int32.toNatClampNeg 20 = 20 := by decide
  show Ev X d 112 0 [some (.ref (b + 4)), some (.ref (c + 4))] [] (mem σ) Q = _
  simp only [E_aload0 (q := 1) cc_112 dX2_copyOf_0 rfl, E_aloadN0 (q := 1) cc_112 dX2_copyOf_0 rfl, E_aload1 (q := 2) cc_112 dX2_copyOf_1 rfl, E_aloadN1 (q := 2) cc_112 dX2_copyOf_1 rfl, E_getI (q := 5) cc_112 dX2_copyOf_2 rfl (by decide) rfl rfl, E_putI (q := 8) cc_112 dX2_copyOf_5 rfl rfl rfl (Or.inl rfl), E_aload1 (q := 9) cc_112 dX2_copyOf_8 rfl, E_aloadN1 (q := 9) cc_112 dX2_copyOf_8 rfl, E_getP (q := 12) (o := 1) cc_112 dX2_copyOf_9 rfl (by decide) rfl (by decide) rfl, E_iconst (q := 13) (x := 0) cc_112 dX2_copyOf_12 rfl rfl, E_aload0 (q := 14) cc_112 dX2_copyOf_13 rfl, E_aloadN0 (q := 14) cc_112 dX2_copyOf_13 rfl, E_getP (q := 17) (o := 1) cc_112 dX2_copyOf_14 rfl (by decide) rfl (by decide) rfl, E_iconst (q := 18) (x := 0) cc_112 dX2_copyOf_17 rfl rfl, E_bipush (q := 20) (x := 10) cc_112 dX2_copyOf_18 rfl rfl, E_copyA (q := 23) cc_112 dX2_copyOf_20 rfl rfl, E_aload1 (q := 24) cc_112 dX2_copyOf_23 rfl, E_aloadN1 (q := 24) cc_112 dX2_copyOf_23 rfl, E_getP (q := 27) (o := 2) cc_112 dX2_copyOf_24 rfl (by decide) rfl (by decide) rfl, E_iconst (q := 28) (x := 0) cc_112 dX2_copyOf_27 rfl rfl, E_aload0 (q := 29) cc_112 dX2_copyOf_28 rfl, E_aloadN0 (q := 29) cc_112 dX2_copyOf_28 rfl, E_getP (q := 32) (o := 2) cc_112 dX2_copyOf_29 rfl (by decide) rfl (by decide) rfl, E_iconst (q := 33) (x := 0) cc_112 dX2_copyOf_32 rfl rfl, E_bipush (q := 35) (x := 10) cc_112 dX2_copyOf_33 rfl rfl, E_copyA (q := 38) cc_112 dX2_copyOf_35 rfl rfl, E_return cc_112 dX2_copyOf_38 rfl, Option.toList, List.cons_append, List.nil_append, cz_nil, cs_i, cs_r, cs_n, cs_l, az_nil, az_i, az_r, az_n, az_l, cl_i, cl_r, cl_n, cl_0, cl_l, bi_0, bi_n0, bi_nb, isb_0, isb_1, isb_bi, Nat.reduceAdd, Nat.reduceLeDiff, Nat.zero_le, Nat.zero_add, Nat.add_zero, n0, n3, n72, n10, n50, n6, n20, t0, c3, c72, c10, c50, c6, c20, Nat.le_refl, cu_i, cu_r, nz_1, false_and, and_false, true_and, and_true, and_self, Int32.reduceOfInt, Int32.reduceAdd, Int32.reduceSub, Int32.reduceMul, Int32.reduceLT, Int32.reduceLE, nz_2, nz_3, nz_9, nz_10, nz_24, nz_60, not_false_eq_true, not_true_eq_false, if_false, if_true, reduceIte, w_o0 hb, w_o1 hb, w_o4 hb, w_o7 hb, w_o10 hb, w_o13 hb, w_a2 hb, w_n2 hb, w_a3 hb, w_n3 hb, w_a5 hb, w_n5 hb, w_a6 hb, w_n6 hb, w_a8 hb, w_n8 hb, w_a9 hb, w_n9 hb, w_a11 hb, w_n11 hb, w_a12 hb, w_n12 hb, w_a14 hb, w_n14 hb, w_a16 hb, w_n16 hb, w_a17 hb, w_n17 hb, w_o0 hc, w_o1 hc, w_o4 hc, w_o7 hc, w_o10 hc, w_o13 hc, w_a2 hc, w_n2 hc, w_a3 hc, w_n3 hc, w_a5 hc, w_n5 hc, w_a6 hc, w_n6 hc, w_a8 hc, w_n8 hc, w_a9 hc, w_n9 hc, w_a11 hc, w_n11 hc, w_a12 hc, w_n12 hc, w_a14 hc, w_n14 hc, w_a16 hc, w_n16 hc, w_a17 hc, w_n17 hc, Nat.add_assoc]
theorem s98_7 (X : im_E) (d : Nat) {b c : Nat} (hb : WB b) (hc : WB c) (hne : b ≠ c) (σ : Nat → Nat → Int32) (Q : Option Value → im_M → Prop) : Ev X d 98 0 (im_ent 2 [.ref (b + 7), .ref (c + 7)]) [] (mem σ) Q = Q none (mem (up (cp σ (c + 8) (b + 8) 0 0 50) (b + 7) 2 (σ (c + 7) 2))) := by
  have n0 : ¬ (0 : Int32) < 0 := by decide
  have n3 : ¬ (3 : Int32) < 0 := by decide
  have n72 : ¬ (72 : Int32) < 0 := by decide
  have n10 : ¬ (10 : Int32) < 0 := by decide
  have n50 : ¬ (50 : Int32) < 0 := by decide
  have n6 : ¬ (6 : Int32) < 0 := by decide
  have n20 : ¬ (20 : Int32) < 0 := by decide
  have c3 : Int32.toNatClampNeg 3 = 3 := by decide
  have c72 : Int32.toNatClampNeg 72 = 72 := by decide
  have c10 : Int32.toNatClampNeg 10 = 10 := by decide
  have c50 : Int32.toNatClampNeg 50 = 50 := by decide
  have c6 : Int32.toNatClampNeg 6 = 6 := by decide
  have c20 : Int32.toNatClampNeg 20 = 20 := by decide
  have z : cp σ (c + 8) (b + 8) 0 0 50 (c + 7) = σ (c + 7) := cp_o (bc_ne hc hb (Ne.symm hne) (by decide) (by decide))
  show Ev X d 98 0 [some (.ref (b + 7)), some (.ref (c + 7))] [] (mem σ) Q = _
  simp only [E_aload1 (q := 1) cc_98 dX1_copyOf_0 rfl, E_aloadN1 (q := 1) cc_98 dX1_copyOf_0 rfl, E_getP (q := 4) (o := 1) cc_98 dX1_copyOf_1 rfl (by decide) rfl (by decide) rfl, E_iconst (q := 5) (x := 0) cc_98 dX1_copyOf_4 rfl rfl, E_aload0 (q := 6) cc_98 dX1_copyOf_5 rfl, E_aloadN0 (q := 6) cc_98 dX1_copyOf_5 rfl, E_getP (q := 9) (o := 1) cc_98 dX1_copyOf_6 rfl (by decide) rfl (by decide) rfl, E_iconst (q := 10) (x := 0) cc_98 dX1_copyOf_9 rfl rfl, E_bipush (q := 12) (x := 50) cc_98 dX1_copyOf_10 rfl rfl, E_copyA (q := 15) cc_98 dX1_copyOf_12 rfl rfl, E_aload0 (q := 16) cc_98 dX1_copyOf_15 rfl, E_aloadN0 (q := 16) cc_98 dX1_copyOf_15 rfl, E_aload1 (q := 17) cc_98 dX1_copyOf_16 rfl, E_aloadN1 (q := 17) cc_98 dX1_copyOf_16 rfl, E_getI (q := 20) cc_98 dX1_copyOf_17 rfl (by decide) rfl rfl, E_putI (q := 23) cc_98 dX1_copyOf_20 rfl rfl rfl (Or.inl rfl), E_return cc_98 dX1_copyOf_23 rfl, Option.toList, List.cons_append, List.nil_append, cz_nil, cs_i, cs_r, cs_n, cs_l, az_nil, az_i, az_r, az_n, az_l, cl_i, cl_r, cl_n, cl_0, cl_l, bi_0, bi_n0, bi_nb, isb_0, isb_1, isb_bi, Nat.reduceAdd, Nat.reduceLeDiff, Nat.zero_le, Nat.zero_add, Nat.add_zero, n0, n3, n72, n10, n50, n6, n20, t0, c3, c72, c10, c50, c6, c20, Nat.le_refl, z, cu_i, cu_r, nz_1, false_and, and_false, true_and, and_true, and_self, Int32.reduceOfInt, Int32.reduceAdd, Int32.reduceSub, Int32.reduceMul, Int32.reduceLT, Int32.reduceLE, nz_2, nz_3, nz_9, nz_10, nz_24, nz_60, not_false_eq_true, not_true_eq_false, if_false, if_true, reduceIte, w_o0 hb, w_o1 hb, w_o4 hb, w_o7 hb, w_o10 hb, w_o13 hb, w_a2 hb, w_n2 hb, w_a3 hb, w_n3 hb, w_a5 hb, w_n5 hb, w_a6 hb, w_n6 hb, w_a8 hb, w_n8 hb, w_a9 hb, w_n9 hb, w_a11 hb, w_n11 hb, w_a12 hb, w_n12 hb, w_a14 hb, w_n14 hb, w_a16 hb, w_n16 hb, w_a17 hb, w_n17 hb, w_o0 hc, w_o1 hc, w_o4 hc, w_o7 hc, w_o10 hc, w_o13 hc, w_a2 hc, w_n2 hc, w_a3 hc, w_n3 hc, w_a5 hc, w_n5 hc, w_a6 hc, w_n6 hc, w_a8 hc, w_n8 hc, w_a9 hc, w_n9 hc, w_a11 hc, w_n11 hc, w_a12 hc, w_n12 hc, w_a14 hc, w_n14 hc, w_a16 hc, w_n16 hc, w_a17 hc, w_n17 hc, Nat.add_assoc]
theorem s98_10 (X : im_E) (d : Nat) {b c : Nat} (hb : WB b) (hc : WB c) (hne : b ≠ c) (σ : Nat → Nat → Int32) (Q : Option Value → im_M → Prop) : Ev X d 98 0 (im_ent 2 [.ref (b + 10), .ref (c + 10)]) [] (mem σ) Q = Q none (mem (up (cp σ (c + 11) (b + 11) 0 0 50) (b + 10) 2 (σ (c + 10) 2))) := by
  have n0 : ¬ (0 : Int32) < 0 := by decide
  have n3 : ¬ (3 : Int32) < 0 := by decide
  have n72 : ¬ (72 : Int32) < 0 := by decide
  have n10 : ¬ (10 : Int32) < 0 := by decide
  have n50 : ¬ (50 : Int32) < 0 := by decide
  have n6 : ¬ (6 : Int32) < 0 := by decide
  have n20 : ¬ (20 : Int32) < 0 := by decide
  have c3 : Int32.toNatClampNeg 3 = 3 := by decide
  have c72 : Int32.toNatClampNeg 72 = 72 := by decide
  have c10 : Int32.toNatClampNeg 10 = 10 := by decide
  have c50 : Int32.toNatClampNeg 50 = 50 := by decide
  have c6 : Int32.toNatClampNeg 6 = 6 := by decide
  have c20 : Int32.toNatClampNeg 20 = 20 := by decide
  have z : cp σ (c + 11) (b + 11) 0 0 50 (c + 10) = σ (c + 10) := cp_o (bc_ne hc hb (Ne.symm hne) (by decide) (by decide))
  show Ev X d 98 0 [some (.ref (b + 10)), some (.ref (c + 10))] [] (mem σ) Q = _
  simp only [E_aload1 (q := 1) cc_98 dX1_copyOf_0 rfl, E_aloadN1 (q := 1) cc_98 dX1_copyOf_0 rfl, E_getP (q := 4) (o := 1) cc_98 dX1_copyOf_1 rfl (by decide) rfl (by decide) rfl, E_iconst (q := 5) (x := 0) cc_98 dX1_copyOf_4 rfl rfl, E_aload0 (q := 6) cc_98 dX1_copyOf_5 rfl, E_aloadN0 (q := 6) cc_98 dX1_copyOf_5 rfl, E_getP (q := 9) (o := 1) cc_98 dX1_copyOf_6 rfl (by decide) rfl (by decide) rfl, E_iconst (q := 10) (x := 0) cc_98 dX1_copyOf_9 rfl rfl, E_bipush (q := 12) (x := 50) cc_98 dX1_copyOf_10 rfl rfl, E_copyA (q := 15) cc_98 dX1_copyOf_12 rfl rfl, E_aload0 (q := 16) cc_98 dX1_copyOf_15 rfl, E_aloadN0 (q := 16) cc_98 dX1_copyOf_15 rfl, E_aload1 (q := 17) cc_98 dX1_copyOf_16 rfl, E_aloadN1 (q := 17) cc_98 dX1_copyOf_16 rfl, E_getI (q := 20) cc_98 dX1_copyOf_17 rfl (by decide) rfl rfl, E_putI (q := 23) cc_98 dX1_copyOf_20 rfl rfl rfl (Or.inl rfl), E_return cc_98 dX1_copyOf_23 rfl, Option.toList, List.cons_append, List.nil_append, cz_nil, cs_i, cs_r, cs_n, cs_l, az_nil, az_i, az_r, az_n, az_l, cl_i, cl_r, cl_n, cl_0, cl_l, bi_0, bi_n0, bi_nb, isb_0, isb_1, isb_bi, Nat.reduceAdd, Nat.reduceLeDiff, Nat.zero_le, Nat.zero_add, Nat.add_zero, n0, n3, n72, n10, n50, n6, n20, t0, c3, c72, c10, c50, c6, c20, Nat.le_refl, z, cu_i, cu_r, nz_1, false_and, and_false, true_and, and_true, and_self, Int32.reduceOfInt, Int32.reduceAdd, Int32.reduceSub, Int32.reduceMul, Int32.reduceLT, Int32.reduceLE, nz_2, nz_3, nz_9, nz_10, nz_24, nz_60, not_false_eq_true, not_true_eq_false, if_false, if_true, reduceIte, w_o0 hb, w_o1 hb, w_o4 hb, w_o7 hb, w_o10 hb, w_o13 hb, w_a2 hb, w_n2 hb, w_a3 hb, w_n3 hb, w_a5 hb, w_n5 hb, w_a6 hb, w_n6 hb, w_a8 hb, w_n8 hb, w_a9 hb, w_n9 hb, w_a11 hb, w_n11 hb, w_a12 hb, w_n12 hb, w_a14 hb, w_n14 hb, w_a16 hb, w_n16 hb, w_a17 hb, w_n17 hb, w_o0 hc, w_o1 hc, w_o4 hc, w_o7 hc, w_o10 hc, w_o13 hc, w_a2 hc, w_n2 hc, w_a3 hc, w_n3 hc, w_a5 hc, w_n5 hc, w_a6 hc, w_n6 hc, w_a8 hc, w_n8 hc, w_a9 hc, w_n9 hc, w_a11 hc, w_n11 hc, w_a12 hc, w_n12 hc, w_a14 hc, w_n14 hc, w_a16 hc, w_n16 hc, w_a17 hc, w_n17 hc, Nat.add_assoc]
theorem s113 (X : im_E) (d : Nat) {b c : Nat} (hb : WB b) (hc : WB c) (hne : b ≠ c) (σ : Nat → Nat → Int32) (Q : Option Value → im_M → Prop) : Ev X d 113 0 (im_ent 2 [.ref (b + 13), .ref (c + 13)]) [] (mem σ) Q = Q none (mem (up (cp σ (c + 14) (b + 14) 0 0 50) (b + 13) 1 (σ (c + 13) 1))) := by
  have n0 : ¬ (0 : Int32) < 0 := by decide
  have n3 : ¬ (3 : Int32) < 0 := by decide
  have n72 : ¬ (72 : Int32) < 0 := by decide
  have n10 : ¬ (10 : Int32) < 0 := by decide
  have n50 : ¬ (50 : Int32) < 0 := by decide
  have n6 : ¬ (6 : Int32) < 0 := by decide
  have n20 : ¬ (20 : Int32) < 0 := by decide
  have c3 : Int32.toNatClampNeg 3 = 3 := by decide
  have c72 : Int32.toNatClampNeg 72 = 72 := by decide
  have c10 : Int32.toNatClampNeg 10 = 10 := by decide
  have c50 : Int32.toNatClampNeg 50 = 50 := by decide
  have c6 : Int32.toNatClampNeg 6 = 6 := by decide
  have c20 : Int32.toNatClampNeg 20 = 20 := by decide
  have z : cp σ (c + 14) (b + 14) 0 0 50 (c + 13) = σ (c + 13) := cp_o (bc_ne hc hb (Ne.symm hne) (by decide) (by decide))
  show Ev X d 113 0 [some (.ref (b + 13)), some (.ref (c + 13))] [] (mem σ) Q = _
  simp only [E_aload1 (q := 1) cc_113 dX6_copyOf_0 rfl, E_aloadN1 (q := 1) cc_113 dX6_copyOf_0 rfl, E_getP (q := 4) (o := 1) cc_113 dX6_copyOf_1 rfl (by decide) rfl (by decide) rfl, E_iconst (q := 5) (x := 0) cc_113 dX6_copyOf_4 rfl rfl, E_aload0 (q := 6) cc_113 dX6_copyOf_5 rfl, E_aloadN0 (q := 6) cc_113 dX6_copyOf_5 rfl, E_getP (q := 9) (o := 1) cc_113 dX6_copyOf_6 rfl (by decide) rfl (by decide) rfl, E_iconst (q := 10) (x := 0) cc_113 dX6_copyOf_9 rfl rfl, E_bipush (q := 12) (x := 50) cc_113 dX6_copyOf_10 rfl rfl, E_copyA (q := 15) cc_113 dX6_copyOf_12 rfl rfl, E_aload0 (q := 16) cc_113 dX6_copyOf_15 rfl, E_aloadN0 (q := 16) cc_113 dX6_copyOf_15 rfl, E_aload1 (q := 17) cc_113 dX6_copyOf_16 rfl, E_aloadN1 (q := 17) cc_113 dX6_copyOf_16 rfl, E_getI (q := 20) cc_113 dX6_copyOf_17 rfl (by decide) rfl rfl, E_putI (q := 23) cc_113 dX6_copyOf_20 rfl rfl rfl (Or.inl rfl), E_return cc_113 dX6_copyOf_23 rfl, Option.toList, List.cons_append, List.nil_append, cz_nil, cs_i, cs_r, cs_n, cs_l, az_nil, az_i, az_r, az_n, az_l, cl_i, cl_r, cl_n, cl_0, cl_l, bi_0, bi_n0, bi_nb, isb_0, isb_1, isb_bi, Nat.reduceAdd, Nat.reduceLeDiff, Nat.zero_le, Nat.zero_add, Nat.add_zero, n0, n3, n72, n10, n50, n6, n20, t0, c3, c72, c10, c50, c6, c20, Nat.le_refl, z, cu_i, cu_r, nz_1, false_and, and_false, true_and, and_true, and_self, Int32.reduceOfInt, Int32.reduceAdd, Int32.reduceSub, Int32.reduceMul, Int32.reduceLT, Int32.reduceLE, nz_2, nz_3, nz_9, nz_10, nz_24, nz_60, not_false_eq_true, not_true_eq_false, if_false, if_true, reduceIte, w_o0 hb, w_o1 hb, w_o4 hb, w_o7 hb, w_o10 hb, w_o13 hb, w_a2 hb, w_n2 hb, w_a3 hb, w_n3 hb, w_a5 hb, w_n5 hb, w_a6 hb, w_n6 hb, w_a8 hb, w_n8 hb, w_a9 hb, w_n9 hb, w_a11 hb, w_n11 hb, w_a12 hb, w_n12 hb, w_a14 hb, w_n14 hb, w_a16 hb, w_n16 hb, w_a17 hb, w_n17 hb, w_o0 hc, w_o1 hc, w_o4 hc, w_o7 hc, w_o10 hc, w_o13 hc, w_a2 hc, w_n2 hc, w_a3 hc, w_n3 hc, w_a5 hc, w_n5 hc, w_a6 hc, w_n6 hc, w_a8 hc, w_n8 hc, w_a9 hc, w_n9 hc, w_a11 hc, w_n11 hc, w_a12 hc, w_n12 hc, w_a14 hc, w_n14 hc, w_a16 hc, w_n16 hc, w_a17 hc, w_n17 hc, Nat.add_assoc]
theorem s114 (X : im_E) (d : Nat) {x y : Nat} (hx : okc x 0 = true) (hy : okc y 0 = true) (hne : y ≠ x) (σ : Nat → Nat → Int32) (Q : Option Value → im_M → Prop) : Ev X d 114 0 (im_ent 2 [.ref x, .ref y]) [] (mem σ) Q = Q none (mem (up (up (up (up (up (up σ x 0 (σ y 0)) x 1 (σ y 1)) x 2 (σ y 2)) x 3 (σ y 3)) x 4 (σ y 4)) x 5 (σ y 5))) := by
  have u : ∀ (τ : Nat → Nat → Int32) k v, up τ x k v y = τ y := fun τ k v => up_of hne
  show Ev X d 114 0 [some (.ref x), some (.ref y)] [] (mem σ) Q = _
  simp only [E_aload0 (q := 1) cc_114 dX0_copyOf_0 rfl, E_aloadN0 (q := 1) cc_114 dX0_copyOf_0 rfl, E_aload1 (q := 2) cc_114 dX0_copyOf_1 rfl, E_aloadN1 (q := 2) cc_114 dX0_copyOf_1 rfl, E_getI (q := 5) cc_114 dX0_copyOf_2 rfl (by decide) rfl rfl, E_putI (q := 8) cc_114 dX0_copyOf_5 rfl rfl rfl (Or.inl rfl), E_aload0 (q := 9) cc_114 dX0_copyOf_8 rfl, E_aloadN0 (q := 9) cc_114 dX0_copyOf_8 rfl, E_aload1 (q := 10) cc_114 dX0_copyOf_9 rfl, E_aloadN1 (q := 10) cc_114 dX0_copyOf_9 rfl, E_getI (q := 13) cc_114 dX0_copyOf_10 rfl (by decide) rfl rfl, E_putI (q := 16) cc_114 dX0_copyOf_13 rfl rfl rfl (Or.inl rfl), E_aload0 (q := 17) cc_114 dX0_copyOf_16 rfl, E_aloadN0 (q := 17) cc_114 dX0_copyOf_16 rfl, E_aload1 (q := 18) cc_114 dX0_copyOf_17 rfl, E_aloadN1 (q := 18) cc_114 dX0_copyOf_17 rfl, E_getI (q := 21) cc_114 dX0_copyOf_18 rfl (by decide) rfl rfl, E_putI (q := 24) cc_114 dX0_copyOf_21 rfl rfl rfl (Or.inl rfl), E_aload0 (q := 25) cc_114 dX0_copyOf_24 rfl, E_aloadN0 (q := 25) cc_114 dX0_copyOf_24 rfl, E_aload1 (q := 26) cc_114 dX0_copyOf_25 rfl, E_aloadN1 (q := 26) cc_114 dX0_copyOf_25 rfl, E_getI (q := 29) cc_114 dX0_copyOf_26 rfl (by decide) rfl rfl, E_putI (q := 32) cc_114 dX0_copyOf_29 rfl rfl rfl (Or.inl rfl), E_aload0 (q := 33) cc_114 dX0_copyOf_32 rfl, E_aloadN0 (q := 33) cc_114 dX0_copyOf_32 rfl, E_aload1 (q := 34) cc_114 dX0_copyOf_33 rfl, E_aloadN1 (q := 34) cc_114 dX0_copyOf_33 rfl, E_getI (q := 37) cc_114 dX0_copyOf_34 rfl (by decide) rfl rfl, E_putI (q := 40) cc_114 dX0_copyOf_37 rfl rfl rfl (Or.inl rfl), E_aload0 (q := 41) cc_114 dX0_copyOf_40 rfl, E_aloadN0 (q := 41) cc_114 dX0_copyOf_40 rfl, E_aload1 (q := 42) cc_114 dX0_copyOf_41 rfl, E_aloadN1 (q := 42) cc_114 dX0_copyOf_41 rfl, E_getI (q := 45) cc_114 dX0_copyOf_42 rfl (by decide) rfl rfl, E_putI (q := 48) cc_114 dX0_copyOf_45 rfl rfl rfl (Or.inl rfl), E_return cc_114 dX0_copyOf_48 rfl, Option.toList, List.cons_append, List.nil_append, cz_nil, cs_i, cs_r, cs_n, cs_l, az_nil, az_i, az_r, az_n, az_l, cl_i, cl_r, cl_n, cl_0, cl_l, bi_0, bi_n0, bi_nb, isb_0, isb_1, isb_bi, Nat.reduceAdd, Nat.reduceLeDiff, Nat.zero_le, Nat.zero_add, Nat.add_zero, hx, hy, u, cu_i, cu_r, nz_1, false_and, and_false, true_and, and_true, and_self, Int32.reduceOfInt, Int32.reduceAdd, Int32.reduceSub, Int32.reduceMul, Int32.reduceLT, Int32.reduceLE, nz_2, nz_3, nz_9, nz_10, nz_24, nz_60, not_false_eq_true, not_true_eq_false, if_false, if_true, reduceIte]
theorem cf_loop (X : im_E) (d : Nat) {b c : Nat} (hb : WB b) (hc : WB c) (hne : b ≠ c) : ∀ (k i : Nat) (σ : Nat → Nat → Int32), i + k = 8 → ∃ τ : Nat → Nat → Int32, (∀ Q, Ev X (d + 1) 110 57 [some (.ref b), some (.ref c), some (.int (Int32.ofNat i))] [] (mem σ) Q = Ev X (d + 1) 110 84 [some (.ref b), some (.ref c), some (.int 8)] [] (mem τ) Q) ∧ (∀ p f, i ≤ p → p < 8 → f < 6 → τ (b + (18 + p)) f = σ (c + (18 + p)) f) ∧ ∀ a, (∀ p, i ≤ p → p < 8 → a ≠ b + (18 + p)) → τ a = σ a
  | 0, i, σ, h => by
    have hi : i = 8 := by omega
    subst hi
    have z : Int32.ofNat 8 = 8 := rfl
    refine ⟨σ, fun Q => ?_, fun p f h1 h2 => by omega, fun a _ => rfl⟩
    rw [z]
    conv => lhs; simp only [E_iload2 (q := 58) cc_110 dX8_copyOf_57 rfl, E_bipush (q := 60) (x := 8) cc_110 dX8_copyOf_58 rfl rfl, E_icmp_ge (q := 63) (t := 84) cc_110 dX8_copyOf_60 rfl rfl, Option.toList, List.cons_append, List.nil_append, cz_nil, cs_i, cs_r, cs_n, cs_l, az_nil, az_i, az_r, az_n, az_l, cl_i, cl_r, cl_n, cl_0, cl_l, bi_0, bi_n0, bi_nb, isb_0, isb_1, isb_bi, Nat.reduceAdd, Nat.reduceLeDiff, Nat.zero_le, Nat.zero_add, Nat.add_zero, Int32.le_refl, cu_i, cu_r, nz_1, false_and, and_false, true_and, and_true, and_self, Int32.reduceOfInt, Int32.reduceAdd, Int32.reduceSub, Int32.reduceMul, Int32.reduceLT, Int32.reduceLE, nz_2, nz_3, nz_9, nz_10, nz_24, nz_60, not_false_eq_true, not_true_eq_false, if_false, if_true, reduceIte]
  | k + 1, i, σ, h => by
    have hi8 : i < 8 := by omega
    obtain ⟨f1, f2, f3⟩ := p8_f hi8
    have f4 : Int32.ofNat i + 1 = Int32.ofNat (i + 1) := add_N (b := 1)
    have hx := w_f hb hi8
    have hy := w_f hc hi8
    have hn : c + (18 + i) ≠ b + (18 + i) := bc_ne hc hb (Ne.symm hne) (by omega) (by omega)
    have e := s114 X d hx hy hn σ
    obtain ⟨h15, h15'⟩ := w_fa hb
    obtain ⟨h16, h16'⟩ := w_fa hc
    obtain ⟨τ, g1, g2, g3⟩ := cf_loop X d hb hc hne k (i + 1) _ (by omega)
    refine ⟨τ, fun Q => ?_, fun p f h1 h2 h3 => ?_, fun a ha => ?_⟩
    · rw [← g1 Q]
      conv => lhs; simp only [E_iload2 (q := 58) cc_110 dX8_copyOf_57 rfl, E_bipush (q := 60) (x := 8) cc_110 dX8_copyOf_58 rfl rfl, E_icmp_ge (q := 63) (t := 84) cc_110 dX8_copyOf_60 rfl rfl, Option.toList, List.cons_append, List.nil_append, cz_nil, cs_i, cs_r, cs_n, cs_l, az_nil, az_i, az_r, az_n, az_l, cl_i, cl_r, cl_n, cl_0, cl_l, bi_0, bi_n0, bi_nb, isb_0, isb_1, isb_bi, Nat.reduceAdd, Nat.reduceLeDiff, Nat.zero_le, Nat.zero_add, Nat.add_zero, f3, cu_i, cu_r, nz_1, false_and, and_false, true_and, and_true, and_self, Int32.reduceOfInt, Int32.reduceAdd, Int32.reduceSub, Int32.reduceMul, Int32.reduceLT, Int32.reduceLE, nz_2, nz_3, nz_9, nz_10, nz_24, nz_60, not_false_eq_true, not_true_eq_false, if_false, if_true, reduceIte]
      conv => lhs; simp only [E_aload0 (q := 64) cc_110 dX8_copyOf_63 rfl, E_aloadN0 (q := 64) cc_110 dX8_copyOf_63 rfl, E_getP (q := 67) (o := 15) cc_110 dX8_copyOf_64 rfl (by decide) rfl (by decide) rfl, E_iload2 (q := 68) cc_110 dX8_copyOf_67 rfl, E_aald12 (q := 69) cc_110 dX8_copyOf_68 rfl, E_aload1 (q := 70) cc_110 dX8_copyOf_69 rfl, E_aloadN1 (q := 70) cc_110 dX8_copyOf_69 rfl, E_getP (q := 73) (o := 15) cc_110 dX8_copyOf_70 rfl (by decide) rfl (by decide) rfl, E_iload2 (q := 74) cc_110 dX8_copyOf_73 rfl, E_aald12 (q := 75) cc_110 dX8_copyOf_74 rfl, E_cV1 (q := 78) (j := 114) (mx := 2) (ci := 0) cc_110 dX8_copyOf_75 rfl rfl (by decide) rfl rfl, E_iinc2 (q := 81) cc_110 dX8_copyOf_78 rfl rfl, E_goto (t := 57) cc_110 dX8_copyOf_81 rfl, Option.toList, List.cons_append, List.nil_append, cz_nil, cs_i, cs_r, cs_n, cs_l, az_nil, az_i, az_r, az_n, az_l, cl_i, cl_r, cl_n, cl_0, cl_l, bi_0, bi_n0, bi_nb, isb_0, isb_1, isb_bi, Nat.reduceAdd, Nat.reduceLeDiff, Nat.zero_le, Nat.zero_add, Nat.add_zero, f1, f2, f4, h15, h15', h16, h16', n15_3, hx, hy, e, cu_i, cu_r, nz_1, false_and, and_false, true_and, and_true, and_self, Int32.reduceOfInt, Int32.reduceAdd, Int32.reduceSub, Int32.reduceMul, Int32.reduceLT, Int32.reduceLE, nz_2, nz_3, nz_9, nz_10, nz_24, nz_60, not_false_eq_true, not_true_eq_false, if_false, if_true, reduceIte, w_o0 hb, w_o1 hb, w_o4 hb, w_o7 hb, w_o10 hb, w_o13 hb, w_a2 hb, w_n2 hb, w_a3 hb, w_n3 hb, w_a5 hb, w_n5 hb, w_a6 hb, w_n6 hb, w_a8 hb, w_n8 hb, w_a9 hb, w_n9 hb, w_a11 hb, w_n11 hb, w_a12 hb, w_n12 hb, w_a14 hb, w_n14 hb, w_a16 hb, w_n16 hb, w_a17 hb, w_n17 hb, w_o0 hc, w_o1 hc, w_o4 hc, w_o7 hc, w_o10 hc, w_o13 hc, w_a2 hc, w_n2 hc, w_a3 hc, w_n3 hc, w_a5 hc, w_n5 hc, w_a6 hc, w_n6 hc, w_a8 hc, w_n8 hc, w_a9 hc, w_n9 hc, w_a11 hc, w_n11 hc, w_a12 hc, w_n12 hc, w_a14 hc, w_n14 hc, w_a16 hc, w_n16 hc, w_a17 hc, w_n17 hc, Nat.add_assoc]
    · by_cases q : p = i
      · subst q
        rw [g3 _ (fun p' h1' h2' => by omega)]
        rcases (show f = 0 ∨ f = 1 ∨ f = 2 ∨ f = 3 ∨ f = 4 ∨ f = 5 by omega) with rfl | rfl | rfl | rfl | rfl | rfl <;> simp [up]
      · rw [g2 p f (by omega) h2 h3]
        have hq : c + (18 + p) ≠ b + (18 + i) := bc_ne hc hb (Ne.symm hne) (by omega) (by omega)
        rw [up_of hq, up_of hq, up_of hq, up_of hq, up_of hq, up_of hq]
    · rw [g3 a (fun p h1 h2 => ha p (by omega) h2)]
      have hq := ha i (Nat.le_refl _) hi8
      rw [up_of hq, up_of hq, up_of hq, up_of hq, up_of hq, up_of hq]
theorem cw_tail (X : im_E) (d : Nat) {b c : Nat} (hb : WB b) (hc : WB c) (hne : b ≠ c) (σ : Nat → Nat → Int32) (Q : Option Value → im_M → Prop) : Ev X (d + 1) 110 84 [some (.ref b), some (.ref c), some (.int 8)] [] (mem σ) Q = Q none (mem (up (up (up (up (up (up (up (up (up (up (cp (cp (up σ b 6 (σ c 6)) (c + 16) (b + 16) 0 0 6) (c + 17) (b + 17) 0 0 20) b 9 (σ c 9)) b 10 (σ c 10)) b 11 (σ c 11)) b 12 (σ c 12)) b 13 (σ c 13)) b 14 (σ c 14)) b 15 (σ c 15)) b 16 (σ c 16)) b 17 (σ c 17)) b 18 (σ c 18))) := by
  have n0 : ¬ (0 : Int32) < 0 := by decide
  have n3 : ¬ (3 : Int32) < 0 := by decide
  have n72 : ¬ (72 : Int32) < 0 := by decide
  have n10 : ¬ (10 : Int32) < 0 := by decide
  have n50 : ¬ (50 : Int32) < 0 := by decide
  have n6 : ¬ (6 : Int32) < 0 := by decide
  have n20 : ¬ (20 : Int32) < 0 := by decide
  have c3 : Int32.toNatClampNeg 3 = 3 := by decide
  have c72 : Int32.toNatClampNeg 72 = 72 := by decide
  have c10 : Int32.toNatClampNeg 10 = 10 := by decide
  have c50 : Int32.toNatClampNeg 50 = 50 := by decide
  have c6 : Int32.toNatClampNeg 6 = 6 := by decide
  have c20 : Int32.toNatClampNeg 20 = 20 := by decide
  have hcb : c ≠ b := Ne.symm hne
  have u : ∀ (τ : Nat → Nat → Int32) k v, up τ b k v c = τ c := fun τ k v => up_of hcb
  have h16 : c ≠ b + 16 := bc_ne (o := 0) hc hb hcb (by decide) (by decide)
  have h17 : c ≠ b + 17 := bc_ne (o := 0) hc hb hcb (by decide) (by decide)
  have u16 : ∀ (τ : Nat → Nat → Int32) x n, cp τ x (b + 16) 0 0 n c = τ c := fun τ x n => cp_o h16
  have u17 : ∀ (τ : Nat → Nat → Int32) x n, cp τ x (b + 17) 0 0 n c = τ c := fun τ x n => cp_o h17
  simp only [E_aload0 (q := 85) cc_110 dX8_copyOf_84 rfl, E_aloadN0 (q := 85) cc_110 dX8_copyOf_84 rfl, E_aload1 (q := 86) cc_110 dX8_copyOf_85 rfl, E_aloadN1 (q := 86) cc_110 dX8_copyOf_85 rfl, E_getI (q := 89) cc_110 dX8_copyOf_86 rfl (by decide) rfl rfl, E_putI (q := 92) cc_110 dX8_copyOf_89 rfl rfl rfl (Or.inl rfl), E_aload1 (q := 93) cc_110 dX8_copyOf_92 rfl, E_aloadN1 (q := 93) cc_110 dX8_copyOf_92 rfl, E_getP (q := 96) (o := 16) cc_110 dX8_copyOf_93 rfl (by decide) rfl (by decide) rfl, E_iconst (q := 97) (x := 0) cc_110 dX8_copyOf_96 rfl rfl, E_aload0 (q := 98) cc_110 dX8_copyOf_97 rfl, E_aloadN0 (q := 98) cc_110 dX8_copyOf_97 rfl, E_getP (q := 101) (o := 16) cc_110 dX8_copyOf_98 rfl (by decide) rfl (by decide) rfl, E_iconst (q := 102) (x := 0) cc_110 dX8_copyOf_101 rfl rfl, E_bipush (q := 104) (x := 6) cc_110 dX8_copyOf_102 rfl rfl, E_copyA (q := 107) cc_110 dX8_copyOf_104 rfl rfl, E_aload1 (q := 108) cc_110 dX8_copyOf_107 rfl, E_aloadN1 (q := 108) cc_110 dX8_copyOf_107 rfl, E_getP (q := 111) (o := 17) cc_110 dX8_copyOf_108 rfl (by decide) rfl (by decide) rfl, E_iconst (q := 112) (x := 0) cc_110 dX8_copyOf_111 rfl rfl, E_aload0 (q := 113) cc_110 dX8_copyOf_112 rfl, E_aloadN0 (q := 113) cc_110 dX8_copyOf_112 rfl, E_getP (q := 116) (o := 17) cc_110 dX8_copyOf_113 rfl (by decide) rfl (by decide) rfl, E_iconst (q := 117) (x := 0) cc_110 dX8_copyOf_116 rfl rfl, E_bipush (q := 119) (x := 20) cc_110 dX8_copyOf_117 rfl rfl, E_copyA (q := 122) cc_110 dX8_copyOf_119 rfl rfl, E_aload0 (q := 123) cc_110 dX8_copyOf_122 rfl, E_aloadN0 (q := 123) cc_110 dX8_copyOf_122 rfl, E_aload1 (q := 124) cc_110 dX8_copyOf_123 rfl, E_aloadN1 (q := 124) cc_110 dX8_copyOf_123 rfl, E_getI (q := 127) cc_110 dX8_copyOf_124 rfl (by decide) rfl rfl, E_putI (q := 130) cc_110 dX8_copyOf_127 rfl rfl rfl (Or.inl rfl), E_aload0 (q := 131) cc_110 dX8_copyOf_130 rfl, E_aloadN0 (q := 131) cc_110 dX8_copyOf_130 rfl, E_aload1 (q := 132) cc_110 dX8_copyOf_131 rfl, E_aloadN1 (q := 132) cc_110 dX8_copyOf_131 rfl, E_getI (q := 135) cc_110 dX8_copyOf_132 rfl (by decide) rfl rfl, E_putI (q := 138) cc_110 dX8_copyOf_135 rfl rfl rfl (Or.inl rfl), E_aload0 (q := 139) cc_110 dX8_copyOf_138 rfl, E_aloadN0 (q := 139) cc_110 dX8_copyOf_138 rfl, E_aload1 (q := 140) cc_110 dX8_copyOf_139 rfl, E_aloadN1 (q := 140) cc_110 dX8_copyOf_139 rfl, E_getI (q := 143) cc_110 dX8_copyOf_140 rfl (by decide) rfl rfl, E_putI (q := 146) cc_110 dX8_copyOf_143 rfl rfl rfl (Or.inl rfl), E_aload0 (q := 147) cc_110 dX8_copyOf_146 rfl, E_aloadN0 (q := 147) cc_110 dX8_copyOf_146 rfl, E_aload1 (q := 148) cc_110 dX8_copyOf_147 rfl, E_aloadN1 (q := 148) cc_110 dX8_copyOf_147 rfl, E_getI (q := 151) cc_110 dX8_copyOf_148 rfl (by decide) rfl rfl, E_putI (q := 154) cc_110 dX8_copyOf_151 rfl rfl rfl (Or.inl rfl), E_aload0 (q := 155) cc_110 dX8_copyOf_154 rfl, E_aloadN0 (q := 155) cc_110 dX8_copyOf_154 rfl, E_aload1 (q := 156) cc_110 dX8_copyOf_155 rfl, E_aloadN1 (q := 156) cc_110 dX8_copyOf_155 rfl, E_getI (q := 159) cc_110 dX8_copyOf_156 rfl (by decide) rfl rfl, E_putI (q := 162) cc_110 dX8_copyOf_159 rfl rfl rfl (Or.inl rfl), E_aload0 (q := 163) cc_110 dX8_copyOf_162 rfl, E_aloadN0 (q := 163) cc_110 dX8_copyOf_162 rfl, E_aload1 (q := 164) cc_110 dX8_copyOf_163 rfl, E_aloadN1 (q := 164) cc_110 dX8_copyOf_163 rfl, E_getI (q := 167) cc_110 dX8_copyOf_164 rfl (by decide) rfl rfl, E_putI (q := 170) cc_110 dX8_copyOf_167 rfl rfl rfl (Or.inl rfl), E_aload0 (q := 171) cc_110 dX8_copyOf_170 rfl, E_aloadN0 (q := 171) cc_110 dX8_copyOf_170 rfl, E_aload1 (q := 172) cc_110 dX8_copyOf_171 rfl, E_aloadN1 (q := 172) cc_110 dX8_copyOf_171 rfl, E_getI (q := 175) cc_110 dX8_copyOf_172 rfl (by decide) rfl rfl, E_putI (q := 178) cc_110 dX8_copyOf_175 rfl rfl rfl (Or.inl rfl), E_aload0 (q := 179) cc_110 dX8_copyOf_178 rfl, E_aloadN0 (q := 179) cc_110 dX8_copyOf_178 rfl, E_aload1 (q := 180) cc_110 dX8_copyOf_179 rfl, E_aloadN1 (q := 180) cc_110 dX8_copyOf_179 rfl, E_getI (q := 183) cc_110 dX8_copyOf_180 rfl (by decide) rfl rfl, E_putI (q := 186) cc_110 dX8_copyOf_183 rfl rfl rfl (Or.inl rfl), E_aload0 (q := 187) cc_110 dX8_copyOf_186 rfl, E_aloadN0 (q := 187) cc_110 dX8_copyOf_186 rfl, E_aload1 (q := 188) cc_110 dX8_copyOf_187 rfl, E_aloadN1 (q := 188) cc_110 dX8_copyOf_187 rfl, E_getI (q := 191) cc_110 dX8_copyOf_188 rfl (by decide) rfl rfl, E_putI (q := 194) cc_110 dX8_copyOf_191 rfl rfl rfl (Or.inl rfl), E_aload0 (q := 195) cc_110 dX8_copyOf_194 rfl, E_aloadN0 (q := 195) cc_110 dX8_copyOf_194 rfl, E_aload1 (q := 196) cc_110 dX8_copyOf_195 rfl, E_aloadN1 (q := 196) cc_110 dX8_copyOf_195 rfl, E_getI (q := 199) cc_110 dX8_copyOf_196 rfl (by decide) rfl rfl, E_putI (q := 202) cc_110 dX8_copyOf_199 rfl rfl rfl (Or.inl rfl), E_return cc_110 dX8_copyOf_202 rfl, Option.toList, List.cons_append, List.nil_append, cz_nil, cs_i, cs_r, cs_n, cs_l, az_nil, az_i, az_r, az_n, az_l, cl_i, cl_r, cl_n, cl_0, cl_l, bi_0, bi_n0, bi_nb, isb_0, isb_1, isb_bi, Nat.reduceAdd, Nat.reduceLeDiff, Nat.zero_le, Nat.zero_add, Nat.add_zero, n0, n3, n72, n10, n50, n6, n20, t0, c3, c72, c10, c50, c6, c20, Nat.le_refl, u, u16, u17, cu_i, cu_r, nz_1, false_and, and_false, true_and, and_true, and_self, Int32.reduceOfInt, Int32.reduceAdd, Int32.reduceSub, Int32.reduceMul, Int32.reduceLT, Int32.reduceLE, nz_2, nz_3, nz_9, nz_10, nz_24, nz_60, not_false_eq_true, not_true_eq_false, if_false, if_true, reduceIte, w_o0 hb, w_o1 hb, w_o4 hb, w_o7 hb, w_o10 hb, w_o13 hb, w_a2 hb, w_n2 hb, w_a3 hb, w_n3 hb, w_a5 hb, w_n5 hb, w_a6 hb, w_n6 hb, w_a8 hb, w_n8 hb, w_a9 hb, w_n9 hb, w_a11 hb, w_n11 hb, w_a12 hb, w_n12 hb, w_a14 hb, w_n14 hb, w_a16 hb, w_n16 hb, w_a17 hb, w_n17 hb, w_o0 hc, w_o1 hc, w_o4 hc, w_o7 hc, w_o10 hc, w_o13 hc, w_a2 hc, w_n2 hc, w_a3 hc, w_n3 hc, w_a5 hc, w_n5 hc, w_a6 hc, w_n6 hc, w_a8 hc, w_n8 hc, w_a9 hc, w_n9 hc, w_a11 hc, w_n11 hc, w_a12 hc, w_n12 hc, w_a14 hc, w_n14 hc, w_a16 hc, w_n16 hc, w_a17 hc, w_n17 hc, Nat.add_assoc]
def oks (o s : Nat) : Prop := (o = 0 ∧ (s = 6 ∨ (9 ≤ s ∧ s ≤ 18))) ∨ (o = 2 ∧ s < 3) ∨ (o = 3 ∧ s < 72) ∨ (o = 4 ∧ s = 2) ∨ (o = 5 ∧ s < 10) ∨ (o = 6 ∧ s < 10) ∨ (o = 13 ∧ s = 1) ∨ (o = 14 ∧ s < 50) ∨ (o = 16 ∧ s < 6) ∨ (o = 17 ∧ s < 20) ∨ (18 ≤ o ∧ o ≤ 25 ∧ s < 6)
theorem loc_ok : ∀ k, lkd k → oks (loc k).1 (loc k).2 := by
  have h : ∀ k : Fin 334, (k.1 < 162 ∨ (164 ≤ k.1 ∧ k.1 < 184) ∨ (284 ≤ k.1 ∧ k.1 < 334)) → oks (loc k.1).1 (loc k.1).2 := by unfold oks; decide +kernel
  exact fun k hk => h ⟨k, lkd_lt hk⟩ hk
theorem SQ_eq {σ τ : Nat → Nat → Int32} {g h : Nat} : ∀ {k : Nat} {cs : List Int32}, (∀ j, j < 50 → τ h j = σ g j) → k + cs.length ≤ 50 → SQ σ g k cs → SQ τ h k cs
  | _, [], _, _, _ => trivial
  | k, x :: cs, e, hl, hs => by
    simp only [List.length_cons] at hl
    exact ⟨by rw [e k (by omega)]; exact hs.1, SQ_eq e (by omega) hs.2⟩
theorem c110 (X : im_E) (d : Nat) {b c : Nat} (hb : WB b) (hc : WB c) (hne : b ≠ c) {σ : Nat → Nat → Int32} {D : Nat → Int32} {r l : List Int32} (hW : WW σ c D r l) : ∃ τ : Nat → Nat → Int32, (∀ Q, Ev X (d + 1) 110 0 (im_ent 3 [.ref b, .ref c]) [] (mem σ) Q = Q none (mem τ)) ∧ WW τ b D r l ∧ WFr b σ τ := by
  have hcb : c ≠ b := Ne.symm hne
  have N : ∀ o o', o ≤ 25 → o' ≤ 25 → c + o ≠ b + o' := fun o o' h1 h2 => bc_ne hc hb hcb h1 h2
  have N0 : ∀ o', o' ≤ 25 → c ≠ b + o' := fun o' h2 => bc_ne (o := 0) hc hb hcb (by decide) h2
  have M0 : ∀ o, o ≤ 25 → c + o ≠ b := fun o h => bc_ne (o' := 0) hc hb hcb h (by decide)
  have e1 := s111 X d hb hc σ
  generalize hs1 : cp (cp σ (c + 2) (b + 2) 0 0 3) (c + 3) (b + 3) 0 0 72 = s1 at e1
  have e2 := s112 X d hb hc s1
  generalize hs2 : cp (cp (up s1 (b + 4) 2 (s1 (c + 4) 2)) (c + 5) (b + 5) 0 0 10) (c + 6) (b + 6) 0 0 10 = s2 at e2
  have e3 := s98_7 X d hb hc hne s2
  generalize hs3 : up (cp s2 (c + 8) (b + 8) 0 0 50) (b + 7) 2 (s2 (c + 7) 2) = s3 at e3
  have e4 := s98_10 X d hb hc hne s3
  generalize hs4 : up (cp s3 (c + 11) (b + 11) 0 0 50) (b + 10) 2 (s3 (c + 10) 2) = s4 at e4
  have e5 := s113 X d hb hc hne s4
  generalize hs5 : up (cp s4 (c + 14) (b + 14) 0 0 50) (b + 13) 1 (s4 (c + 13) 1) = s5 at e5
  obtain ⟨s6, e6, g6, h6⟩ := cf_loop X d hb hc hne 8 0 s5 rfl
  have e7 := cw_tail X d hb hc hne s6
  generalize hs7 : up (up (up (up (up (up (up (up (up (up (cp (cp (up s6 b 6 (s6 c 6)) (c + 16) (b + 16) 0 0 6) (c + 17) (b + 17) 0 0 20) b 9 (s6 c 9)) b 10 (s6 c 10)) b 11 (s6 c 11)) b 12 (s6 c 12)) b 13 (s6 c 13)) b 14 (s6 c 14)) b 15 (s6 c 15)) b 16 (s6 c 16)) b 17 (s6 c 17)) b 18 (s6 c 18) = s7 at e7
  -- what each step leaves
  have k1 : ∀ a, a ≠ b + 2 → a ≠ b + 3 → s1 a = σ a := fun a p q => by rw [← hs1, cp_o q, cp_o p]
  have k2 : ∀ a, a ≠ b + 4 → a ≠ b + 5 → a ≠ b + 6 → s2 a = s1 a := fun a p q r => by rw [← hs2, cp_o r, cp_o q, up_of p]
  have k3 : ∀ a, a ≠ b + 7 → a ≠ b + 8 → s3 a = s2 a := fun a p q => by rw [← hs3, up_of p, cp_o q]
  have k4 : ∀ a, a ≠ b + 10 → a ≠ b + 11 → s4 a = s3 a := fun a p q => by rw [← hs4, up_of p, cp_o q]
  have k5 : ∀ a, a ≠ b + 13 → a ≠ b + 14 → s5 a = s4 a := fun a p q => by rw [← hs5, up_of p, cp_o q]
  have k6 : ∀ a, (a < b + 18 ∨ b + 25 < a) → s6 a = s5 a := fun a p => h6 a (fun p' _ h2 => by omega)
  have k7 : ∀ a, a ≠ b → a ≠ b + 16 → a ≠ b + 17 → s7 a = s6 a := fun a p q r => by rw [← hs7, up_of p, up_of p, up_of p, up_of p, up_of p, up_of p, up_of p, up_of p, up_of p, up_of p, cp_o r, cp_o q, up_of p]
  -- the source is never touched
  have c1 : ∀ o, o ≤ 25 → s1 (c + o) = σ (c + o) := fun o h => k1 _ (N _ _ h (by decide)) (N _ _ h (by decide))
  have c2 : ∀ o, o ≤ 25 → s2 (c + o) = σ (c + o) := fun o h => (k2 _ (N _ _ h (by decide)) (N _ _ h (by decide)) (N _ _ h (by decide))).trans (c1 o h)
  have c3 : ∀ o, o ≤ 25 → s3 (c + o) = σ (c + o) := fun o h => (k3 _ (N _ _ h (by decide)) (N _ _ h (by decide))).trans (c2 o h)
  have c4 : ∀ o, o ≤ 25 → s4 (c + o) = σ (c + o) := fun o h => (k4 _ (N _ _ h (by decide)) (N _ _ h (by decide))).trans (c3 o h)
  have c5 : ∀ o, o ≤ 25 → s5 (c + o) = σ (c + o) := fun o h => (k5 _ (N _ _ h (by decide)) (N _ _ h (by decide))).trans (c4 o h)
  have c6 : ∀ o, o ≤ 25 → s6 (c + o) = σ (c + o) := fun o h => (h6 _ (fun p _ h2 => N _ _ h (by omega))).trans (c5 o h)
  have c60 : s6 c = σ c := c6 0 (by decide)
  have hW' := hW
  have main : ∀ o s, oks o s → s7 (b + o) s = σ (c + o) s := by
    intro o s h
    rcases h with ⟨rfl, h⟩ | ⟨rfl, h⟩ | ⟨rfl, h⟩ | ⟨rfl, rfl⟩ | ⟨rfl, h⟩ | ⟨rfl, h⟩ | ⟨rfl, rfl⟩ | ⟨rfl, h⟩ | ⟨rfl, h⟩ | ⟨rfl, h⟩ | ⟨h1, h2, h⟩
    · have x16 : b ≠ b + 16 := by omega
      have x17 : b ≠ b + 17 := by omega
      show s7 b s = σ c s
      rw [← c60, ← hs7]
      rcases (show s = 6 ∨ s = 9 ∨ s = 10 ∨ s = 11 ∨ s = 12 ∨ s = 13 ∨ s = 14 ∨ s = 15 ∨ s = 16 ∨ s = 17 ∨ s = 18 by omega) with rfl | rfl | rfl | rfl | rfl | rfl | rfl | rfl | rfl | rfl | rfl <;> simp [up, cp]
    · rw [k7 _ (by omega) (by omega) (by omega), k6 _ (by omega), k5 _ (by omega) (by omega), k4 _ (by omega) (by omega), k3 _ (by omega) (by omega), k2 _ (by omega) (by omega) (by omega), ← hs1, cp_o (by omega), cp_s h]
    · rw [k7 _ (by omega) (by omega) (by omega), k6 _ (by omega), k5 _ (by omega) (by omega), k4 _ (by omega) (by omega), k3 _ (by omega) (by omega), k2 _ (by omega) (by omega) (by omega), ← hs1, cp_s h, cp_o (N _ _ (by decide) (by decide))]
    · rw [k7 _ (by omega) (by omega) (by omega), k6 _ (by omega), k5 _ (by omega) (by omega), k4 _ (by omega) (by omega), k3 _ (by omega) (by omega), ← hs2, cp_o (by omega), cp_o (by omega), up_s, c1 4 (by decide)]
    · rw [k7 _ (by omega) (by omega) (by omega), k6 _ (by omega), k5 _ (by omega) (by omega), k4 _ (by omega) (by omega), k3 _ (by omega) (by omega), ← hs2, cp_o (by omega), cp_s h, up_of (N _ _ (by decide) (by decide)), c1 5 (by decide)]
    · rw [k7 _ (by omega) (by omega) (by omega), k6 _ (by omega), k5 _ (by omega) (by omega), k4 _ (by omega) (by omega), k3 _ (by omega) (by omega), ← hs2, cp_s h, cp_o (N _ _ (by decide) (by decide)), up_of (N _ _ (by decide) (by decide)), c1 6 (by decide)]
    · rw [k7 _ (by omega) (by omega) (by omega), k6 _ (by omega), ← hs5, up_s, c4 13 (by decide)]
    · rw [k7 _ (by omega) (by omega) (by omega), k6 _ (by omega), ← hs5, up_of (by omega), cp_s h, c4 14 (by decide)]
    · rw [← hs7, up_of (by omega), up_of (by omega), up_of (by omega), up_of (by omega), up_of (by omega), up_of (by omega), up_of (by omega), up_of (by omega), up_of (by omega), up_of (by omega), cp_o (by omega), cp_s h, up_of (M0 _ (by decide)), c6 16 (by decide)]
    · rw [← hs7, up_of (by omega), up_of (by omega), up_of (by omega), up_of (by omega), up_of (by omega), up_of (by omega), up_of (by omega), up_of (by omega), up_of (by omega), up_of (by omega), cp_s h, cp_o (N _ _ (by decide) (by decide)), up_of (M0 _ (by decide)), c6 17 (by decide)]
    · obtain ⟨p, rfl⟩ : ∃ p, o = 18 + p := ⟨o - 18, by omega⟩
      rw [k7 _ (by omega) (by omega) (by omega), g6 p s (Nat.zero_le _) (by omega) h, c5 (18 + p) h2]
  refine ⟨s7, fun Q => ?_, ⟨fun k hk => ?_, ?_, ?_⟩, fun a ha => ?_⟩
  · show Ev X (d + 1) 110 0 [some (.ref b), some (.ref c), none] [] (mem σ) Q = _
    have z0 : Int32.ofNat 0 = 0 := rfl
    rw [z0] at e6
    conv => lhs; simp only [E_aload0 (q := 1) cc_110 dX8_copyOf_0 rfl, E_aloadN0 (q := 1) cc_110 dX8_copyOf_0 rfl, E_getP (q := 4) (o := 1) cc_110 dX8_copyOf_1 rfl (by decide) rfl (by decide) rfl, E_aload1 (q := 5) cc_110 dX8_copyOf_4 rfl, E_aloadN1 (q := 5) cc_110 dX8_copyOf_4 rfl, E_getP (q := 8) (o := 1) cc_110 dX8_copyOf_5 rfl (by decide) rfl (by decide) rfl, E_cV1 (q := 11) (j := 111) (mx := 2) (ci := 5) cc_110 dX8_copyOf_8 rfl rfl (by decide) rfl rfl, E_aload0 (q := 12) cc_110 dX8_copyOf_11 rfl, E_aloadN0 (q := 12) cc_110 dX8_copyOf_11 rfl, E_getP (q := 15) (o := 4) cc_110 dX8_copyOf_12 rfl (by decide) rfl (by decide) rfl, E_aload1 (q := 16) cc_110 dX8_copyOf_15 rfl, E_aloadN1 (q := 16) cc_110 dX8_copyOf_15 rfl, E_getP (q := 19) (o := 4) cc_110 dX8_copyOf_16 rfl (by decide) rfl (by decide) rfl, E_cV1 (q := 22) (j := 112) (mx := 2) (ci := 2) cc_110 dX8_copyOf_19 rfl rfl (by decide) rfl rfl, E_aload0 (q := 23) cc_110 dX8_copyOf_22 rfl, E_aloadN0 (q := 23) cc_110 dX8_copyOf_22 rfl, E_getP (q := 26) (o := 7) cc_110 dX8_copyOf_23 rfl (by decide) rfl (by decide) rfl, E_aload1 (q := 27) cc_110 dX8_copyOf_26 rfl, E_aloadN1 (q := 27) cc_110 dX8_copyOf_26 rfl, E_getP (q := 30) (o := 7) cc_110 dX8_copyOf_27 rfl (by decide) rfl (by decide) rfl, E_cV1 (q := 33) (j := 98) (mx := 2) (ci := 1) cc_110 dX8_copyOf_30 rfl rfl (by decide) rfl rfl, E_aload0 (q := 34) cc_110 dX8_copyOf_33 rfl, E_aloadN0 (q := 34) cc_110 dX8_copyOf_33 rfl, E_getP (q := 37) (o := 10) cc_110 dX8_copyOf_34 rfl (by decide) rfl (by decide) rfl, E_aload1 (q := 38) cc_110 dX8_copyOf_37 rfl, E_aloadN1 (q := 38) cc_110 dX8_copyOf_37 rfl, E_getP (q := 41) (o := 10) cc_110 dX8_copyOf_38 rfl (by decide) rfl (by decide) rfl, E_cV1 (q := 44) (j := 98) (mx := 2) (ci := 1) cc_110 dX8_copyOf_41 rfl rfl (by decide) rfl rfl, E_aload0 (q := 45) cc_110 dX8_copyOf_44 rfl, E_aloadN0 (q := 45) cc_110 dX8_copyOf_44 rfl, E_getP (q := 48) (o := 13) cc_110 dX8_copyOf_45 rfl (by decide) rfl (by decide) rfl, E_aload1 (q := 49) cc_110 dX8_copyOf_48 rfl, E_aloadN1 (q := 49) cc_110 dX8_copyOf_48 rfl, E_getP (q := 52) (o := 13) cc_110 dX8_copyOf_49 rfl (by decide) rfl (by decide) rfl, E_cV1 (q := 55) (j := 113) (mx := 2) (ci := 6) cc_110 dX8_copyOf_52 rfl rfl (by decide) rfl rfl, E_iconst (q := 56) (x := 0) cc_110 dX8_copyOf_55 rfl rfl, E_istore2 (q := 57) cc_110 dX8_copyOf_56 rfl, Option.toList, List.cons_append, List.nil_append, cz_nil, cs_i, cs_r, cs_n, cs_l, az_nil, az_i, az_r, az_n, az_l, cl_i, cl_r, cl_n, cl_0, cl_l, bi_0, bi_n0, bi_nb, isb_0, isb_1, isb_bi, Nat.reduceAdd, Nat.reduceLeDiff, Nat.zero_le, Nat.zero_add, Nat.add_zero, e1, e2, e3, e4, e5, cu_i, cu_r, nz_1, false_and, and_false, true_and, and_true, and_self, Int32.reduceOfInt, Int32.reduceAdd, Int32.reduceSub, Int32.reduceMul, Int32.reduceLT, Int32.reduceLE, nz_2, nz_3, nz_9, nz_10, nz_24, nz_60, not_false_eq_true, not_true_eq_false, if_false, if_true, reduceIte, w_o0 hb, w_o1 hb, w_o4 hb, w_o7 hb, w_o10 hb, w_o13 hb, w_a2 hb, w_n2 hb, w_a3 hb, w_n3 hb, w_a5 hb, w_n5 hb, w_a6 hb, w_n6 hb, w_a8 hb, w_n8 hb, w_a9 hb, w_n9 hb, w_a11 hb, w_n11 hb, w_a12 hb, w_n12 hb, w_a14 hb, w_n14 hb, w_a16 hb, w_n16 hb, w_a17 hb, w_n17 hb, w_o0 hc, w_o1 hc, w_o4 hc, w_o7 hc, w_o10 hc, w_o13 hc, w_a2 hc, w_n2 hc, w_a3 hc, w_n3 hc, w_a5 hc, w_n5 hc, w_a6 hc, w_n6 hc, w_a8 hc, w_n8 hc, w_a9 hc, w_n9 hc, w_a11 hc, w_n11 hc, w_a12 hc, w_n12 hc, w_a14 hc, w_n14 hc, w_a16 hc, w_n16 hc, w_a17 hc, w_n17 hc, Nat.add_assoc]
    rw [e6 Q]
    exact e7 Q
  · rw [main _ _ (loc_ok k hk)]
    exact hW.1 k hk
  · refine ⟨?_, hW.2.1.2.1, SQ_eq (σ := σ) (g := c + 7 + 1) (fun j hj => ?_) (by have := hW.2.1.2.1; omega) hW.2.1.2.2⟩
    · rw [k7 _ (by omega) (by omega) (by omega), k6 _ (by omega), k5 _ (by omega) (by omega), k4 _ (by omega) (by omega), ← hs3, up_s, c2 7 (by decide)]
      exact hW.2.1.1
    · show s7 (b + 8) j = σ (c + 8) j
      rw [k7 _ (by omega) (by omega) (by omega), k6 _ (by omega), k5 _ (by omega) (by omega), k4 _ (by omega) (by omega), ← hs3, up_of (by omega), cp_s hj, c2 8 (by decide)]
  · refine ⟨?_, hW.2.2.2.1, SQ_eq (σ := σ) (g := c + 10 + 1) (fun j hj => ?_) (by have := hW.2.2.2.1; omega) hW.2.2.2.2⟩
    · rw [k7 _ (by omega) (by omega) (by omega), k6 _ (by omega), k5 _ (by omega) (by omega), ← hs4, up_s, c3 10 (by decide)]
      exact hW.2.2.1
    · show s7 (b + 11) j = σ (c + 11) j
      rw [k7 _ (by omega) (by omega) (by omega), k6 _ (by omega), k5 _ (by omega) (by omega), ← hs4, up_of (by omega), cp_s hj, c3 11 (by decide)]
  · rw [k7 _ (by omega) (by omega) (by omega), k6 _ (by omega), k5 _ (by omega) (by omega), k4 _ (by omega) (by omega), k3 _ (by omega) (by omega), k2 _ (by omega) (by omega) (by omega), k1 _ (by omega) (by omega)]
