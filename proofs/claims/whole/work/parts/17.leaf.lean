/-! LEAVES -/
theorem s11 (X : im_E) (d : Nat) (v lo hi : Int32) (M : im_M) (Q : Option Value → im_M → Prop) : Ev X (d) 11 0 (im_ent 3 [.int v, .int lo, .int hi]) [] M Q = Q (some (.int (bi (lo ≤ v ∧ v ≤ hi)))) M := by
  show Ev X (d) 11 0 [some (.int v), some (.int lo), some (.int hi)] [] M Q = _
  simp only [E_iload0 (q := 1) cc_11 dX9_within_0 rfl, E_iload1 (q := 2) cc_11 dX9_within_1 rfl, E_icmp_lt (q := 5) (t := 14) cc_11 dX9_within_2 rfl rfl, E_iload0 (q := 6) cc_11 dX9_within_5 rfl, E_iload2 (q := 7) cc_11 dX9_within_6 rfl, E_icmp_gt (q := 10) (t := 14) cc_11 dX9_within_7 rfl rfl, E_iconst (q := 11) (x := 1) cc_11 dX9_within_10 rfl rfl, E_goto (t := 15) cc_11 dX9_within_11 rfl, E_iconst (q := 15) (x := 0) cc_11 dX9_within_14 rfl rfl, E_zret cc_11 dX9_within_15 rfl, Option.toList, List.cons_append, List.nil_append, cz_nil, cs_i, cs_r, cs_n, cs_l, az_nil, az_i, az_r, az_n, az_l, cl_i, cl_r, cl_n, cl_0, cl_l, ct_i, ct_r, ct_n, bi_0, bi_n0, bi_nb, isb_0, isb_1, isb_bi, Nat.reduceAdd, Nat.reduceLeDiff, Nat.zero_le, Nat.zero_add, Nat.add_zero]
  by_cases h1 : v < lo
  · rw [if_pos h1, bi_f (fun q => Int32.not_lt.mpr q.1 h1)]
  · rw [if_neg h1]
    by_cases h2 : hi < v
    · rw [if_pos h2, bi_f (fun q => Int32.not_lt.mpr q.2 h2)]
    · rw [if_neg h2, bi_t ⟨Int32.not_lt.mp h1, Int32.not_lt.mp h2⟩]
def mn (a b : Int32) : Int32 := if a ≤ b then a else b
def mx (a b : Int32) : Int32 := if b ≤ a then a else b
theorem s35 (X : im_E) (d : Nat) (a b : Int32) (M : im_M) (Q : Option Value → im_M → Prop) : Ev X (d) 35 0 (im_ent 2 [.int a, .int b]) [] M Q = Q (some (.int (mn a b))) M := by
  show Ev X (d) 35 0 [some (.int a), some (.int b)] [] M Q = _
  simp only [E_iload0 (q := 1) cc_35 dJ9_min_7cf53_0 rfl, E_iload1 (q := 2) cc_35 dJ9_min_7cf53_1 rfl, E_icmp_gt (q := 5) (t := 9) cc_35 dJ9_min_7cf53_2 rfl rfl, E_iload0 (q := 6) cc_35 dJ9_min_7cf53_5 rfl, E_goto (t := 10) cc_35 dJ9_min_7cf53_6 rfl, E_iload1 (q := 10) cc_35 dJ9_min_7cf53_9 rfl, E_ireturn cc_35 dJ9_min_7cf53_10 rfl, Option.toList, List.cons_append, List.nil_append, cz_nil, cs_i, cs_r, cs_n, cs_l, az_nil, az_i, az_r, az_n, az_l, cl_i, cl_r, cl_n, cl_0, cl_l, ct_i, ct_r, ct_n, bi_0, bi_n0, bi_nb, isb_0, isb_1, isb_bi, Nat.reduceAdd, Nat.reduceLeDiff, Nat.zero_le, Nat.zero_add, Nat.add_zero]
  unfold mn
  by_cases h : b < a
  · rw [if_pos h, if_neg (Int32.not_le.mpr h)]
  · rw [if_neg h, if_pos (Int32.not_lt.mp h)]
theorem s26 (X : im_E) (d : Nat) (a b : Int32) (M : im_M) (Q : Option Value → im_M → Prop) : Ev X (d) 26 0 (im_ent 2 [.int a, .int b]) [] M Q = Q (some (.int (mx a b))) M := by
  show Ev X (d) 26 0 [some (.int a), some (.int b)] [] M Q = _
  simp only [E_iload0 (q := 1) cc_26 dJ9_max_7cf53_0 rfl, E_iload1 (q := 2) cc_26 dJ9_max_7cf53_1 rfl, E_icmp_lt (q := 5) (t := 9) cc_26 dJ9_max_7cf53_2 rfl rfl, E_iload0 (q := 6) cc_26 dJ9_max_7cf53_5 rfl, E_goto (t := 10) cc_26 dJ9_max_7cf53_6 rfl, E_iload1 (q := 10) cc_26 dJ9_max_7cf53_9 rfl, E_ireturn cc_26 dJ9_max_7cf53_10 rfl, Option.toList, List.cons_append, List.nil_append, cz_nil, cs_i, cs_r, cs_n, cs_l, az_nil, az_i, az_r, az_n, az_l, cl_i, cl_r, cl_n, cl_0, cl_l, ct_i, ct_r, ct_n, bi_0, bi_n0, bi_nb, isb_0, isb_1, isb_bi, Nat.reduceAdd, Nat.reduceLeDiff, Nat.zero_le, Nat.zero_add, Nat.add_zero]
  unfold mx
  by_cases h : a < b
  · rw [if_pos h, if_neg (Int32.not_le.mpr h)]
  · rw [if_neg h, if_pos (Int32.not_lt.mp h)]
theorem s34 (X : im_E) (d : Nat) (v lo hi : Int32) (M : im_M) (Q : Option Value → im_M → Prop) : Ev X (d + 1) 34 0 (im_ent 3 [.int v, .int lo, .int hi]) [] M Q = Q (some (.int (mx lo (mn v hi)))) M := by
  show Ev X (d + 1) 34 0 [some (.int v), some (.int lo), some (.int hi)] [] M Q = _
  simp only [E_iload1 (q := 1) cc_34 dX9_held_0 rfl, E_iload0 (q := 2) cc_34 dX9_held_1 rfl, E_iload2 (q := 3) cc_34 dX9_held_2 rfl, E_callS2 (q := 6) (j := 35) (mx := 2) cc_34 dX9_held_3 rfl rfl (by decide) (by decide) rfl, E_callS2 (q := 9) (j := 26) (mx := 2) cc_34 dX9_held_6 rfl rfl (by decide) (by decide) rfl, E_ireturn cc_34 dX9_held_9 rfl, Option.toList, List.cons_append, List.nil_append, cz_nil, cs_i, cs_r, cs_n, cs_l, az_nil, az_i, az_r, az_n, az_l, cl_i, cl_r, cl_n, cl_0, cl_l, ct_i, ct_r, ct_n, bi_0, bi_n0, bi_nb, isb_0, isb_1, isb_bi, Nat.reduceAdd, Nat.reduceLeDiff, Nat.zero_le, Nat.zero_add, Nat.add_zero, s35, s26]
def hld (v lo hi : Int32) : Int32 := if v < lo then lo else if hi < v then hi else v
theorem s166 (X : im_E) (d : Nat) (v lo hi : Int32) (M : im_M) (Q : Option Value → im_M → Prop) : Ev X (d) 166 0 (im_ent 3 [.int v, .int lo, .int hi]) [] M Q = Q (some (.int (hld v lo hi))) M := by
  show Ev X (d) 166 0 [some (.int v), some (.int lo), some (.int hi)] [] M Q = _
  simp only [E_iload0 (q := 1) cc_166 dX10_held_0 rfl, E_iload1 (q := 2) cc_166 dX10_held_1 rfl, E_icmp_ge (q := 5) (t := 9) cc_166 dX10_held_2 rfl rfl, E_iload1 (q := 6) cc_166 dX10_held_5 rfl, E_goto (t := 19) cc_166 dX10_held_6 rfl, E_iload0 (q := 10) cc_166 dX10_held_9 rfl, E_iload2 (q := 11) cc_166 dX10_held_10 rfl, E_icmp_le (q := 14) (t := 18) cc_166 dX10_held_11 rfl rfl, E_iload2 (q := 15) cc_166 dX10_held_14 rfl, E_goto (t := 19) cc_166 dX10_held_15 rfl, E_iload0 (q := 19) cc_166 dX10_held_18 rfl, E_ireturn cc_166 dX10_held_19 rfl, Option.toList, List.cons_append, List.nil_append, cz_nil, cs_i, cs_r, cs_n, cs_l, az_nil, az_i, az_r, az_n, az_l, cl_i, cl_r, cl_n, cl_0, cl_l, ct_i, ct_r, ct_n, bi_0, bi_n0, bi_nb, isb_0, isb_1, isb_bi, Nat.reduceAdd, Nat.reduceLeDiff, Nat.zero_le, Nat.zero_add, Nat.add_zero]
  unfold hld
  by_cases h : v < lo
  · rw [if_pos h, if_neg (Int32.not_le.mpr h)]
  · rw [if_neg h, if_pos (Int32.not_lt.mp h)]
    by_cases h2 : hi < v
    · rw [if_pos h2, if_neg (Int32.not_le.mpr h2)]
    · rw [if_neg h2, if_pos (Int32.not_lt.mp h2)]
theorem s167 (X : im_E) (d : Nat) (a b : Int32) (M : im_M) (Q : Option Value → im_M → Prop) : Ev X (d) 167 0 (im_ent 2 [.int a, .int b]) [] M Q = Q (some (.int (if a < b then a else b))) M := by
  show Ev X (d) 167 0 [some (.int a), some (.int b)] [] M Q = _
  simp only [E_iload0 (q := 1) cc_167 dX10_lesser_0 rfl, E_iload1 (q := 2) cc_167 dX10_lesser_1 rfl, E_icmp_ge (q := 5) (t := 9) cc_167 dX10_lesser_2 rfl rfl, E_iload0 (q := 6) cc_167 dX10_lesser_5 rfl, E_goto (t := 10) cc_167 dX10_lesser_6 rfl, E_iload1 (q := 10) cc_167 dX10_lesser_9 rfl, E_ireturn cc_167 dX10_lesser_10 rfl, Option.toList, List.cons_append, List.nil_append, cz_nil, cs_i, cs_r, cs_n, cs_l, az_nil, az_i, az_r, az_n, az_l, cl_i, cl_r, cl_n, cl_0, cl_l, ct_i, ct_r, ct_n, bi_0, bi_n0, bi_nb, isb_0, isb_1, isb_bi, Nat.reduceAdd, Nat.reduceLeDiff, Nat.zero_le, Nat.zero_add, Nat.add_zero]
  by_cases h : a < b
  · rw [if_pos h, if_neg (Int32.not_le.mpr h)]
  · rw [if_neg h, if_pos (Int32.not_lt.mp h)]
theorem s168 (X : im_E) (d : Nat) (a b : Int32) (M : im_M) (Q : Option Value → im_M → Prop) : Ev X (d) 168 0 (im_ent 2 [.int a, .int b]) [] M Q = Q (some (.int (if b < a then a else b))) M := by
  show Ev X (d) 168 0 [some (.int a), some (.int b)] [] M Q = _
  simp only [E_iload0 (q := 1) cc_168 dX10_greater_0 rfl, E_iload1 (q := 2) cc_168 dX10_greater_1 rfl, E_icmp_le (q := 5) (t := 9) cc_168 dX10_greater_2 rfl rfl, E_iload0 (q := 6) cc_168 dX10_greater_5 rfl, E_goto (t := 10) cc_168 dX10_greater_6 rfl, E_iload1 (q := 10) cc_168 dX10_greater_9 rfl, E_ireturn cc_168 dX10_greater_10 rfl, Option.toList, List.cons_append, List.nil_append, cz_nil, cs_i, cs_r, cs_n, cs_l, az_nil, az_i, az_r, az_n, az_l, cl_i, cl_r, cl_n, cl_0, cl_l, ct_i, ct_r, ct_n, bi_0, bi_n0, bi_nb, isb_0, isb_1, isb_bi, Nat.reduceAdd, Nat.reduceLeDiff, Nat.zero_le, Nat.zero_add, Nat.add_zero]
  by_cases h : b < a
  · rw [if_pos h, if_neg (Int32.not_le.mpr h)]
  · rw [if_neg h, if_pos (Int32.not_lt.mp h)]
theorem s196 (X : im_E) (d : Nat) (k : Int32) (M : im_M) (Q : Option Value → im_M → Prop) : Ev X (d) 196 0 (im_ent 1 [.int k]) [] M Q = Q (some (.int (if k < 4 then 0 else k - 3))) M := by
  show Ev X (d) 196 0 [some (.int k)] [] M Q = _
  simp only [E_iload0 (q := 1) cc_196 dX10_above_0 rfl, E_iconst (q := 2) (x := 4) cc_196 dX10_above_1 rfl rfl, E_icmp_ge (q := 5) (t := 9) cc_196 dX10_above_2 rfl rfl, E_iconst (q := 6) (x := 0) cc_196 dX10_above_5 rfl rfl, E_goto (t := 12) cc_196 dX10_above_6 rfl, E_iload0 (q := 10) cc_196 dX10_above_9 rfl, E_iconst (q := 11) (x := 3) cc_196 dX10_above_10 rfl rfl, E_isub (q := 12) cc_196 dX10_above_11 rfl, E_ireturn cc_196 dX10_above_12 rfl, Option.toList, List.cons_append, List.nil_append, cz_nil, cs_i, cs_r, cs_n, cs_l, az_nil, az_i, az_r, az_n, az_l, cl_i, cl_r, cl_n, cl_0, cl_l, ct_i, ct_r, ct_n, bi_0, bi_n0, bi_nb, isb_0, isb_1, isb_bi, Nat.reduceAdd, Nat.reduceLeDiff, Nat.zero_le, Nat.zero_add, Nat.add_zero]
  by_cases h : k < 4
  · rw [if_pos h, if_neg (Int32.not_le.mpr h)]
  · rw [if_neg h, if_pos (Int32.not_lt.mp h)]
theorem s150 (X : im_E) (d : Nat) (v lo hi : Int64) (M : im_M) (Q : Option Value → im_M → Prop) : Ev X (d) 150 0 (im_ent 6 [.long v, .long lo, .long hi]) [] M Q = Q (some (.int (bi (lo ≤ v ∧ v ≤ hi)))) M := by
  show Ev X (d) 150 0 [some (.long v), none, some (.long lo), none, some (.long hi), none] [] M Q = _
  simp only [E_lload0 (q := 1) cc_150 dX10_in_0 rfl, E_lload2 (q := 2) cc_150 dX10_in_1 rfl, E_lcmp (q := 3) cc_150 dX10_in_2 rfl, E_if_lt (q := 6) (t := 17) cc_150 dX10_in_3 rfl rfl, E_lload0 (q := 7) cc_150 dX10_in_6 rfl, E_lload4 (q := 9) cc_150 dX10_in_7 rfl, E_lcmp (q := 10) cc_150 dX10_in_9 rfl, E_if_gt (q := 13) (t := 17) cc_150 dX10_in_10 rfl rfl, E_iconst (q := 14) (x := 1) cc_150 dX10_in_13 rfl rfl, E_goto (t := 18) cc_150 dX10_in_14 rfl, E_iconst (q := 18) (x := 0) cc_150 dX10_in_17 rfl rfl, E_zret cc_150 dX10_in_18 rfl, Option.toList, List.cons_append, List.nil_append, cz_nil, cs_i, cs_r, cs_n, cs_l, az_nil, az_i, az_r, az_n, az_l, cl_i, cl_r, cl_n, cl_0, cl_l, ct_i, ct_r, ct_n, bi_0, bi_n0, bi_nb, isb_0, isb_1, isb_bi, Nat.reduceAdd, Nat.reduceLeDiff, Nat.zero_le, Nat.zero_add, Nat.add_zero]
  simp only [lg_cmp_lt, lg_cmp_gt]
  by_cases h : v < lo
  · rw [if_pos h, bi_f (fun q => Int64.not_lt.mpr q.1 h)]
  · rw [if_neg h]
    by_cases h2 : hi < v
    · rw [if_pos h2, bi_f (fun q => Int64.not_lt.mpr q.2 h2)]
    · rw [if_neg h2, bi_t ⟨Int64.not_lt.mp h, Int64.not_lt.mp h2⟩]
theorem le64 {x y : Int32} : (x.toInt64 ≤ y.toInt64) = (x ≤ y) := by rw [Int64.le_iff_toInt_le, Int32.le_iff_toInt_le, Int32.toInt_toInt64, Int32.toInt_toInt64]
theorem l64_2 : (2 : Int64) = Int32.toInt64 2 := by decide
theorem l64_3 : (3 : Int64) = Int32.toInt64 3 := by decide
theorem l64_5 : (5 : Int64) = Int32.toInt64 5 := by decide
theorem l64_6 : (6 : Int64) = Int32.toInt64 6 := by decide
theorem l64_7 : (7 : Int64) = Int32.toInt64 7 := by decide
theorem l64_8 : (8 : Int64) = Int32.toInt64 8 := by decide
theorem l64_9 : (9 : Int64) = Int32.toInt64 9 := by decide
theorem l64_12 : (12 : Int64) = Int32.toInt64 12 := by decide
theorem l64_23 : (23 : Int64) = Int32.toInt64 23 := by decide
theorem l64_48 : (48 : Int64) = Int32.toInt64 48 := by decide
theorem l64_57 : (57 : Int64) = Int32.toInt64 57 := by decide
theorem l64_69 : (69 : Int64) = Int32.toInt64 69 := by decide
theorem l64_90 : (90 : Int64) = Int32.toInt64 90 := by decide
theorem l64_99 : (99 : Int64) = Int32.toInt64 99 := by decide
theorem l64_240 : (240 : Int64) = Int32.toInt64 240 := by decide
theorem l64_255 : (255 : Int64) = Int32.toInt64 255 := by decide
theorem l64_600 : (600 : Int64) = Int32.toInt64 600 := by decide
theorem l64_999 : (999 : Int64) = Int32.toInt64 999 := by decide
theorem l64_9999 : (9999 : Int64) = Int32.toInt64 9999 := by decide
theorem l64_99999 : (99999 : Int64) = Int32.toInt64 99999 := by decide
theorem l64_0 : (0 : Int64) = Int32.toInt64 0 := by decide
theorem l64_1 : (1 : Int64) = Int32.toInt64 1 := by decide
/-- l64_2, l64_3, l64_5, l64_6, l64_7, l64_8, l64_9, l64_12, l64_23, l64_48, l64_57, l64_69, l64_90, l64_99, l64_240, l64_255, l64_600, l64_999, l64_9999, l64_99999, l64_0, l64_1 -/
theorem l64 : True := trivial
/-! arrays, their size by name: simp finds it -/
def alen (a : Nat) : Nat := (kd0 a).2
theorem alen_of {a n : Nat} (h : oka a n = true) : alen a = n := by unfold alen; rw [(oka_of h).2]
section E16A
variable {X : im_E} {d i pc q t : Nat} {ls lt : List (Option Value)} {st : List Value} {M : im_M} {σ : Nat → Nat → Int32} {Q : Option Value → im_M → Prop} {c : ByteArray}
theorem E_aldA {a : Nat} {j : Int32} (hc : im_cc i = c) (h : decode c pc = .ok (.iaload, 1)) (hq : q = pc + 1) (ho : oka a (alen a) = true) (hj : inb j (alen a)) : Ev X d i pc ls (.int j :: .ref a :: st) (mem σ) Q = Ev X d i q ls (.int (σ a j.toNatClampNeg) :: st) (mem σ) Q := E_ald hc h hq ho hj
theorem E_astA {a : Nat} {j v : Int32} (hc : im_cc i = c) (h : decode c pc = .ok (.iastore, 1)) (hq : q = pc + 1) (ho : oka a (alen a) = true) (hj : inb j (alen a)) : Ev X d i pc ls (.int v :: .int j :: .ref a :: st) (mem σ) Q = Ev X d i q ls st (mem (up σ a j.toNatClampNeg v)) Q := E_ast hc h hq ho hj
theorem E_alenA {a : Nat} (hc : im_cc i = c) (h : decode c pc = .ok (.arraylength, 1)) (hq : q = pc + 1) (ho : oka a (alen a) = true) : Ev X d i pc ls (.ref a :: st) (mem σ) Q = Ev X d i q ls (.int (Int32.ofNat (alen a)) :: st) (mem σ) Q := E_alen hc h hq ho
theorem E_copyA {a b x k j : Nat} {sp dp n : Int32} (hc : im_cc i = c) (h : decode c pc = .ok (.invokestatic x, 3)) (hq : q = pc + 3) (hl : im_lk (im_ow i) x = some (6, k, j)) (ha : oka a (alen a) = true) (hb : oka b (alen b) = true) (h1 : ¬ sp < 0) (h2 : ¬ dp < 0) (h3 : ¬ n < 0) (h4 : sp.toNatClampNeg + n.toNatClampNeg ≤ alen a) (h5 : dp.toNatClampNeg + n.toNatClampNeg ≤ alen b) (hs : im_csum st ≤ 8) : Ev X d i pc ls (.int n :: .int dp :: .ref b :: .int sp :: .ref a :: st) (mem σ) Q = Ev X d i q ls st (mem (cp σ a b sp.toNatClampNeg dp.toNatClampNeg n.toNatClampNeg)) Q := E_copy hc h hq hl ha hb h1 h2 h3 h4 h5 hs
end E16A
