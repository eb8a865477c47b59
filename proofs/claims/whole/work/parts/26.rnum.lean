/-! THE READER: NUMBERS, CLOSING -/
theorem ti_add {x y : Int32} (h : -2147483648 ≤ x.toInt + y.toInt) (g : x.toInt + y.toInt < 2147483648) : (x + y).toInt = x.toInt + y.toInt := by
  rw [Int32.toInt_add]; exact Int.bmod_eq_of_le (by omega) (by omega)
theorem ti_sub {x y : Int32} (h : -2147483648 ≤ x.toInt - y.toInt) (g : x.toInt - y.toInt < 2147483648) : (x - y).toInt = x.toInt - y.toInt := by
  rw [Int32.toInt_sub]; exact Int.bmod_eq_of_le (by omega) (by omega)
theorem ti_mul {x y : Int32} (h : -2147483648 ≤ x.toInt * y.toInt) (g : x.toInt * y.toInt < 2147483648) : (x * y).toInt = x.toInt * y.toInt := by
  rw [Int32.toInt_mul]; exact Int.bmod_eq_of_le (by omega) (by omega)
/-- up to k digits -/
def nv (B : Nat → Int32) (n : Nat) : Nat → Int32 → Nat → Int32 × Nat
  | 0, v, p => (v, p)
  | k + 1, v, p => if 48 ≤ nx B n p ∧ nx B n p ≤ 57 then nv B n k (v * 10 + nx B n p - 48) (p + 1) else (v, p)
theorem nx_lt {B : Nat → Int32} {n p : Nat} (h : 0 ≤ nx B n p) : p < n := by
  unfold nx at h
  by_cases q : p < n
  · exact q
  · rw [if_neg q] at h; exact absurd h (by decide)
theorem nv_p {B : Nat → Int32} {n : Nat} : ∀ {k : Nat} {v : Int32} {p : Nat}, p ≤ n → p ≤ (nv B n k v p).2 ∧ (nv B n k v p).2 ≤ n
  | 0, v, p, h => ⟨Nat.le_refl _, h⟩
  | k + 1, v, p, h => by
    unfold nv
    split
    · rename_i q
      have z := nx_lt (Int32.le_trans (show (0 : Int32) ≤ 48 by decide) q.1)
      have y := nv_p (B := B) (k := k) (v := v * 10 + nx B n p - 48) (show p + 1 ≤ n by omega)
      exact ⟨by omega, y.2⟩
    · exact ⟨Nat.le_refl _, h⟩
def cap : Nat → Int
  | 4 => 0
  | 3 => 9
  | 2 => 99
  | 1 => 999
  | _ => 9999
theorem dig_step {v b : Int32} {m : Int} (h : 0 ≤ v.toInt) (g : v.toInt ≤ m) (hm : m ≤ 9999) (q : 48 ≤ b ∧ b ≤ 57) : (v * 10 + b - 48).toInt = v.toInt * 10 + b.toInt - 48 ∧ 48 ≤ b.toInt ∧ b.toInt ≤ 57 := by
  have q1 := Int32.le_iff_toInt_le.mp q.1
  have q2 := Int32.le_iff_toInt_le.mp q.2
  have z1 : (48 : Int32).toInt = 48 := rfl
  have z2 : (57 : Int32).toInt = 57 := rfl
  have z3 : (10 : Int32).toInt = 10 := rfl
  have e1 : (v * 10).toInt = v.toInt * 10 := by rw [ti_mul (by rw [z3]; omega) (by rw [z3]; omega), z3]
  have e2 : (v * 10 + b).toInt = v.toInt * 10 + b.toInt := by rw [ti_add (by omega) (by omega), e1]
  rw [ti_sub (by omega) (by omega), e2, z1]
  omega
theorem nv_v {B : Nat → Int32} {n : Nat} : ∀ {k : Nat} {v : Int32} {p : Nat}, k ≤ 4 → 0 ≤ v.toInt → v.toInt ≤ cap k → 0 ≤ (nv B n k v p).1.toInt
  | 0, v, p, _, h, _ => h
  | k + 1, v, p, hk, h, g => by
    unfold nv
    split
    · rename_i q
      have hc : cap (k + 1) ≤ 9999 ∧ cap (k + 1) * 10 + 9 ≤ cap k := by
        rcases (show k = 0 ∨ k = 1 ∨ k = 2 ∨ k = 3 by omega) with rfl | rfl | rfl | rfl <;> decide
      have z := dig_step h g hc.1 q
      exact nv_v (by omega) (by omega) (by omega)
    · exact h
theorem l4_facts : ∀ k : Fin 4, ¬ (4 : Int32) ≤ Int32.ofNat (4 - (k.1 + 1)) ∧ Int32.ofNat (4 - (k.1 + 1)) + 1 = Int32.ofNat (4 - k.1) := by decide

theorem rn_loop (X : im_E) (d : Nat) {B : Nat → Int32} {n u : Nat} (hn : n ≤ 50) : ∀ (k : Nat), k ≤ 4 → ∀ (v : Int32) (p : Nat) (σ : Nat → Nat → Int32) (dr : List Int32), p ≤ n → CR B n u σ p 0 dr → ∃ (τ : Nat → Nat → Int32) (b i : Int32), (∀ Q, Ev X (d + 1 + 1 + 1) 95 9 [some (.ref 79), some (.int v), some (.int (nx B n p)), some (.int (Int32.ofNat (4 - k)))] [] (mem σ) Q = Ev X (d + 1 + 1 + 1) 95 56 [some (.ref 79), some (.int (nv B n k v p).1), some (.int b), some (.int i)] [] (mem τ) Q) ∧ CR B n u τ (nv B n k v p).2 0 dr ∧ CF σ τ
  | 0, _, v, p, σ, dr, hp, h => by
    refine ⟨σ, nx B n p, Int32.ofNat 4, fun Q => ?_, h, CF.refl σ⟩
    have e : (4 : Int32) ≤ Int32.ofNat (4 - 0) := by decide
    conv => lhs; simp only [E_iload3 (q := 10) cc_95 dX3_readNumber_9 rfl, E_iconst (q := 11) (x := 4) cc_95 dX3_readNumber_10 rfl rfl, E_icmp_ge (q := 14) (t := 56) cc_95 dX3_readNumber_11 rfl rfl, Option.toList, List.cons_append, List.nil_append, cz_nil, cs_i, cs_r, cs_n, cs_l, az_nil, az_i, az_r, az_n, az_l, cl_i, cl_r, cl_n, cl_0, cl_l, bi_0, bi_n0, bi_nb, isb_0, isb_1, isb_bi, Nat.reduceAdd, Nat.reduceLeDiff, Nat.zero_le, Nat.zero_add, Nat.add_zero, e, cu_i, cu_r, nz_1, false_and, and_false, true_and, and_true, and_self, Int32.reduceOfInt, Int32.reduceAdd, Int32.reduceSub, Int32.reduceMul, Int32.reduceLT, Int32.reduceLE, nz_2, nz_3, nz_9, nz_10, nz_24, nz_60, not_false_eq_true, not_true_eq_false, if_false, if_true, reduceIte]
    rfl
  | k + 1, hk, v, p, σ, dr, hp, h => by
    have f := l4_facts ⟨k, by omega⟩
    by_cases q : 48 ≤ nx B n p ∧ nx B n p ≤ 57
    · have z := nx_lt (Int32.le_trans (show (0 : Int32) ≤ 48 by decide) q.1)
      obtain ⟨h1, h2, h3, h4, h5, h6, h7, h8, h9⟩ := id h
      have h10 := CR_place h (p + 1)
      obtain ⟨τ, b, i, g1, g2, g3⟩ := rn_loop X d hn k (by omega) (v * 10 + nx B n p - 48) (p + 1) _ dr (by omega) h10
      have e : nv B n (k + 1) v p = nv B n k (v * 10 + nx B n p - 48) (p + 1) := by rw [nv, if_pos q]
      rw [e]
      refine ⟨τ, b, i, fun Q => ?_, g2, CF_79.trans g3⟩
      rw [← g1 Q]
      have hp1 := ofn1 (show p ≤ 50 by omega)
      have hx := s73 X d (show p + 1 ≤ n by omega) hn h10
      have f1 := f.1
      have f2 := f.2
      have z1 : ¬ 4 ≤ Int32.ofNat (4 - (k + 1)) := f1
      conv => lhs; simp only [E_iload3 (q := 10) cc_95 dX3_readNumber_9 rfl, E_iconst (q := 11) (x := 4) cc_95 dX3_readNumber_10 rfl rfl, E_icmp_ge (q := 14) (t := 56) cc_95 dX3_readNumber_11 rfl rfl, Option.toList, List.cons_append, List.nil_append, cz_nil, cs_i, cs_r, cs_n, cs_l, az_nil, az_i, az_r, az_n, az_l, cl_i, cl_r, cl_n, cl_0, cl_l, bi_0, bi_n0, bi_nb, isb_0, isb_1, isb_bi, Nat.reduceAdd, Nat.reduceLeDiff, Nat.zero_le, Nat.zero_add, Nat.add_zero, z1, cu_i, cu_r, nz_1, false_and, and_false, true_and, and_true, and_self, Int32.reduceOfInt, Int32.reduceAdd, Int32.reduceSub, Int32.reduceMul, Int32.reduceLT, Int32.reduceLE, nz_2, nz_3, nz_9, nz_10, nz_24, nz_60, not_false_eq_true, not_true_eq_false, if_false, if_true, reduceIte]
      conv => lhs; simp only [E_iload2 (q := 15) cc_95 dX3_readNumber_14 rfl, E_bipush (q := 17) (x := 48) cc_95 dX3_readNumber_15 rfl rfl, E_bipush (q := 19) (x := 57) cc_95 dX3_readNumber_17 rfl rfl, E_callS3 (q := 22) (j := 11) (mx := 3) cc_95 dX3_readNumber_19 rfl rfl (by decide) (by decide) rfl, E_if_eq (q := 25) (t := 56) cc_95 dX3_readNumber_22 rfl rfl, E_iload1 (q := 26) cc_95 dX3_readNumber_25 rfl, E_bipush (q := 28) (x := 10) cc_95 dX3_readNumber_26 rfl rfl, E_imul (q := 29) cc_95 dX3_readNumber_28 rfl, E_iload2 (q := 30) cc_95 dX3_readNumber_29 rfl, E_iadd (q := 31) cc_95 dX3_readNumber_30 rfl, E_bipush (q := 33) (x := 48) cc_95 dX3_readNumber_31 rfl rfl, E_isub (q := 34) cc_95 dX3_readNumber_33 rfl, E_istore1 (q := 35) cc_95 dX3_readNumber_34 rfl, E_aload0 (q := 36) cc_95 dX3_readNumber_35 rfl, E_aloadN0 (q := 36) cc_95 dX3_readNumber_35 rfl, E_dup (q := 37) cc_95 dX3_readNumber_36 (hq := rfl), E_getI (q := 40) cc_95 dX3_readNumber_37 rfl (by decide) rfl rfl, E_iconst (q := 41) (x := 1) cc_95 dX3_readNumber_40 rfl rfl, E_iadd (q := 42) cc_95 dX3_readNumber_41 rfl, E_putI (q := 45) cc_95 dX3_readNumber_42 rfl rfl rfl (Or.inl rfl), E_aload0 (q := 46) cc_95 dX3_readNumber_45 rfl, E_aloadN0 (q := 46) cc_95 dX3_readNumber_45 rfl, E_cV0 (q := 49) (j := 73) (mx := 1) (ci := 3) cc_95 dX3_readNumber_46 rfl rfl (by decide) rfl rfl, E_istore2 (q := 50) cc_95 dX3_readNumber_49 rfl, E_iinc3 (q := 53) cc_95 dX3_readNumber_50 rfl rfl, E_goto (t := 9) cc_95 dX3_readNumber_53 rfl, Option.toList, List.cons_append, List.nil_append, cz_nil, cs_i, cs_r, cs_n, cs_l, az_nil, az_i, az_r, az_n, az_l, cl_i, cl_r, cl_n, cl_0, cl_l, bi_0, bi_n0, bi_nb, isb_0, isb_1, isb_bi, Nat.reduceAdd, Nat.reduceLeDiff, Nat.zero_le, Nat.zero_add, Nat.add_zero, s11, q, and_self, h3, hp1, hx, f2, r_o79, r_o80, r_a81, r_n81, r_o14, r_a15, r_n15, cu_i, cu_r, nz_1, false_and, and_false, true_and, and_true, and_self, Int32.reduceOfInt, Int32.reduceAdd, Int32.reduceSub, Int32.reduceMul, Int32.reduceLT, Int32.reduceLE, nz_2, nz_3, nz_9, nz_10, nz_24, nz_60, not_false_eq_true, not_true_eq_false, if_false, if_true, reduceIte]
    · refine ⟨σ, nx B n p, Int32.ofNat (4 - (k + 1)), fun Q => ?_, ?_, CF.refl σ⟩
      · have e : nv B n (k + 1) v p = (v, p) := by rw [nv, if_neg q]
        rw [e]
        have z1 : ¬ 4 ≤ Int32.ofNat (4 - (k + 1)) := f.1
        simp only [E_iload3 (q := 10) cc_95 dX3_readNumber_9 rfl, E_iconst (q := 11) (x := 4) cc_95 dX3_readNumber_10 rfl rfl, E_icmp_ge (q := 14) (t := 56) cc_95 dX3_readNumber_11 rfl rfl, E_iload2 (q := 15) cc_95 dX3_readNumber_14 rfl, E_bipush (q := 17) (x := 48) cc_95 dX3_readNumber_15 rfl rfl, E_bipush (q := 19) (x := 57) cc_95 dX3_readNumber_17 rfl rfl, E_callS3 (q := 22) (j := 11) (mx := 3) cc_95 dX3_readNumber_19 rfl rfl (by decide) (by decide) rfl, E_if_eq (q := 25) (t := 56) cc_95 dX3_readNumber_22 rfl rfl, E_iload1 (q := 26) cc_95 dX3_readNumber_25 rfl, E_bipush (q := 28) (x := 10) cc_95 dX3_readNumber_26 rfl rfl, E_imul (q := 29) cc_95 dX3_readNumber_28 rfl, E_iload2 (q := 30) cc_95 dX3_readNumber_29 rfl, E_iadd (q := 31) cc_95 dX3_readNumber_30 rfl, E_bipush (q := 33) (x := 48) cc_95 dX3_readNumber_31 rfl rfl, E_isub (q := 34) cc_95 dX3_readNumber_33 rfl, E_istore1 (q := 35) cc_95 dX3_readNumber_34 rfl, E_aload0 (q := 36) cc_95 dX3_readNumber_35 rfl, E_aloadN0 (q := 36) cc_95 dX3_readNumber_35 rfl, E_dup (q := 37) cc_95 dX3_readNumber_36 (hq := rfl), E_getI (q := 40) cc_95 dX3_readNumber_37 rfl (by decide) rfl rfl, E_iconst (q := 41) (x := 1) cc_95 dX3_readNumber_40 rfl rfl, E_iadd (q := 42) cc_95 dX3_readNumber_41 rfl, E_putI (q := 45) cc_95 dX3_readNumber_42 rfl rfl rfl (Or.inl rfl), E_aload0 (q := 46) cc_95 dX3_readNumber_45 rfl, E_aloadN0 (q := 46) cc_95 dX3_readNumber_45 rfl, E_cV0 (q := 49) (j := 73) (mx := 1) (ci := 3) cc_95 dX3_readNumber_46 rfl rfl (by decide) rfl rfl, E_istore2 (q := 50) cc_95 dX3_readNumber_49 rfl, E_iinc3 (q := 53) cc_95 dX3_readNumber_50 rfl rfl, E_goto (t := 9) cc_95 dX3_readNumber_53 rfl, Option.toList, List.cons_append, List.nil_append, cz_nil, cs_i, cs_r, cs_n, cs_l, az_nil, az_i, az_r, az_n, az_l, cl_i, cl_r, cl_n, cl_0, cl_l, bi_0, bi_n0, bi_nb, isb_0, isb_1, isb_bi, Nat.reduceAdd, Nat.reduceLeDiff, Nat.zero_le, Nat.zero_add, Nat.add_zero, s11, z1, q, cu_i, cu_r, nz_1, false_and, and_false, true_and, and_true, and_self, Int32.reduceOfInt, Int32.reduceAdd, Int32.reduceSub, Int32.reduceMul, Int32.reduceLT, Int32.reduceLE, nz_2, nz_3, nz_9, nz_10, nz_24, nz_60, not_false_eq_true, not_true_eq_false, if_false, if_true, reduceIte]
      · have e : nv B n (k + 1) v p = (v, p) := by rw [nv, if_neg q]
        rw [e]; exact h
theorem s95 (X : im_E) (d : Nat) {B : Nat → Int32} {n u p : Nat} (hn : n ≤ 50) (hp : p ≤ n) {σ : Nat → Nat → Int32} {dr : List Int32} (h : CR B n u σ p 0 dr) (hd : dr.length < 50) : ∃ τ : Nat → Nat → Int32, (∀ Q, Ev X (d + 1 + 1 + 1) 95 0 (im_ent 4 [.ref 79]) [] (mem σ) Q = Q none (mem τ)) ∧ CR B n u τ (nv B n 4 0 p).2 0 (dr ++ [(nv B n 4 0 p).1]) ∧ CF σ τ := by
  obtain ⟨τ, b, i, g1, g2, g3⟩ := rn_loop X d hn 4 (Nat.le_refl _) 0 p σ dr hp h
  obtain ⟨ρ, dr', e1, e2, e3, e4⟩ := s96 X (d + 1 + 1) g2 (nv B n 4 0 p).1
  rw [e4 hd] at e2
  refine ⟨ρ, fun Q => ?_, e2, g3.trans e3⟩
  show Ev X (d + 1 + 1 + 1) 95 0 [some (.ref 79), none, none, none] [] (mem σ) Q = _
  have hx := s73 X d hp hn h
  conv => lhs; simp only [E_iconst (q := 1) (x := 0) cc_95 dX3_readNumber_0 rfl rfl, E_istore1 (q := 2) cc_95 dX3_readNumber_1 rfl, E_aload0 (q := 3) cc_95 dX3_readNumber_2 rfl, E_aloadN0 (q := 3) cc_95 dX3_readNumber_2 rfl, E_cV0 (q := 6) (j := 73) (mx := 1) (ci := 3) cc_95 dX3_readNumber_3 rfl rfl (by decide) rfl rfl, E_istore2 (q := 7) cc_95 dX3_readNumber_6 rfl, E_iconst (q := 8) (x := 0) cc_95 dX3_readNumber_7 rfl rfl, E_istore3 (q := 9) cc_95 dX3_readNumber_8 rfl, Option.toList, List.cons_append, List.nil_append, cz_nil, cs_i, cs_r, cs_n, cs_l, az_nil, az_i, az_r, az_n, az_l, cl_i, cl_r, cl_n, cl_0, cl_l, bi_0, bi_n0, bi_nb, isb_0, isb_1, isb_bi, Nat.reduceAdd, Nat.reduceLeDiff, Nat.zero_le, Nat.zero_add, Nat.add_zero, hx, r_o79, r_o80, r_a81, r_n81, r_o14, r_a15, r_n15, cu_i, cu_r, nz_1, false_and, and_false, true_and, and_true, and_self, Int32.reduceOfInt, Int32.reduceAdd, Int32.reduceSub, Int32.reduceMul, Int32.reduceLT, Int32.reduceLE, nz_2, nz_3, nz_9, nz_10, nz_24, nz_60, not_false_eq_true, not_true_eq_false, if_false, if_true, reduceIte]
  refine (g1 Q).trans ?_
  simp only [E_aload0 (q := 57) cc_95 dX3_readNumber_56 rfl, E_aloadN0 (q := 57) cc_95 dX3_readNumber_56 rfl, E_getP (q := 60) (o := 1) cc_95 dX3_readNumber_57 rfl (by decide) rfl (by decide) rfl, E_iload1 (q := 61) cc_95 dX3_readNumber_60 rfl, E_cV1 (q := 64) (j := 96) (mx := 2) (ci := 1) cc_95 dX3_readNumber_61 rfl rfl (by decide) rfl rfl, E_return cc_95 dX3_readNumber_64 rfl, Option.toList, List.cons_append, List.nil_append, cz_nil, cs_i, cs_r, cs_n, cs_l, az_nil, az_i, az_r, az_n, az_l, cl_i, cl_r, cl_n, cl_0, cl_l, bi_0, bi_n0, bi_nb, isb_0, isb_1, isb_bi, Nat.reduceAdd, Nat.reduceLeDiff, Nat.zero_le, Nat.zero_add, Nat.add_zero, e1, r_o79, r_o80, r_a81, r_n81, r_o14, r_a15, r_n15, cu_i, cu_r, nz_1, false_and, and_false, true_and, and_true, and_self, Int32.reduceOfInt, Int32.reduceAdd, Int32.reduceSub, Int32.reduceMul, Int32.reduceLT, Int32.reduceLE, nz_2, nz_3, nz_9, nz_10, nz_24, nz_60, not_false_eq_true, not_true_eq_false, if_false, if_true, reduceIte]
theorem s97 (X : im_E) (d : Nat) {B : Nat → Int32} {n u p : Nat} (hn : n ≤ 50) (hp : p ≤ n) {σ : Nat → Nat → Int32} {dr : List Int32} (h : CR B n u σ p 0 dr) (Q : Option Value → im_M → Prop) : Ev X (d + 1 + 1 + 1) 97 0 (im_ent 1 [.ref 79]) [] (mem σ) Q = if nx B n p = 41 then Q none (mem (up σ 79 3 (Int32.ofNat (p + 1)))) else Q none (mem (up σ 79 4 1)) := by
  show Ev X (d + 1 + 1 + 1) 97 0 [some (.ref 79)] [] (mem σ) Q = _
  have hx := s73 X d hp hn h
  have hp1 := ofn1 (show p ≤ 50 by omega)
  obtain ⟨h1, h2, h3, h4, h5, h6, h7, h8, h9⟩ := id h
  by_cases q : nx B n p = 41
  · rw [if_pos q]
    simp only [E_aload0 (q := 1) cc_97 dX3_readClosing_0 rfl, E_aloadN0 (q := 1) cc_97 dX3_readClosing_0 rfl, E_cV0 (q := 4) (j := 73) (mx := 1) (ci := 3) cc_97 dX3_readClosing_1 rfl rfl (by decide) rfl rfl, E_bipush (q := 6) (x := 41) cc_97 dX3_readClosing_4 rfl rfl, E_icmp_ne (q := 9) (t := 22) cc_97 dX3_readClosing_6 rfl rfl, E_aload0 (q := 10) cc_97 dX3_readClosing_9 rfl, E_aloadN0 (q := 10) cc_97 dX3_readClosing_9 rfl, E_dup (q := 11) cc_97 dX3_readClosing_10 (hq := rfl), E_getI (q := 14) cc_97 dX3_readClosing_11 rfl (by decide) rfl rfl, E_iconst (q := 15) (x := 1) cc_97 dX3_readClosing_14 rfl rfl, E_iadd (q := 16) cc_97 dX3_readClosing_15 rfl, E_putI (q := 19) cc_97 dX3_readClosing_16 rfl rfl rfl (Or.inl rfl), E_goto (t := 27) cc_97 dX3_readClosing_19 rfl, E_aload0 (q := 23) cc_97 dX3_readClosing_22 rfl, E_aloadN0 (q := 23) cc_97 dX3_readClosing_22 rfl, E_iconst (q := 24) (x := 1) cc_97 dX3_readClosing_23 rfl rfl, E_putZ (q := 27) cc_97 dX3_readClosing_24 rfl rfl rfl rfl, E_return cc_97 dX3_readClosing_27 rfl, Option.toList, List.cons_append, List.nil_append, cz_nil, cs_i, cs_r, cs_n, cs_l, az_nil, az_i, az_r, az_n, az_l, cl_i, cl_r, cl_n, cl_0, cl_l, bi_0, bi_n0, bi_nb, isb_0, isb_1, isb_bi, Nat.reduceAdd, Nat.reduceLeDiff, Nat.zero_le, Nat.zero_add, Nat.add_zero, hx, q, h3, hp1, r_o79, r_o80, r_a81, r_n81, r_o14, r_a15, r_n15, cu_i, cu_r, nz_1, false_and, and_false, true_and, and_true, and_self, Int32.reduceOfInt, Int32.reduceAdd, Int32.reduceSub, Int32.reduceMul, Int32.reduceLT, Int32.reduceLE, nz_2, nz_3, nz_9, nz_10, nz_24, nz_60, not_false_eq_true, not_true_eq_false, if_false, if_true, reduceIte]
  · rw [if_neg q]
    simp only [E_aload0 (q := 1) cc_97 dX3_readClosing_0 rfl, E_aloadN0 (q := 1) cc_97 dX3_readClosing_0 rfl, E_cV0 (q := 4) (j := 73) (mx := 1) (ci := 3) cc_97 dX3_readClosing_1 rfl rfl (by decide) rfl rfl, E_bipush (q := 6) (x := 41) cc_97 dX3_readClosing_4 rfl rfl, E_icmp_ne (q := 9) (t := 22) cc_97 dX3_readClosing_6 rfl rfl, E_aload0 (q := 10) cc_97 dX3_readClosing_9 rfl, E_aloadN0 (q := 10) cc_97 dX3_readClosing_9 rfl, E_dup (q := 11) cc_97 dX3_readClosing_10 (hq := rfl), E_getI (q := 14) cc_97 dX3_readClosing_11 rfl (by decide) rfl rfl, E_iconst (q := 15) (x := 1) cc_97 dX3_readClosing_14 rfl rfl, E_iadd (q := 16) cc_97 dX3_readClosing_15 rfl, E_putI (q := 19) cc_97 dX3_readClosing_16 rfl rfl rfl (Or.inl rfl), E_goto (t := 27) cc_97 dX3_readClosing_19 rfl, E_aload0 (q := 23) cc_97 dX3_readClosing_22 rfl, E_aloadN0 (q := 23) cc_97 dX3_readClosing_22 rfl, E_iconst (q := 24) (x := 1) cc_97 dX3_readClosing_23 rfl rfl, E_putZ (q := 27) cc_97 dX3_readClosing_24 rfl rfl rfl rfl, E_return cc_97 dX3_readClosing_27 rfl, Option.toList, List.cons_append, List.nil_append, cz_nil, cs_i, cs_r, cs_n, cs_l, az_nil, az_i, az_r, az_n, az_l, cl_i, cl_r, cl_n, cl_0, cl_l, bi_0, bi_n0, bi_nb, isb_0, isb_1, isb_bi, Nat.reduceAdd, Nat.reduceLeDiff, Nat.zero_le, Nat.zero_add, Nat.add_zero, hx, q, h3, hp1, r_o79, r_o80, r_a81, r_n81, r_o14, r_a15, r_n15, cu_i, cu_r, nz_1, false_and, and_false, true_and, and_true, and_self, Int32.reduceOfInt, Int32.reduceAdd, Int32.reduceSub, Int32.reduceMul, Int32.reduceLT, Int32.reduceLE, nz_2, nz_3, nz_9, nz_10, nz_24, nz_60, not_false_eq_true, not_true_eq_false, if_false, if_true, reduceIte]
theorem s97f (X : im_E) (d : Nat) {B : Nat → Int32} {n u p : Nat} {σ : Nat → Nat → Int32} {dr : List Int32} (h : CR B n u σ p 1 dr) (Q : Option Value → im_M → Prop) : Ev X (d + 1 + 1 + 1) 97 0 (im_ent 1 [.ref 79]) [] (mem σ) Q = Q none (mem (up σ 79 4 1)) := by
  show Ev X (d + 1 + 1 + 1) 97 0 [some (.ref 79)] [] (mem σ) Q = _
  have hx := s73f X d h
  have hz : ¬ (-1 : Int32) = 41 := by decide
  simp only [E_aload0 (q := 1) cc_97 dX3_readClosing_0 rfl, E_aloadN0 (q := 1) cc_97 dX3_readClosing_0 rfl, E_cV0 (q := 4) (j := 73) (mx := 1) (ci := 3) cc_97 dX3_readClosing_1 rfl rfl (by decide) rfl rfl, E_bipush (q := 6) (x := 41) cc_97 dX3_readClosing_4 rfl rfl, E_icmp_ne (q := 9) (t := 22) cc_97 dX3_readClosing_6 rfl rfl, E_aload0 (q := 10) cc_97 dX3_readClosing_9 rfl, E_aloadN0 (q := 10) cc_97 dX3_readClosing_9 rfl, E_dup (q := 11) cc_97 dX3_readClosing_10 (hq := rfl), E_getI (q := 14) cc_97 dX3_readClosing_11 rfl (by decide) rfl rfl, E_iconst (q := 15) (x := 1) cc_97 dX3_readClosing_14 rfl rfl, E_iadd (q := 16) cc_97 dX3_readClosing_15 rfl, E_putI (q := 19) cc_97 dX3_readClosing_16 rfl rfl rfl (Or.inl rfl), E_goto (t := 27) cc_97 dX3_readClosing_19 rfl, E_aload0 (q := 23) cc_97 dX3_readClosing_22 rfl, E_aloadN0 (q := 23) cc_97 dX3_readClosing_22 rfl, E_iconst (q := 24) (x := 1) cc_97 dX3_readClosing_23 rfl rfl, E_putZ (q := 27) cc_97 dX3_readClosing_24 rfl rfl rfl rfl, E_return cc_97 dX3_readClosing_27 rfl, Option.toList, List.cons_append, List.nil_append, cz_nil, cs_i, cs_r, cs_n, cs_l, az_nil, az_i, az_r, az_n, az_l, cl_i, cl_r, cl_n, cl_0, cl_l, bi_0, bi_n0, bi_nb, isb_0, isb_1, isb_bi, Nat.reduceAdd, Nat.reduceLeDiff, Nat.zero_le, Nat.zero_add, Nat.add_zero, hx, hz, r_o79, r_o80, r_a81, r_n81, r_o14, r_a15, r_n15, cu_i, cu_r, nz_1, false_and, and_false, true_and, and_true, and_self, Int32.reduceOfInt, Int32.reduceAdd, Int32.reduceSub, Int32.reduceMul, Int32.reduceLT, Int32.reduceLE, nz_2, nz_3, nz_9, nz_10, nz_24, nz_60, not_false_eq_true, not_true_eq_false, if_false, if_true, reduceIte]
