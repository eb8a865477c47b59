/-! ODDS, BIDS OF THE HOUR, HARK -/
def wnM (D : Nat → Int32) (n : Nat) : Nat := (D (89 + 2 * n)).toInt.toNat
def dnM (D : Nat → Int32) (n : Nat) : Nat := (D (88 + 2 * n)).toInt.toNat
def odM (D : Nat → Int32) (n : Nat) (part : Int32) : Int32 := if wnM D n = 0 then part else Int32.ofNat ((if part = 0 then wnM D n else wnM D n + dnM D n) / Nat.gcd (wnM D n) (dnM D n))
theorem rg_nat {x : Int32} {m : Int} (h : rg x (0, m)) : x = Int32.ofNat x.toInt.toNat ∧ (x.toInt.toNat : Int) ≤ m := by
  have a : (0 : Int) ≤ x.toInt ∧ x.toInt ≤ m := h
  have c := Int32.toInt_lt x
  exact ⟨i_nat (by omega) (by omega), by omega⟩
theorem bnd_b (H : Int) (n : Nat) (hn : n < 10) : bnd H (88 + 2 * n) = (0, 9999) ∧ bnd H (89 + 2 * n) = (0, 9999) := by
  constructor <;> (unfold bnd; rw [if_neg (by omega), if_neg (by omega), if_neg (by omega), if_pos (by omega)])
theorem V_wn {H : Int} {D : Nat → Int32} {r l : List Int32} (h : V H D r l) {n : Nat} (hn : n < 10) : D (89 + 2 * n) = Int32.ofNat (wnM D n) ∧ wnM D n ≤ 9999 := by
  have e := h.1 (89 + 2 * n)
  rw [(bnd_b H n hn).2] at e
  have f := rg_nat e
  exact ⟨f.1, by have := f.2; unfold wnM; omega⟩
theorem V_dn {H : Int} {D : Nat → Int32} {r l : List Int32} (h : V H D r l) {n : Nat} (hn : n < 10) : D (88 + 2 * n) = Int32.ofNat (dnM D n) ∧ dnM D n ≤ 9999 := by
  have e := h.1 (88 + 2 * n)
  rw [(bnd_b H n hn).1] at e
  have f := rg_nat e
  exact ⟨f.1, by have := f.2; unfold dnM; omega⟩
theorem Rw_dry {σ : Nat → Nat → Int32} {b : Nat} {D : Nat → Int32} (h : Rw σ b D) {n : Nat} (hn : n < 10) : σ (b + 5) n = D (88 + 2 * n) := by
  have e := h (88 + 2 * n) (Or.inl (by omega))
  have z : loc (88 + 2 * n) = (5, n) := by
    unfold loc
    rw [if_neg (by omega), if_neg (by omega), if_neg (by omega), if_pos (by omega)]
    have a : (88 + 2 * n - 88) % 2 = 0 := by omega
    have c : (88 + 2 * n - 88) / 2 = n := by omega
    rw [a, c]
  rw [z] at e
  exact e
theorem Rw_wet {σ : Nat → Nat → Int32} {b : Nat} {D : Nat → Int32} (h : Rw σ b D) {n : Nat} (hn : n < 10) : σ (b + 6) n = D (89 + 2 * n) := by
  have e := h (89 + 2 * n) (Or.inl (by omega))
  have z : loc (89 + 2 * n) = (6, n) := by
    unfold loc
    rw [if_neg (by omega), if_neg (by omega), if_neg (by omega), if_pos (by omega)]
    have a : (89 + 2 * n - 88) % 2 = 1 := by omega
    have c : (89 + 2 * n - 88) / 2 = n := by omega
    rw [a, c]
  rw [z] at e
  exact e
theorem loc_f {p f : Nat} (hp : p < 8) (hf : f < 6) : loc (fx p f) = (18 + p, f) := by
  unfold loc fx
  rw [if_neg (by omega), if_neg (by omega), if_neg (by omega), if_neg (by omega), if_neg (by omega), if_pos (by omega)]
  have a : (114 + 6 * p + f - 114) / 6 = p := by omega
  have c : (114 + 6 * p + f - 114) % 6 = f := by omega
  rw [a, c]
theorem lkd_f {p f : Nat} (hp : p < 8) (hf : f < 6) : lkd (fx p f) := Or.inl (by unfold fx; omega)
theorem Rw_f {σ : Nat → Nat → Int32} {b : Nat} {D : Nat → Int32} (h : Rw σ b D) {p f : Nat} (hp : p < 8) (hf : f < 6) : σ (b + (18 + p)) f = D (fx p f) := by
  have e := h (fx p f) (lkd_f hp hf)
  rw [loc_f hp hf] at e
  exact e
theorem n10_facts : ∀ n : Fin 10, (0 ≤ Int32.ofNat n.1) = True ∧ (Int32.ofNat n.1 ≤ 9) = True ∧ inb (Int32.ofNat n.1) 10 ∧ (Int32.ofNat n.1).toNatClampNeg = n.1 ∧ inb (88 + 2 * Int32.ofNat n.1) 340 ∧ inb (88 + 2 * Int32.ofNat n.1 + 1) 340 ∧ (88 + 2 * Int32.ofNat n.1).toNatClampNeg = 88 + 2 * n.1 ∧ (88 + 2 * Int32.ofNat n.1 + 1).toNatClampNeg = 89 + 2 * n.1 := by unfold inb; decide +kernel
theorem gcd_pos {a b : Nat} (h : 0 < a) : 0 < Nat.gcd a b ∧ Nat.gcd a b ≤ a := ⟨Nat.gcd_pos_of_pos_left b h, Nat.gcd_le_left b h⟩
theorem c51 (X : im_E) (d : Nat) {b : Nat} (hb : WB b) {σ : Nat → Nat → Int32} {D : Nat → Int32} {r l : List Int32} {H : Int} (hW : WW σ b D r l) (hV : V H D r l) {n : Nat} (hn : n < 10) (Q : Option Value → im_M → Prop) : Ev X (d + 1) 51 0 (im_ent 2 [.ref (b + 4), .int (Int32.ofNat n)]) [] (mem σ) Q = Q (some (.int (odM D n 0))) (mem σ) := by
  show Ev X (d + 1) 51 0 [some (.ref (b + 4)), some (.int (Int32.ofNat n))] [] (mem σ) Q = _
  obtain ⟨f1, f2, f3, f4, _⟩ := n10_facts ⟨n, hn⟩
  have w1 := V_wn hV hn
  have w2 := V_dn hV hn
  have w3 : σ (b + 6) n = Int32.ofNat (wnM D n) := by rw [Rw_wet hW.1 hn, w1.1]
  have w4 : σ (b + 5) n = Int32.ofNat (dnM D n) := by rw [Rw_dry hW.1 hn, w2.1]
  have e := s52 X d (Int32.ofNat (wnM D n)) (wnM D n) (dnM D n) (by omega) (by omega) (mem σ)
  have z : odM D n 0 = if Nat.gcd (wnM D n) (dnM D n) = 0 then 0 else Int32.ofNat (wnM D n) / Int32.ofNat (Nat.gcd (wnM D n) (dnM D n)) := by
    unfold odM
    by_cases hw : wnM D n = 0
    · rw [if_pos hw, hw]
      by_cases hg : Nat.gcd 0 (dnM D n) = 0
      · rw [if_pos hg]
      · rw [if_neg hg]
        have hd : Nat.gcd 0 (dnM D n) = dnM D n := Nat.gcd_zero_left _
        rw [dv_N (by decide) (by omega) (by omega), Nat.zero_div]
        rfl
    · have g := gcd_pos (b := dnM D n) (show 0 < wnM D n by omega)
      have hg : ¬ Nat.gcd (wnM D n) (dnM D n) = 0 := by omega
      rw [if_neg hw, if_pos rfl, if_neg hg, dv_N (by omega) (by omega) (by omega)]
  rw [z]
  simp only [E_iload1 (q := 1) cc_51 dX2_above_0 rfl, E_iconst (q := 2) (x := 0) cc_51 dX2_above_1 rfl rfl, E_bipush (q := 4) (x := 9) cc_51 dX2_above_2 rfl rfl, E_callS3 (q := 7) (j := 11) (mx := 3) cc_51 dX2_above_4 rfl rfl (by decide) (by decide) rfl, E_if_eq (q := 10) (t := 34) cc_51 dX2_above_7 rfl rfl, E_aload0 (q := 11) cc_51 dX2_above_10 rfl, E_aloadN0 (q := 11) cc_51 dX2_above_10 rfl, E_getP (q := 14) (o := 2) cc_51 dX2_above_11 rfl (by decide) rfl (by decide) rfl, E_iload1 (q := 15) cc_51 dX2_above_14 rfl, E_aldA (q := 16) cc_51 dX2_above_15 rfl, E_aload0 (q := 17) cc_51 dX2_above_16 rfl, E_aloadN0 (q := 17) cc_51 dX2_above_16 rfl, E_getP (q := 20) (o := 2) cc_51 dX2_above_17 rfl (by decide) rfl (by decide) rfl, E_iload1 (q := 21) cc_51 dX2_above_20 rfl, E_aldA (q := 22) cc_51 dX2_above_21 rfl, E_aload0 (q := 23) cc_51 dX2_above_22 rfl, E_aloadN0 (q := 23) cc_51 dX2_above_22 rfl, E_getP (q := 26) (o := 1) cc_51 dX2_above_23 rfl (by decide) rfl (by decide) rfl, E_iload1 (q := 27) cc_51 dX2_above_26 rfl, E_aldA (q := 28) cc_51 dX2_above_27 rfl, E_callS3 (q := 31) (j := 52) (mx := 7) cc_51 dX2_above_28 rfl rfl (by decide) (by decide) rfl, E_goto (t := 35) cc_51 dX2_above_31 rfl, E_iconst (q := 35) (x := 0) cc_51 dX2_above_34 rfl rfl, E_ireturn cc_51 dX2_above_35 rfl, Option.toList, List.cons_append, List.nil_append, cz_nil, cs_i, cs_r, cs_n, cs_l, az_nil, az_i, az_r, az_n, az_l, cl_i, cl_r, cl_n, cl_0, cl_l, bi_0, bi_n0, bi_nb, isb_0, isb_1, isb_bi, Nat.reduceAdd, Nat.reduceLeDiff, Nat.zero_le, Nat.zero_add, Nat.add_zero, s11, f1, f2, f3, f4, w3, w4, e, cu_i, cu_r, nz_1, false_and, and_false, true_and, and_true, and_self, Int32.reduceOfInt, Int32.reduceAdd, Int32.reduceSub, Int32.reduceMul, Int32.reduceLT, Int32.reduceLE, nz_2, nz_3, nz_9, nz_10, nz_24, nz_60, not_false_eq_true, not_true_eq_false, if_false, if_true, reduceIte, w_o0 hb, w_o1 hb, w_o4 hb, w_o7 hb, w_o10 hb, w_o13 hb, w_a2 hb, w_n2 hb, w_a3 hb, w_n3 hb, w_a5 hb, w_n5 hb, w_a6 hb, w_n6 hb, w_a8 hb, w_n8 hb, w_a9 hb, w_n9 hb, w_a11 hb, w_n11 hb, w_a12 hb, w_n12 hb, w_a14 hb, w_n14 hb, w_a16 hb, w_n16 hb, w_a17 hb, w_n17 hb, Nat.add_assoc]
theorem c53 (X : im_E) (d : Nat) {b : Nat} (hb : WB b) {σ : Nat → Nat → Int32} {D : Nat → Int32} {r l : List Int32} {H : Int} (hW : WW σ b D r l) (hV : V H D r l) {n : Nat} (hn : n < 10) (Q : Option Value → im_M → Prop) : Ev X (d + 1) 53 0 (im_ent 2 [.ref (b + 4), .int (Int32.ofNat n)]) [] (mem σ) Q = Q (some (.int (odM D n 1))) (mem σ) := by
  show Ev X (d + 1) 53 0 [some (.ref (b + 4)), some (.int (Int32.ofNat n))] [] (mem σ) Q = _
  obtain ⟨f1, f2, f3, f4, _⟩ := n10_facts ⟨n, hn⟩
  have w1 := V_wn hV hn
  have w2 := V_dn hV hn
  have w3 : σ (b + 6) n = Int32.ofNat (wnM D n) := by rw [Rw_wet hW.1 hn, w1.1]
  have w4 : σ (b + 5) n = Int32.ofNat (dnM D n) := by rw [Rw_dry hW.1 hn, w2.1]
  have e := s52 X d (Int32.ofNat (wnM D n + dnM D n)) (wnM D n) (dnM D n) (by omega) (by omega) (mem σ)
  have ea : Int32.ofNat (wnM D n) + Int32.ofNat (dnM D n) = Int32.ofNat (wnM D n + dnM D n) := add_N
  have z : odM D n 1 = mx 1 (if Nat.gcd (wnM D n) (dnM D n) = 0 then 0 else Int32.ofNat (wnM D n + dnM D n) / Int32.ofNat (Nat.gcd (wnM D n) (dnM D n))) := by
    unfold odM
    by_cases hw : wnM D n = 0
    · rw [if_pos hw, hw, Nat.zero_add]
      have hd : Nat.gcd 0 (dnM D n) = dnM D n := Nat.gcd_zero_left _
      rw [hd]
      by_cases hg : dnM D n = 0
      · rw [if_pos hg]; decide
      · rw [if_neg hg, dv_N (by omega) (by omega) (by omega), Nat.div_self (by omega)]; decide
    · have g := gcd_pos (b := dnM D n) (show 0 < wnM D n by omega)
      have k : 1 ≤ (wnM D n + dnM D n) / Nat.gcd (wnM D n) (dnM D n) := Nat.div_pos (by omega) g.1
      have k2 : (wnM D n + dnM D n) / Nat.gcd (wnM D n) (dnM D n) ≤ wnM D n + dnM D n := Nat.div_le_self _ _
      have hg : ¬ Nat.gcd (wnM D n) (dnM D n) = 0 := by omega
      rw [if_neg hw, if_neg (show ¬ (1 : Int32) = 0 by decide), if_neg hg, dv_N (by omega) (by omega) (by omega)]
      unfold mx
      by_cases q : Int32.ofNat ((wnM D n + dnM D n) / Nat.gcd (wnM D n) (dnM D n)) ≤ 1
      · rw [if_pos q]
        have q2 := (le_N (b := 1) (by omega) (by decide)).mp q
        have q3 : (wnM D n + dnM D n) / Nat.gcd (wnM D n) (dnM D n) = 1 := by omega
        rw [q3]; rfl
      · rw [if_neg q]
  rw [z]
  simp only [E_iload1 (q := 1) cc_53 dX2_below_0 rfl, E_iconst (q := 2) (x := 0) cc_53 dX2_below_1 rfl rfl, E_bipush (q := 4) (x := 9) cc_53 dX2_below_2 rfl rfl, E_callS3 (q := 7) (j := 11) (mx := 3) cc_53 dX2_below_4 rfl rfl (by decide) (by decide) rfl, E_if_eq (q := 10) (t := 45) cc_53 dX2_below_7 rfl rfl, E_iconst (q := 11) (x := 1) cc_53 dX2_below_10 rfl rfl, E_aload0 (q := 12) cc_53 dX2_below_11 rfl, E_aloadN0 (q := 12) cc_53 dX2_below_11 rfl, E_getP (q := 15) (o := 2) cc_53 dX2_below_12 rfl (by decide) rfl (by decide) rfl, E_iload1 (q := 16) cc_53 dX2_below_15 rfl, E_aldA (q := 17) cc_53 dX2_below_16 rfl, E_aload0 (q := 18) cc_53 dX2_below_17 rfl, E_aloadN0 (q := 18) cc_53 dX2_below_17 rfl, E_getP (q := 21) (o := 1) cc_53 dX2_below_18 rfl (by decide) rfl (by decide) rfl, E_iload1 (q := 22) cc_53 dX2_below_21 rfl, E_aldA (q := 23) cc_53 dX2_below_22 rfl, E_iadd (q := 24) cc_53 dX2_below_23 rfl, E_aload0 (q := 25) cc_53 dX2_below_24 rfl, E_aloadN0 (q := 25) cc_53 dX2_below_24 rfl, E_getP (q := 28) (o := 2) cc_53 dX2_below_25 rfl (by decide) rfl (by decide) rfl, E_iload1 (q := 29) cc_53 dX2_below_28 rfl, E_aldA (q := 30) cc_53 dX2_below_29 rfl, E_aload0 (q := 31) cc_53 dX2_below_30 rfl, E_aloadN0 (q := 31) cc_53 dX2_below_30 rfl, E_getP (q := 34) (o := 1) cc_53 dX2_below_31 rfl (by decide) rfl (by decide) rfl, E_iload1 (q := 35) cc_53 dX2_below_34 rfl, E_aldA (q := 36) cc_53 dX2_below_35 rfl, E_callS3 (q := 39) (j := 52) (mx := 7) cc_53 dX2_below_36 rfl rfl (by decide) (by decide) rfl, E_callS2 (q := 42) (j := 26) (mx := 2) cc_53 dX2_below_39 rfl rfl (by decide) (by decide) rfl, E_goto (t := 46) cc_53 dX2_below_42 rfl, E_iconst (q := 46) (x := 1) cc_53 dX2_below_45 rfl rfl, E_ireturn cc_53 dX2_below_46 rfl, Option.toList, List.cons_append, List.nil_append, cz_nil, cs_i, cs_r, cs_n, cs_l, az_nil, az_i, az_r, az_n, az_l, cl_i, cl_r, cl_n, cl_0, cl_l, bi_0, bi_n0, bi_nb, isb_0, isb_1, isb_bi, Nat.reduceAdd, Nat.reduceLeDiff, Nat.zero_le, Nat.zero_add, Nat.add_zero, s11, f1, f2, f3, f4, w3, w4, ea, e, s26, cu_i, cu_r, nz_1, false_and, and_false, true_and, and_true, and_self, Int32.reduceOfInt, Int32.reduceAdd, Int32.reduceSub, Int32.reduceMul, Int32.reduceLT, Int32.reduceLE, nz_2, nz_3, nz_9, nz_10, nz_24, nz_60, not_false_eq_true, not_true_eq_false, if_false, if_true, reduceIte, w_o0 hb, w_o1 hb, w_o4 hb, w_o7 hb, w_o10 hb, w_o13 hb, w_a2 hb, w_n2 hb, w_a3 hb, w_n3 hb, w_a5 hb, w_n5 hb, w_a6 hb, w_n6 hb, w_a8 hb, w_n8 hb, w_a9 hb, w_n9 hb, w_a11 hb, w_n11 hb, w_a12 hb, w_n12 hb, w_a14 hb, w_n14 hb, w_a16 hb, w_n16 hb, w_a17 hb, w_n17 hb, Nat.add_assoc]
theorem od_nz {D : Nat → Int32} {H : Int} {r l : List Int32} (hV : V H D r l) {n : Nat} (hn : n < 10) : ¬ odM D n 1 = 0 := by
  have w1 := (V_wn hV hn).2
  have w2 := (V_dn hV hn).2
  unfold odM
  by_cases hw : wnM D n = 0
  · rw [if_pos hw]; decide
  · have g := gcd_pos (b := dnM D n) (show 0 < wnM D n by omega)
    have k : 1 ≤ (wnM D n + dnM D n) / Nat.gcd (wnM D n) (dnM D n) := Nat.div_pos (by omega) g.1
    have k2 : (wnM D n + dnM D n) / Nat.gcd (wnM D n) (dnM D n) ≤ wnM D n + dnM D n := Nat.div_le_self _ _
    rw [if_neg hw, if_neg (by decide)]
    exact (le0_N k (by omega)).2
theorem m190 (X : im_E) (d : Nat) {σ : Nat → Nat → Int32} {r l : List Int32} {H : Int} (hV : V H (σ 96) r l) {n : Nat} (hn : n < 10) (pt : Int32) (Q : Option Value → im_M → Prop) : Ev X (d + 1) 190 0 (im_ent 5 [.ref 95, .int (Int32.ofNat n), .int pt]) [] (mem σ) Q = Q (some (.int (odM (σ 96) n pt))) (mem σ) := by
  show Ev X (d + 1) 190 0 [some (.ref 95), some (.int (Int32.ofNat n)), some (.int pt), none, none] [] (mem σ) Q = _
  obtain ⟨_, _, _, _, f5, f6, f7, f8⟩ := n10_facts ⟨n, hn⟩
  have w1 := V_wn hV hn
  have w2 := V_dn hV hn
  have w3 := w1.1
  have w4 := w2.1
  have ea : Int32.ofNat (dnM (σ 96) n) + Int32.ofNat (wnM (σ 96) n) = Int32.ofNat (dnM (σ 96) n + wnM (σ 96) n) := add_N
  unfold odM
  by_cases hw : wnM (σ 96) n = 0
  · rw [if_pos hw]
    rw [hw] at w3 ea
    have z0 : (Int32.ofNat 0 = 0) = True := by decide
    simp only [E_aload0 (q := 1) cc_190 dX10_oddsOf_0 rfl, E_aloadN0 (q := 1) cc_190 dX10_oddsOf_0 rfl, E_getP (q := 4) (o := 1) cc_190 dX10_oddsOf_1 rfl (by decide) rfl (by decide) rfl, E_bipush (q := 6) (x := 88) cc_190 dX10_oddsOf_4 rfl rfl, E_iconst (q := 7) (x := 2) cc_190 dX10_oddsOf_6 rfl rfl, E_iload1 (q := 8) cc_190 dX10_oddsOf_7 rfl, E_imul (q := 9) cc_190 dX10_oddsOf_8 rfl, E_iadd (q := 10) cc_190 dX10_oddsOf_9 rfl, E_iconst (q := 11) (x := 1) cc_190 dX10_oddsOf_10 rfl rfl, E_iadd (q := 12) cc_190 dX10_oddsOf_11 rfl, E_aldA (q := 13) cc_190 dX10_oddsOf_12 rfl, E_istore3 (q := 14) cc_190 dX10_oddsOf_13 rfl, E_aload0 (q := 15) cc_190 dX10_oddsOf_14 rfl, E_aloadN0 (q := 15) cc_190 dX10_oddsOf_14 rfl, E_getP (q := 18) (o := 1) cc_190 dX10_oddsOf_15 rfl (by decide) rfl (by decide) rfl, E_bipush (q := 20) (x := 88) cc_190 dX10_oddsOf_18 rfl rfl, E_iconst (q := 21) (x := 2) cc_190 dX10_oddsOf_20 rfl rfl, E_iload1 (q := 22) cc_190 dX10_oddsOf_21 rfl, E_imul (q := 23) cc_190 dX10_oddsOf_22 rfl, E_iadd (q := 24) cc_190 dX10_oddsOf_23 rfl, E_aldA (q := 25) cc_190 dX10_oddsOf_24 rfl, E_iload3 (q := 26) cc_190 dX10_oddsOf_25 rfl, E_iadd (q := 27) cc_190 dX10_oddsOf_26 rfl, E_istore4 (q := 29) cc_190 dX10_oddsOf_27 rfl, E_iload3 (q := 30) cc_190 dX10_oddsOf_29 rfl, E_if_ne (q := 33) (t := 35) cc_190 dX10_oddsOf_30 rfl rfl, E_iload2 (q := 34) cc_190 dX10_oddsOf_33 rfl, E_ireturn cc_190 dX10_oddsOf_34 rfl, E_iload2 (q := 36) cc_190 dX10_oddsOf_35 rfl, E_if_ne (q := 39) (t := 43) cc_190 dX10_oddsOf_36 rfl rfl, E_iload3 (q := 40) cc_190 dX10_oddsOf_39 rfl, E_goto (t := 45) cc_190 dX10_oddsOf_40 rfl, E_iload4 (q := 45) cc_190 dX10_oddsOf_43 rfl, E_iload3 (q := 46) cc_190 dX10_oddsOf_45 rfl, E_iload4 (q := 48) cc_190 dX10_oddsOf_46 rfl, E_callS2 (q := 51) (j := 191) (mx := 5) cc_190 dX10_oddsOf_48 rfl rfl (by decide) (by decide) rfl, E_idiv (q := 52) cc_190 dX10_oddsOf_51 (hq := rfl), E_ireturn cc_190 dX10_oddsOf_52 rfl, Option.toList, List.cons_append, List.nil_append, cz_nil, cs_i, cs_r, cs_n, cs_l, az_nil, az_i, az_r, az_n, az_l, cl_i, cl_r, cl_n, cl_0, cl_l, bi_0, bi_n0, bi_nb, isb_0, isb_1, isb_bi, Nat.reduceAdd, Nat.reduceLeDiff, Nat.zero_le, Nat.zero_add, Nat.add_zero, f5, f6, f7, f8, w3, w4, ea, z0, cu_i, cu_r, nz_1, false_and, and_false, true_and, and_true, and_self, Int32.reduceOfInt, Int32.reduceAdd, Int32.reduceSub, Int32.reduceMul, Int32.reduceLT, Int32.reduceLE, nz_2, nz_3, nz_9, nz_10, nz_24, nz_60, not_false_eq_true, not_true_eq_false, if_false, if_true, reduceIte, inb_340_0, inb_340_1, inb_340_2, inb_340_3, inb_340_4, inb_340_5, inb_340_6, inb_340_7, inb_340_8, inb_340_9, inb_340_10, inb_340_11, inb_340_12, inb_340_13, inb_340_14, inb_340_15, t0, t1, t2, t3, t4, t5, t6, t7, t8, t9, t10, t11, t12, t13, t14, t15, m_o, m_a96, m_n96, m_a97, m_n97, m_a98, m_n98, m_a99, m_n99, m_a100, m_n100, m_a101, m_n101, m_a102, m_n102, m_a103, m_n103, m_a104, m_n104, m_a105, m_n105]
  · have g := gcd_pos (b := dnM (σ 96) n) (show 0 < wnM (σ 96) n by omega)
    have z0 := (le0_N (show 0 < wnM (σ 96) n by omega) (by omega)).2
    have e := s191 X d (wnM (σ 96) n) (dnM (σ 96) n + wnM (σ 96) n) (by omega) (by omega) (mem σ)
    have g2 : Nat.gcd (wnM (σ 96) n) (dnM (σ 96) n + wnM (σ 96) n) = Nat.gcd (wnM (σ 96) n) (dnM (σ 96) n) := Nat.gcd_add_self_right _ _
    rw [g2] at e
    have g3 := (le0_N g.1 (by omega)).2
    rw [if_neg hw]
    by_cases hp : pt = 0
    · have e5 := dv_N (a := wnM (σ 96) n) (b := Nat.gcd (wnM (σ 96) n) (dnM (σ 96) n)) (by omega) (by omega) (by omega)
      rw [if_pos hp]
      simp only [E_aload0 (q := 1) cc_190 dX10_oddsOf_0 rfl, E_aloadN0 (q := 1) cc_190 dX10_oddsOf_0 rfl, E_getP (q := 4) (o := 1) cc_190 dX10_oddsOf_1 rfl (by decide) rfl (by decide) rfl, E_bipush (q := 6) (x := 88) cc_190 dX10_oddsOf_4 rfl rfl, E_iconst (q := 7) (x := 2) cc_190 dX10_oddsOf_6 rfl rfl, E_iload1 (q := 8) cc_190 dX10_oddsOf_7 rfl, E_imul (q := 9) cc_190 dX10_oddsOf_8 rfl, E_iadd (q := 10) cc_190 dX10_oddsOf_9 rfl, E_iconst (q := 11) (x := 1) cc_190 dX10_oddsOf_10 rfl rfl, E_iadd (q := 12) cc_190 dX10_oddsOf_11 rfl, E_aldA (q := 13) cc_190 dX10_oddsOf_12 rfl, E_istore3 (q := 14) cc_190 dX10_oddsOf_13 rfl, E_aload0 (q := 15) cc_190 dX10_oddsOf_14 rfl, E_aloadN0 (q := 15) cc_190 dX10_oddsOf_14 rfl, E_getP (q := 18) (o := 1) cc_190 dX10_oddsOf_15 rfl (by decide) rfl (by decide) rfl, E_bipush (q := 20) (x := 88) cc_190 dX10_oddsOf_18 rfl rfl, E_iconst (q := 21) (x := 2) cc_190 dX10_oddsOf_20 rfl rfl, E_iload1 (q := 22) cc_190 dX10_oddsOf_21 rfl, E_imul (q := 23) cc_190 dX10_oddsOf_22 rfl, E_iadd (q := 24) cc_190 dX10_oddsOf_23 rfl, E_aldA (q := 25) cc_190 dX10_oddsOf_24 rfl, E_iload3 (q := 26) cc_190 dX10_oddsOf_25 rfl, E_iadd (q := 27) cc_190 dX10_oddsOf_26 rfl, E_istore4 (q := 29) cc_190 dX10_oddsOf_27 rfl, E_iload3 (q := 30) cc_190 dX10_oddsOf_29 rfl, E_if_ne (q := 33) (t := 35) cc_190 dX10_oddsOf_30 rfl rfl, E_iload2 (q := 34) cc_190 dX10_oddsOf_33 rfl, E_ireturn cc_190 dX10_oddsOf_34 rfl, E_iload2 (q := 36) cc_190 dX10_oddsOf_35 rfl, E_if_ne (q := 39) (t := 43) cc_190 dX10_oddsOf_36 rfl rfl, E_iload3 (q := 40) cc_190 dX10_oddsOf_39 rfl, E_goto (t := 45) cc_190 dX10_oddsOf_40 rfl, E_iload4 (q := 45) cc_190 dX10_oddsOf_43 rfl, E_iload3 (q := 46) cc_190 dX10_oddsOf_45 rfl, E_iload4 (q := 48) cc_190 dX10_oddsOf_46 rfl, E_callS2 (q := 51) (j := 191) (mx := 5) cc_190 dX10_oddsOf_48 rfl rfl (by decide) (by decide) rfl, E_idiv (q := 52) cc_190 dX10_oddsOf_51 (hq := rfl), E_ireturn cc_190 dX10_oddsOf_52 rfl, Option.toList, List.cons_append, List.nil_append, cz_nil, cs_i, cs_r, cs_n, cs_l, az_nil, az_i, az_r, az_n, az_l, cl_i, cl_r, cl_n, cl_0, cl_l, bi_0, bi_n0, bi_nb, isb_0, isb_1, isb_bi, Nat.reduceAdd, Nat.reduceLeDiff, Nat.zero_le, Nat.zero_add, Nat.add_zero, f5, f6, f7, f8, w3, w4, ea, z0, e, e5, g3, hp, cu_i, cu_r, nz_1, false_and, and_false, true_and, and_true, and_self, Int32.reduceOfInt, Int32.reduceAdd, Int32.reduceSub, Int32.reduceMul, Int32.reduceLT, Int32.reduceLE, nz_2, nz_3, nz_9, nz_10, nz_24, nz_60, not_false_eq_true, not_true_eq_false, if_false, if_true, reduceIte, inb_340_0, inb_340_1, inb_340_2, inb_340_3, inb_340_4, inb_340_5, inb_340_6, inb_340_7, inb_340_8, inb_340_9, inb_340_10, inb_340_11, inb_340_12, inb_340_13, inb_340_14, inb_340_15, t0, t1, t2, t3, t4, t5, t6, t7, t8, t9, t10, t11, t12, t13, t14, t15, m_o, m_a96, m_n96, m_a97, m_n97, m_a98, m_n98, m_a99, m_n99, m_a100, m_n100, m_a101, m_n101, m_a102, m_n102, m_a103, m_n103, m_a104, m_n104, m_a105, m_n105]
    · have e5 := dv_N (a := dnM (σ 96) n + wnM (σ 96) n) (b := Nat.gcd (wnM (σ 96) n) (dnM (σ 96) n)) (by omega) (by omega) (by omega)
      rw [if_neg hp, Nat.add_comm (wnM (σ 96) n) (dnM (σ 96) n)]
      simp only [E_aload0 (q := 1) cc_190 dX10_oddsOf_0 rfl, E_aloadN0 (q := 1) cc_190 dX10_oddsOf_0 rfl, E_getP (q := 4) (o := 1) cc_190 dX10_oddsOf_1 rfl (by decide) rfl (by decide) rfl, E_bipush (q := 6) (x := 88) cc_190 dX10_oddsOf_4 rfl rfl, E_iconst (q := 7) (x := 2) cc_190 dX10_oddsOf_6 rfl rfl, E_iload1 (q := 8) cc_190 dX10_oddsOf_7 rfl, E_imul (q := 9) cc_190 dX10_oddsOf_8 rfl, E_iadd (q := 10) cc_190 dX10_oddsOf_9 rfl, E_iconst (q := 11) (x := 1) cc_190 dX10_oddsOf_10 rfl rfl, E_iadd (q := 12) cc_190 dX10_oddsOf_11 rfl, E_aldA (q := 13) cc_190 dX10_oddsOf_12 rfl, E_istore3 (q := 14) cc_190 dX10_oddsOf_13 rfl, E_aload0 (q := 15) cc_190 dX10_oddsOf_14 rfl, E_aloadN0 (q := 15) cc_190 dX10_oddsOf_14 rfl, E_getP (q := 18) (o := 1) cc_190 dX10_oddsOf_15 rfl (by decide) rfl (by decide) rfl, E_bipush (q := 20) (x := 88) cc_190 dX10_oddsOf_18 rfl rfl, E_iconst (q := 21) (x := 2) cc_190 dX10_oddsOf_20 rfl rfl, E_iload1 (q := 22) cc_190 dX10_oddsOf_21 rfl, E_imul (q := 23) cc_190 dX10_oddsOf_22 rfl, E_iadd (q := 24) cc_190 dX10_oddsOf_23 rfl, E_aldA (q := 25) cc_190 dX10_oddsOf_24 rfl, E_iload3 (q := 26) cc_190 dX10_oddsOf_25 rfl, E_iadd (q := 27) cc_190 dX10_oddsOf_26 rfl, E_istore4 (q := 29) cc_190 dX10_oddsOf_27 rfl, E_iload3 (q := 30) cc_190 dX10_oddsOf_29 rfl, E_if_ne (q := 33) (t := 35) cc_190 dX10_oddsOf_30 rfl rfl, E_iload2 (q := 34) cc_190 dX10_oddsOf_33 rfl, E_ireturn cc_190 dX10_oddsOf_34 rfl, E_iload2 (q := 36) cc_190 dX10_oddsOf_35 rfl, E_if_ne (q := 39) (t := 43) cc_190 dX10_oddsOf_36 rfl rfl, E_iload3 (q := 40) cc_190 dX10_oddsOf_39 rfl, E_goto (t := 45) cc_190 dX10_oddsOf_40 rfl, E_iload4 (q := 45) cc_190 dX10_oddsOf_43 rfl, E_iload3 (q := 46) cc_190 dX10_oddsOf_45 rfl, E_iload4 (q := 48) cc_190 dX10_oddsOf_46 rfl, E_callS2 (q := 51) (j := 191) (mx := 5) cc_190 dX10_oddsOf_48 rfl rfl (by decide) (by decide) rfl, E_idiv (q := 52) cc_190 dX10_oddsOf_51 (hq := rfl), E_ireturn cc_190 dX10_oddsOf_52 rfl, Option.toList, List.cons_append, List.nil_append, cz_nil, cs_i, cs_r, cs_n, cs_l, az_nil, az_i, az_r, az_n, az_l, cl_i, cl_r, cl_n, cl_0, cl_l, bi_0, bi_n0, bi_nb, isb_0, isb_1, isb_bi, Nat.reduceAdd, Nat.reduceLeDiff, Nat.zero_le, Nat.zero_add, Nat.add_zero, f5, f6, f7, f8, w3, w4, ea, z0, e, e5, g3, hp, cu_i, cu_r, nz_1, false_and, and_false, true_and, and_true, and_self, Int32.reduceOfInt, Int32.reduceAdd, Int32.reduceSub, Int32.reduceMul, Int32.reduceLT, Int32.reduceLE, nz_2, nz_3, nz_9, nz_10, nz_24, nz_60, not_false_eq_true, not_true_eq_false, if_false, if_true, reduceIte, inb_340_0, inb_340_1, inb_340_2, inb_340_3, inb_340_4, inb_340_5, inb_340_6, inb_340_7, inb_340_8, inb_340_9, inb_340_10, inb_340_11, inb_340_12, inb_340_13, inb_340_14, inb_340_15, t0, t1, t2, t3, t4, t5, t6, t7, t8, t9, t10, t11, t12, t13, t14, t15, m_o, m_a96, m_n96, m_a97, m_n97, m_a98, m_n98, m_a99, m_n99, m_a100, m_n100, m_a101, m_n101, m_a102, m_n102, m_a103, m_n103, m_a104, m_n104, m_a105, m_n105]
def pnM (D : Nat → Int32) : Nat := (D 10).toInt.toNat
theorem V_pn {H : Int} {D : Nat → Int32} {r l : List Int32} (h : V H D r l) : D 10 = Int32.ofNat (pnM D) ∧ pnM D < 10 := by
  have e := h.1 10
  have f := rg_nat (m := 9) e
  exact ⟨f.1, by have := f.2; unfold pnM; omega⟩
def bnM (D : Nat → Int32) (p : Nat) : Int32 := bdf (D (fx p 0)) (D (fx p 1)) (D (fx p 3)) (odM D (pnM D) 0) (odM D (pnM D) 1)
theorem w_f {b p : Nat} (hb : WB b) (hp : p < 8) : okc (b + (18 + p)) 0 = true := by
  rcases hb with rfl | rfl | rfl <;> rcases (show p = 0 ∨ p = 1 ∨ p = 2 ∨ p = 3 ∨ p = 4 ∨ p = 5 ∨ p = 6 ∨ p = 7 by omega) with rfl | rfl | rfl | rfl | rfl | rfl | rfl | rfl <;> decide
theorem c50 (X : im_E) (d : Nat) {b : Nat} (hb : WB b) {σ : Nat → Nat → Int32} {D : Nat → Int32} {r l : List Int32} {H : Int} (hW : WW σ b D r l) (hV : V H D r l) {p : Nat} (hp : p < 8) (Q : Option Value → im_M → Prop) : Ev X (d + 1 + 1 + 1) 50 0 (im_ent 2 [.ref b, .ref (b + (18 + p))]) [] (mem σ) Q = Q (some (.int (bnM D p))) (mem σ) := by
  show Ev X (d + 1 + 1 + 1) 50 0 [some (.ref b), some (.ref (b + (18 + p)))] [] (mem σ) Q = _
  have v := V_pn hV
  have v1 : σ (b + 4) 2 = Int32.ofNat (pnM D) := by rw [Rw_10 hW.1, v.1]
  have e1 := c51 X (d + 1) hb hW hV v.2
  have e2 := c53 X (d + 1) hb hW hV v.2
  have k0 := Rw_f hW.1 hp (f := 0) (by decide)
  have k1 := Rw_f hW.1 hp (f := 1) (by decide)
  have k3 := Rw_f hW.1 hp (f := 3) (by decide)
  have e3 := s54 X d (w_f hb hp) (odM D (pnM D) 0) (odM D (pnM D) 1) (od_nz hV v.2) σ (by rw [k0]; exact V_k hV hp)
  rw [k0, k1, k3] at e3
  have hf := w_f hb hp
  unfold bnM
  simp only [E_aload1 (q := 1) cc_50 dX8_bidNow_0 rfl, E_aloadN1 (q := 1) cc_50 dX8_bidNow_0 rfl, E_aload0 (q := 2) cc_50 dX8_bidNow_1 rfl, E_aloadN0 (q := 2) cc_50 dX8_bidNow_1 rfl, E_getP (q := 5) (o := 4) cc_50 dX8_bidNow_2 rfl (by decide) rfl (by decide) rfl, E_aload0 (q := 6) cc_50 dX8_bidNow_5 rfl, E_aloadN0 (q := 6) cc_50 dX8_bidNow_5 rfl, E_getP (q := 9) (o := 4) cc_50 dX8_bidNow_6 rfl (by decide) rfl (by decide) rfl, E_getI (q := 12) cc_50 dX8_bidNow_9 rfl (by decide) rfl rfl, E_cV1 (q := 15) (j := 51) (mx := 2) (ci := 2) cc_50 dX8_bidNow_12 rfl rfl (by decide) rfl rfl, E_aload0 (q := 16) cc_50 dX8_bidNow_15 rfl, E_aloadN0 (q := 16) cc_50 dX8_bidNow_15 rfl, E_getP (q := 19) (o := 4) cc_50 dX8_bidNow_16 rfl (by decide) rfl (by decide) rfl, E_aload0 (q := 20) cc_50 dX8_bidNow_19 rfl, E_aloadN0 (q := 20) cc_50 dX8_bidNow_19 rfl, E_getP (q := 23) (o := 4) cc_50 dX8_bidNow_20 rfl (by decide) rfl (by decide) rfl, E_getI (q := 26) cc_50 dX8_bidNow_23 rfl (by decide) rfl rfl, E_cV1 (q := 29) (j := 53) (mx := 2) (ci := 2) cc_50 dX8_bidNow_26 rfl rfl (by decide) rfl rfl, E_cV2 (q := 32) (j := 54) (mx := 4) (ci := 0) cc_50 dX8_bidNow_29 rfl rfl (by decide) rfl rfl, E_ireturn cc_50 dX8_bidNow_32 rfl, Option.toList, List.cons_append, List.nil_append, cz_nil, cs_i, cs_r, cs_n, cs_l, az_nil, az_i, az_r, az_n, az_l, cl_i, cl_r, cl_n, cl_0, cl_l, bi_0, bi_n0, bi_nb, isb_0, isb_1, isb_bi, Nat.reduceAdd, Nat.reduceLeDiff, Nat.zero_le, Nat.zero_add, Nat.add_zero, v1, e1, e2, e3, hf, cu_i, cu_r, nz_1, false_and, and_false, true_and, and_true, and_self, Int32.reduceOfInt, Int32.reduceAdd, Int32.reduceSub, Int32.reduceMul, Int32.reduceLT, Int32.reduceLE, nz_2, nz_3, nz_9, nz_10, nz_24, nz_60, not_false_eq_true, not_true_eq_false, if_false, if_true, reduceIte, w_o0 hb, w_o1 hb, w_o4 hb, w_o7 hb, w_o10 hb, w_o13 hb, w_a2 hb, w_n2 hb, w_a3 hb, w_n3 hb, w_a5 hb, w_n5 hb, w_a6 hb, w_n6 hb, w_a8 hb, w_n8 hb, w_a9 hb, w_n9 hb, w_a11 hb, w_n11 hb, w_a12 hb, w_n12 hb, w_a14 hb, w_n14 hb, w_a16 hb, w_n16 hb, w_a17 hb, w_n17 hb, Nat.add_assoc]
theorem m189 (X : im_E) (d : Nat) {σ : Nat → Nat → Int32} {r l : List Int32} {H : Int} (hV : V H (σ 96) r l) {p : Nat} (hp : p < 8) (Q : Option Value → im_M → Prop) : Ev X (d + 1 + 1) 189 0 (im_ent 2 [.ref 95, .int (Int32.ofNat p)]) [] (mem σ) Q = Q (some (.int (bnM (σ 96) p))) (mem σ) := by
  show Ev X (d + 1 + 1) 189 0 [some (.ref 95), some (.int (Int32.ofNat p))] [] (mem σ) Q = _
  have v := V_pn hV
  have v1 := v.1
  have e1 := m190 X d hV v.2 0
  have e2 := m190 X d hV v.2 1
  have e3 := m192 X d hp (odM (σ 96) (pnM (σ 96)) 0) (odM (σ 96) (pnM (σ 96)) 1) (od_nz hV v.2) hV
  unfold bnM
  simp only [E_aload0 (q := 1) cc_189 dX10_bidNow_0 rfl, E_aloadN0 (q := 1) cc_189 dX10_bidNow_0 rfl, E_iload1 (q := 2) cc_189 dX10_bidNow_1 rfl, E_aload0 (q := 3) cc_189 dX10_bidNow_2 rfl, E_aloadN0 (q := 3) cc_189 dX10_bidNow_2 rfl, E_aload0 (q := 4) cc_189 dX10_bidNow_3 rfl, E_aloadN0 (q := 4) cc_189 dX10_bidNow_3 rfl, E_getP (q := 7) (o := 1) cc_189 dX10_bidNow_4 rfl (by decide) rfl (by decide) rfl, E_bipush (q := 9) (x := 10) cc_189 dX10_bidNow_7 rfl rfl, E_aldA (q := 10) cc_189 dX10_bidNow_9 rfl, E_iconst (q := 11) (x := 0) cc_189 dX10_bidNow_10 rfl rfl, E_cV2 (q := 14) (j := 190) (mx := 5) (ci := 10) cc_189 dX10_bidNow_11 rfl rfl (by decide) rfl rfl, E_aload0 (q := 15) cc_189 dX10_bidNow_14 rfl, E_aloadN0 (q := 15) cc_189 dX10_bidNow_14 rfl, E_aload0 (q := 16) cc_189 dX10_bidNow_15 rfl, E_aloadN0 (q := 16) cc_189 dX10_bidNow_15 rfl, E_getP (q := 19) (o := 1) cc_189 dX10_bidNow_16 rfl (by decide) rfl (by decide) rfl, E_bipush (q := 21) (x := 10) cc_189 dX10_bidNow_19 rfl rfl, E_aldA (q := 22) cc_189 dX10_bidNow_21 rfl, E_iconst (q := 23) (x := 1) cc_189 dX10_bidNow_22 rfl rfl, E_cV2 (q := 26) (j := 190) (mx := 5) (ci := 10) cc_189 dX10_bidNow_23 rfl rfl (by decide) rfl rfl, E_cV3 (q := 29) (j := 192) (mx := 7) (ci := 10) cc_189 dX10_bidNow_26 rfl rfl (by decide) rfl rfl, E_ireturn cc_189 dX10_bidNow_29 rfl, Option.toList, List.cons_append, List.nil_append, cz_nil, cs_i, cs_r, cs_n, cs_l, az_nil, az_i, az_r, az_n, az_l, cl_i, cl_r, cl_n, cl_0, cl_l, bi_0, bi_n0, bi_nb, isb_0, isb_1, isb_bi, Nat.reduceAdd, Nat.reduceLeDiff, Nat.zero_le, Nat.zero_add, Nat.add_zero, v1, e1, e2, e3, cu_i, cu_r, nz_1, false_and, and_false, true_and, and_true, and_self, Int32.reduceOfInt, Int32.reduceAdd, Int32.reduceSub, Int32.reduceMul, Int32.reduceLT, Int32.reduceLE, nz_2, nz_3, nz_9, nz_10, nz_24, nz_60, not_false_eq_true, not_true_eq_false, if_false, if_true, reduceIte, inb_340_0, inb_340_1, inb_340_2, inb_340_3, inb_340_4, inb_340_5, inb_340_6, inb_340_7, inb_340_8, inb_340_9, inb_340_10, inb_340_11, inb_340_12, inb_340_13, inb_340_14, inb_340_15, t0, t1, t2, t3, t4, t5, t6, t7, t8, t9, t10, t11, t12, t13, t14, t15, m_o, m_a96, m_n96, m_a97, m_n97, m_a98, m_n98, m_a99, m_n99, m_a100, m_n100, m_a101, m_n101, m_a102, m_n102, m_a103, m_n103, m_a104, m_n104, m_a105, m_n105]
theorem hrs_01 (kind m far s note : Int32) : hrs kind m far s note = 0 ∨ hrs kind m far s note = 1 := by
  unfold hrs
  split
  · exact Or.inl rfl
  split
  · exact bi_01
  split
  · exact bi_01
  split
  · exact bi_01
  split
  · exact bi_01
  split
  · exact bi_01
  split
  · exact Or.inr rfl
  · exact bi_01
theorem s105 (X : im_E) (d : Nat) {a : Nat} (ha : okc a 0 = true) (s note h : Int32) (σ : Nat → Nat → Int32) (hk : rg (σ a 0) (0, 6)) (hh : hrs (σ a 0) (σ a 1) (σ a 2) s note = h) (Q : Option Value → im_M → Prop) : Ev X (d + 1) 105 0 (im_ent 3 [.ref a, .int s, .int note]) [] (mem σ) Q = Q none (mem (up (up σ a 5 h) a 4 (mn (σ a 4 + h) 9999))) := by
  show Ev X (d + 1) 105 0 [some (.ref a), some (.int s), some (.int note)] [] (mem σ) Q = _
  have e := s49 X d ha s note σ hk
  rw [hh] at e
  have g1 : up σ a 5 h a 4 = σ a 4 := up_k (by decide)
  have g2 : up σ a 5 h a 5 = h := up_s
  rcases hrs_01 (σ a 0) (σ a 1) (σ a 2) s note with q | q
  · rw [q] at hh
    subst hh
    simp only [E_aload0 (q := 1) cc_105 dX0_hark_0 rfl, E_aloadN0 (q := 1) cc_105 dX0_hark_0 rfl, E_aload0 (q := 2) cc_105 dX0_hark_1 rfl, E_aloadN0 (q := 2) cc_105 dX0_hark_1 rfl, E_iload1 (q := 3) cc_105 dX0_hark_2 rfl, E_iload2 (q := 4) cc_105 dX0_hark_3 rfl, E_cV2 (q := 7) (j := 49) (mx := 4) (ci := 0) cc_105 dX0_hark_4 rfl rfl (by decide) rfl rfl, E_if_eq (q := 10) (t := 14) cc_105 dX0_hark_7 rfl rfl, E_iconst (q := 11) (x := 1) cc_105 dX0_hark_10 rfl rfl, E_goto (t := 15) cc_105 dX0_hark_11 rfl, E_iconst (q := 15) (x := 0) cc_105 dX0_hark_14 rfl rfl, E_putI (q := 18) cc_105 dX0_hark_15 rfl rfl rfl (Or.inl rfl), E_aload0 (q := 19) cc_105 dX0_hark_18 rfl, E_aloadN0 (q := 19) cc_105 dX0_hark_18 rfl, E_aload0 (q := 20) cc_105 dX0_hark_19 rfl, E_aloadN0 (q := 20) cc_105 dX0_hark_19 rfl, E_getI (q := 23) cc_105 dX0_hark_20 rfl (by decide) rfl rfl, E_aload0 (q := 24) cc_105 dX0_hark_23 rfl, E_aloadN0 (q := 24) cc_105 dX0_hark_23 rfl, E_getI (q := 27) cc_105 dX0_hark_24 rfl (by decide) rfl rfl, E_iadd (q := 28) cc_105 dX0_hark_27 rfl, E_sipush (q := 31) (x := 9999) cc_105 dX0_hark_28 rfl rfl, E_callS2 (q := 34) (j := 35) (mx := 2) cc_105 dX0_hark_31 rfl rfl (by decide) (by decide) rfl, E_putI (q := 37) cc_105 dX0_hark_34 rfl rfl rfl (Or.inl rfl), E_return cc_105 dX0_hark_37 rfl, Option.toList, List.cons_append, List.nil_append, cz_nil, cs_i, cs_r, cs_n, cs_l, az_nil, az_i, az_r, az_n, az_l, cl_i, cl_r, cl_n, cl_0, cl_l, bi_0, bi_n0, bi_nb, isb_0, isb_1, isb_bi, Nat.reduceAdd, Nat.reduceLeDiff, Nat.zero_le, Nat.zero_add, Nat.add_zero, ha, e, g1, g2, s35, cu_i, cu_r, nz_1, false_and, and_false, true_and, and_true, and_self, Int32.reduceOfInt, Int32.reduceAdd, Int32.reduceSub, Int32.reduceMul, Int32.reduceLT, Int32.reduceLE, nz_2, nz_3, nz_9, nz_10, nz_24, nz_60, not_false_eq_true, not_true_eq_false, if_false, if_true, reduceIte]
  · rw [q] at hh
    subst hh
    simp only [E_aload0 (q := 1) cc_105 dX0_hark_0 rfl, E_aloadN0 (q := 1) cc_105 dX0_hark_0 rfl, E_aload0 (q := 2) cc_105 dX0_hark_1 rfl, E_aloadN0 (q := 2) cc_105 dX0_hark_1 rfl, E_iload1 (q := 3) cc_105 dX0_hark_2 rfl, E_iload2 (q := 4) cc_105 dX0_hark_3 rfl, E_cV2 (q := 7) (j := 49) (mx := 4) (ci := 0) cc_105 dX0_hark_4 rfl rfl (by decide) rfl rfl, E_if_eq (q := 10) (t := 14) cc_105 dX0_hark_7 rfl rfl, E_iconst (q := 11) (x := 1) cc_105 dX0_hark_10 rfl rfl, E_goto (t := 15) cc_105 dX0_hark_11 rfl, E_iconst (q := 15) (x := 0) cc_105 dX0_hark_14 rfl rfl, E_putI (q := 18) cc_105 dX0_hark_15 rfl rfl rfl (Or.inl rfl), E_aload0 (q := 19) cc_105 dX0_hark_18 rfl, E_aloadN0 (q := 19) cc_105 dX0_hark_18 rfl, E_aload0 (q := 20) cc_105 dX0_hark_19 rfl, E_aloadN0 (q := 20) cc_105 dX0_hark_19 rfl, E_getI (q := 23) cc_105 dX0_hark_20 rfl (by decide) rfl rfl, E_aload0 (q := 24) cc_105 dX0_hark_23 rfl, E_aloadN0 (q := 24) cc_105 dX0_hark_23 rfl, E_getI (q := 27) cc_105 dX0_hark_24 rfl (by decide) rfl rfl, E_iadd (q := 28) cc_105 dX0_hark_27 rfl, E_sipush (q := 31) (x := 9999) cc_105 dX0_hark_28 rfl rfl, E_callS2 (q := 34) (j := 35) (mx := 2) cc_105 dX0_hark_31 rfl rfl (by decide) (by decide) rfl, E_putI (q := 37) cc_105 dX0_hark_34 rfl rfl rfl (Or.inl rfl), E_return cc_105 dX0_hark_37 rfl, Option.toList, List.cons_append, List.nil_append, cz_nil, cs_i, cs_r, cs_n, cs_l, az_nil, az_i, az_r, az_n, az_l, cl_i, cl_r, cl_n, cl_0, cl_l, bi_0, bi_n0, bi_nb, isb_0, isb_1, isb_bi, Nat.reduceAdd, Nat.reduceLeDiff, Nat.zero_le, Nat.zero_add, Nat.add_zero, ha, e, g1, g2, s35, cu_i, cu_r, nz_1, false_and, and_false, true_and, and_true, and_self, Int32.reduceOfInt, Int32.reduceAdd, Int32.reduceSub, Int32.reduceMul, Int32.reduceLT, Int32.reduceLE, nz_2, nz_3, nz_9, nz_10, nz_24, nz_60, not_false_eq_true, not_true_eq_false, if_false, if_true, reduceIte]
