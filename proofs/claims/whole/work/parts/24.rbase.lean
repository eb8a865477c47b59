/-! THE READER, SMALL THINGS -/
theorem nz_1 : ((1 : Int32) = 0) = False := by decide
theorem cu_i {x : Int32} : Value.category (.int x) = 1 := by simp [Value.category]
theorem cu_r {x : Nat} : Value.category (.ref x) = 1 := by simp [Value.category]
theorem r_o79 : okc 79 3 = true := by decide
theorem r_o80 : okc 80 1 = true := by decide
theorem r_a81 : oka 81 50 = true := by decide
theorem r_n81 : alen 81 = 50 := by decide
theorem r_o14 : okc 14 6 = true := by decide
theorem r_a15 : oka 15 50 = true := by decide
theorem r_n15 : alen 15 = 50 := by decide
def nx (B : Nat → Int32) (n p : Nat) : Int32 := if p < n then B p else -1
def BV (B : Nat → Int32) (n : Nat) : Prop := n ≤ 50 ∧ ∀ j, j < n → 0 ≤ B j ∧ B j ≤ 255
/-- the class's reader at a place -/
def CR (B : Nat → Int32) (n u : Nat) (σ : Nat → Nat → Int32) (p : Nat) (fl : Int32) (dr : List Int32) : Prop := (¬ σ 79 1 = 0) ∧ σ 79 2 = Int32.ofNat (1 + u) ∧ σ 79 3 = Int32.ofNat p ∧ σ 79 4 = fl ∧ σ 14 1 = Int32.ofNat n ∧ (∀ j, j < n → σ 15 j = B j) ∧ σ 80 2 = Int32.ofNat dr.length ∧ dr.length ≤ 50 ∧ SQ σ 81 0 dr
/-- the model's reader at a place -/
def MR (B : Nat → Int32) (n u base : Nat) (σ : Nat → Nat → Int32) (p : Nat) (fl o : Int32) (a b c : Int32) : Prop := σ 95 5 = Int32.ofNat base ∧ σ 95 6 = Int32.ofNat p ∧ σ 95 7 = Int32.ofNat n ∧ σ 95 8 = fl ∧ σ 95 9 = o ∧ σ 95 10 = Int32.ofNat u ∧ base ≤ 290 ∧ (∀ j, j < n → σ 96 (base + j) = B j) ∧ σ 100 0 = a ∧ σ 100 1 = b ∧ σ 100 2 = c
def CF (σ τ : Nat → Nat → Int32) : Prop := ∀ a, a ≠ 79 → a ≠ 80 → a ≠ 81 → τ a = σ a
def MF' (σ τ : Nat → Nat → Int32) : Prop := (∀ a, a ≠ 95 → τ a = σ a) ∧ ∀ k, (k < 5 ∨ 10 < k) → τ 95 k = σ 95 k
theorem CF.refl (σ : Nat → Nat → Int32) : CF σ σ := fun _ _ _ _ => rfl
theorem CF.trans {σ τ ρ : Nat → Nat → Int32} (h : CF σ τ) (g : CF τ ρ) : CF σ ρ := fun a h1 h2 h3 => (g a h1 h2 h3).trans (h a h1 h2 h3)
theorem MF'.refl (σ : Nat → Nat → Int32) : MF' σ σ := ⟨fun _ _ => rfl, fun _ _ => rfl⟩
theorem MF'.trans {σ τ ρ : Nat → Nat → Int32} (h : MF' σ τ) (g : MF' τ ρ) : MF' σ ρ := ⟨fun a h1 => (g.1 a h1).trans (h.1 a h1), fun k hk => (g.2 k hk).trans (h.2 k hk)⟩
theorem pn_cmp : ∀ p n : Fin 51, ((0 ≤ Int32.ofNat p.1 ∧ Int32.ofNat p.1 ≤ Int32.ofNat n.1 - 1) ↔ p.1 < n.1) ∧ (Int32.ofNat n.1 ≤ Int32.ofNat p.1 ↔ ¬ p.1 < n.1) := by decide +kernel
theorem pn1 {p n : Nat} (hp : p ≤ 50) (hn : n ≤ 50) : (0 ≤ Int32.ofNat p ∧ Int32.ofNat p ≤ Int32.ofNat n - 1) ↔ p < n := (pn_cmp ⟨p, by omega⟩ ⟨n, by omega⟩).1
theorem pn2 {p n : Nat} (hp : p ≤ 50) (hn : n ≤ 50) : Int32.ofNat n ≤ Int32.ofNat p ↔ ¬ p < n := (pn_cmp ⟨p, by omega⟩ ⟨n, by omega⟩).2
theorem ofn1 {n : Nat} (h : n ≤ 50) : Int32.ofNat n + 1 = Int32.ofNat (n + 1) := (tp_facts ⟨n, by omega⟩).2.2.2.2.2
theorem ofnc {n : Nat} (h : n ≤ 50) : (Int32.ofNat n).toNatClampNeg = n := (tp_facts ⟨n, by omega⟩).2.1
theorem s74 (X : im_E) (d : Nat) {B : Nat → Int32} {n p : Nat} (hp : p ≤ n) (hn : n ≤ 50) (σ : Nat → Nat → Int32) (h1 : σ 14 1 = Int32.ofNat n) (h2 : ∀ j, j < n → σ 15 j = B j) (Q : Option Value → im_M → Prop) : Ev X (d + 1) 74 0 (im_ent 2 [.ref 14, .int (Int32.ofNat p)]) [] (mem σ) Q = Q (some (.int (nx B n p))) (mem σ) := by
  show Ev X (d + 1) 74 0 [some (.ref 14), some (.int (Int32.ofNat p))] [] (mem σ) Q = _
  have e := pn1 (show p ≤ 50 by omega) hn
  unfold nx
  by_cases h : p < n
  · rw [if_pos h]
    have h0 : 0 ≤ Int32.ofNat p ∧ Int32.ofNat p ≤ Int32.ofNat n - 1 := e.mpr h
    have h5 : ¬ 50 ≤ Int32.ofNat p := (tp_lt ⟨p, by omega⟩).2.1
    have h6 : inb (Int32.ofNat p) 50 := inb50 (by omega)
    have h7 : σ 15 p = B p := h2 p h
    simp only [E_iload1 (q := 1) cc_74 dX6_byteAt_0 rfl, E_iconst (q := 2) (x := 0) cc_74 dX6_byteAt_1 rfl rfl, E_aload0 (q := 3) cc_74 dX6_byteAt_2 rfl, E_aloadN0 (q := 3) cc_74 dX6_byteAt_2 rfl, E_getI (q := 6) cc_74 dX6_byteAt_3 rfl (by decide) rfl rfl, E_iconst (q := 7) (x := 1) cc_74 dX6_byteAt_6 rfl rfl, E_isub (q := 8) cc_74 dX6_byteAt_7 rfl, E_callS3 (q := 11) (j := 11) (mx := 3) cc_74 dX6_byteAt_8 rfl rfl (by decide) (by decide) rfl, E_if_eq (q := 14) (t := 29) cc_74 dX6_byteAt_11 rfl rfl, E_iload1 (q := 15) cc_74 dX6_byteAt_14 rfl, E_bipush (q := 17) (x := 50) cc_74 dX6_byteAt_15 rfl rfl, E_icmp_ge (q := 20) (t := 29) cc_74 dX6_byteAt_17 rfl rfl, E_aload0 (q := 21) cc_74 dX6_byteAt_20 rfl, E_aloadN0 (q := 21) cc_74 dX6_byteAt_20 rfl, E_getP (q := 24) (o := 1) cc_74 dX6_byteAt_21 rfl (by decide) rfl (by decide) rfl, E_iload1 (q := 25) cc_74 dX6_byteAt_24 rfl, E_aldA (q := 26) cc_74 dX6_byteAt_25 rfl, E_goto (t := 30) cc_74 dX6_byteAt_26 rfl, E_iconst (q := 30) (x := (-1)) cc_74 dX6_byteAt_29 rfl rfl, E_ireturn cc_74 dX6_byteAt_30 rfl, Option.toList, List.cons_append, List.nil_append, cz_nil, cs_i, cs_r, cs_n, cs_l, az_nil, az_i, az_r, az_n, az_l, cl_i, cl_r, cl_n, cl_0, cl_l, bi_0, bi_n0, bi_nb, isb_0, isb_1, isb_bi, Nat.reduceAdd, Nat.reduceLeDiff, Nat.zero_le, Nat.zero_add, Nat.add_zero, s11, h0, and_self, h1, h5, h6, h7, ofnc (show p ≤ 50 by omega), r_o79, r_o80, r_a81, r_n81, r_o14, r_a15, r_n15, cu_i, cu_r, nz_1, false_and, and_false, true_and, and_true, and_self, Int32.reduceOfInt, Int32.reduceAdd, Int32.reduceSub, Int32.reduceMul, Int32.reduceLT, Int32.reduceLE, nz_2, nz_3, nz_9, nz_10, nz_24, nz_60, not_false_eq_true, not_true_eq_false, if_false, if_true, reduceIte]
  · rw [if_neg h]
    have h0 : ¬ (0 ≤ Int32.ofNat p ∧ Int32.ofNat p ≤ Int32.ofNat n - 1) := fun q => h (e.mp q)
    simp only [E_iload1 (q := 1) cc_74 dX6_byteAt_0 rfl, E_iconst (q := 2) (x := 0) cc_74 dX6_byteAt_1 rfl rfl, E_aload0 (q := 3) cc_74 dX6_byteAt_2 rfl, E_aloadN0 (q := 3) cc_74 dX6_byteAt_2 rfl, E_getI (q := 6) cc_74 dX6_byteAt_3 rfl (by decide) rfl rfl, E_iconst (q := 7) (x := 1) cc_74 dX6_byteAt_6 rfl rfl, E_isub (q := 8) cc_74 dX6_byteAt_7 rfl, E_callS3 (q := 11) (j := 11) (mx := 3) cc_74 dX6_byteAt_8 rfl rfl (by decide) (by decide) rfl, E_if_eq (q := 14) (t := 29) cc_74 dX6_byteAt_11 rfl rfl, E_iload1 (q := 15) cc_74 dX6_byteAt_14 rfl, E_bipush (q := 17) (x := 50) cc_74 dX6_byteAt_15 rfl rfl, E_icmp_ge (q := 20) (t := 29) cc_74 dX6_byteAt_17 rfl rfl, E_aload0 (q := 21) cc_74 dX6_byteAt_20 rfl, E_aloadN0 (q := 21) cc_74 dX6_byteAt_20 rfl, E_getP (q := 24) (o := 1) cc_74 dX6_byteAt_21 rfl (by decide) rfl (by decide) rfl, E_iload1 (q := 25) cc_74 dX6_byteAt_24 rfl, E_aldA (q := 26) cc_74 dX6_byteAt_25 rfl, E_goto (t := 30) cc_74 dX6_byteAt_26 rfl, E_iconst (q := 30) (x := (-1)) cc_74 dX6_byteAt_29 rfl rfl, E_ireturn cc_74 dX6_byteAt_30 rfl, Option.toList, List.cons_append, List.nil_append, cz_nil, cs_i, cs_r, cs_n, cs_l, az_nil, az_i, az_r, az_n, az_l, cl_i, cl_r, cl_n, cl_0, cl_l, bi_0, bi_n0, bi_nb, isb_0, isb_1, isb_bi, Nat.reduceAdd, Nat.reduceLeDiff, Nat.zero_le, Nat.zero_add, Nat.add_zero, s11, h0, h1, r_o79, r_o80, r_a81, r_n81, r_o14, r_a15, r_n15, cu_i, cu_r, nz_1, false_and, and_false, true_and, and_true, and_self, Int32.reduceOfInt, Int32.reduceAdd, Int32.reduceSub, Int32.reduceMul, Int32.reduceLT, Int32.reduceLE, nz_2, nz_3, nz_9, nz_10, nz_24, nz_60, not_false_eq_true, not_true_eq_false, if_false, if_true, reduceIte]
theorem s73 (X : im_E) (d : Nat) {B : Nat → Int32} {n u p : Nat} {dr : List Int32} (hp : p ≤ n) (hn : n ≤ 50) {σ : Nat → Nat → Int32} (h : CR B n u σ p 0 dr) (Q : Option Value → im_M → Prop) : Ev X (d + 1 + 1) 73 0 (im_ent 1 [.ref 79]) [] (mem σ) Q = Q (some (.int (nx B n p))) (mem σ) := by
  show Ev X (d + 1 + 1) 73 0 [some (.ref 79)] [] (mem σ) Q = _
  obtain ⟨h1, h2, h3, h4, h5, h6, h7, h8, h9⟩ := h
  have e := s74 X d hp hn σ h5 h6
  simp only [E_aload0 (q := 1) cc_73 dX3_next_0 rfl, E_aloadN0 (q := 1) cc_73 dX3_next_0 rfl, E_getI (q := 4) cc_73 dX3_next_1 rfl (by decide) rfl rfl, E_if_ne (q := 7) (t := 14) cc_73 dX3_next_4 rfl rfl, E_aload0 (q := 8) cc_73 dX3_next_7 rfl, E_aloadN0 (q := 8) cc_73 dX3_next_7 rfl, E_tape (q := 11) cc_73 dX3_next_8 rfl rfl rfl, E_ifnonnull (t := 18) cc_73 dX3_next_11 rfl, E_ifnonnullN (q := 14) (t := 18) cc_73 dX3_next_11 rfl rfl, E_iconst (q := 15) (x := (-1)) cc_73 dX3_next_14 rfl rfl, E_goto (t := 29) cc_73 dX3_next_15 rfl, E_aload0 (q := 19) cc_73 dX3_next_18 rfl, E_aloadN0 (q := 19) cc_73 dX3_next_18 rfl, E_tape (q := 22) cc_73 dX3_next_19 rfl rfl rfl, E_aload0 (q := 23) cc_73 dX3_next_22 rfl, E_aloadN0 (q := 23) cc_73 dX3_next_22 rfl, E_getI (q := 26) cc_73 dX3_next_23 rfl (by decide) rfl rfl, E_cV1 (q := 29) (j := 74) (mx := 2) (ci := 6) cc_73 dX3_next_26 rfl rfl (by decide) rfl rfl, E_ireturn cc_73 dX3_next_29 rfl, Option.toList, List.cons_append, List.nil_append, cz_nil, cs_i, cs_r, cs_n, cs_l, az_nil, az_i, az_r, az_n, az_l, cl_i, cl_r, cl_n, cl_0, cl_l, bi_0, bi_n0, bi_nb, isb_0, isb_1, isb_bi, Nat.reduceAdd, Nat.reduceLeDiff, Nat.zero_le, Nat.zero_add, Nat.add_zero, e, h1, h3, h4, r_o79, r_o80, r_a81, r_n81, r_o14, r_a15, r_n15, cu_i, cu_r, nz_1, false_and, and_false, true_and, and_true, and_self, Int32.reduceOfInt, Int32.reduceAdd, Int32.reduceSub, Int32.reduceMul, Int32.reduceLT, Int32.reduceLE, nz_2, nz_3, nz_9, nz_10, nz_24, nz_60, not_false_eq_true, not_true_eq_false, if_false, if_true, reduceIte]
theorem s73f (X : im_E) (d : Nat) {B : Nat → Int32} {n u p : Nat} {dr : List Int32} {σ : Nat → Nat → Int32} (h : CR B n u σ p 1 dr) (Q : Option Value → im_M → Prop) : Ev X (d + 1 + 1) 73 0 (im_ent 1 [.ref 79]) [] (mem σ) Q = Q (some (.int (-1))) (mem σ) := by
  show Ev X (d + 1 + 1) 73 0 [some (.ref 79)] [] (mem σ) Q = _
  obtain ⟨h1, h2, h3, h4, h5, h6, h7, h8, h9⟩ := h
  have h4' : ¬ σ 79 4 = 0 := by rw [h4]; decide
  simp only [E_aload0 (q := 1) cc_73 dX3_next_0 rfl, E_aloadN0 (q := 1) cc_73 dX3_next_0 rfl, E_getI (q := 4) cc_73 dX3_next_1 rfl (by decide) rfl rfl, E_if_ne (q := 7) (t := 14) cc_73 dX3_next_4 rfl rfl, E_aload0 (q := 8) cc_73 dX3_next_7 rfl, E_aloadN0 (q := 8) cc_73 dX3_next_7 rfl, E_tape (q := 11) cc_73 dX3_next_8 rfl rfl rfl, E_ifnonnull (t := 18) cc_73 dX3_next_11 rfl, E_ifnonnullN (q := 14) (t := 18) cc_73 dX3_next_11 rfl rfl, E_iconst (q := 15) (x := (-1)) cc_73 dX3_next_14 rfl rfl, E_goto (t := 29) cc_73 dX3_next_15 rfl, E_aload0 (q := 19) cc_73 dX3_next_18 rfl, E_aloadN0 (q := 19) cc_73 dX3_next_18 rfl, E_tape (q := 22) cc_73 dX3_next_19 rfl rfl rfl, E_aload0 (q := 23) cc_73 dX3_next_22 rfl, E_aloadN0 (q := 23) cc_73 dX3_next_22 rfl, E_getI (q := 26) cc_73 dX3_next_23 rfl (by decide) rfl rfl, E_cV1 (q := 29) (j := 74) (mx := 2) (ci := 6) cc_73 dX3_next_26 rfl rfl (by decide) rfl rfl, E_ireturn cc_73 dX3_next_29 rfl, Option.toList, List.cons_append, List.nil_append, cz_nil, cs_i, cs_r, cs_n, cs_l, az_nil, az_i, az_r, az_n, az_l, cl_i, cl_r, cl_n, cl_0, cl_l, bi_0, bi_n0, bi_nb, isb_0, isb_1, isb_bi, Nat.reduceAdd, Nat.reduceLeDiff, Nat.zero_le, Nat.zero_add, Nat.add_zero, h4', r_o79, r_o80, r_a81, r_n81, r_o14, r_a15, r_n15, cu_i, cu_r, nz_1, false_and, and_false, true_and, and_true, and_self, Int32.reduceOfInt, Int32.reduceAdd, Int32.reduceSub, Int32.reduceMul, Int32.reduceLT, Int32.reduceLE, nz_2, nz_3, nz_9, nz_10, nz_24, nz_60, not_false_eq_true, not_true_eq_false, if_false, if_true, reduceIte]
theorem SQ_app {σ : Nat → Nat → Int32} {g : Nat} {x : Int32} : ∀ {k : Nat} {cs : List Int32}, SQ σ g k cs → σ g (k + cs.length) = x → SQ σ g k (cs ++ [x])
  | k, [], _, h => ⟨by simpa using h, trivial⟩
  | k, y :: cs, h, hx => ⟨h.1, SQ_app h.2 (by rw [← hx, List.length_cons]; congr 1; omega)⟩
theorem SQ_up {σ : Nat → Nat → Int32} {g m : Nat} {v : Int32} : ∀ {k : Nat} {cs : List Int32}, k + cs.length ≤ m → SQ σ g k cs → SQ (up σ g m v) g k cs
  | _, [], _, _ => trivial
  | k, x :: cs, hm, h => by
    simp only [List.length_cons] at hm
    exact ⟨by rw [up_k (by omega)]; exact h.1, SQ_up (by omega) h.2⟩
theorem s96 (X : im_E) (d : Nat) {B : Nat → Int32} {n u p : Nat} {fl : Int32} {dr : List Int32} {σ : Nat → Nat → Int32} (h : CR B n u σ p fl dr) (x : Int32) : ∃ (τ : Nat → Nat → Int32) (dr' : List Int32), (∀ Q, Ev X d 96 0 (im_ent 2 [.ref 80, .int x]) [] (mem σ) Q = Q none (mem τ)) ∧ CR B n u τ p fl dr' ∧ CF σ τ ∧ (dr.length < 50 → dr' = dr ++ [x]) := by
  obtain ⟨h1, h2, h3, h4, h5, h6, h7, h8, h9⟩ := h
  by_cases hz : dr.length < 50
  · have e1 : ¬ 50 ≤ Int32.ofNat dr.length := (tp_lt ⟨_, hz⟩).2.1
    have e2 : inb (Int32.ofNat dr.length) 50 := inb50 hz
    have e3 := ofnc (show dr.length ≤ 50 by omega)
    have e4 := ofn1 (show dr.length ≤ 50 by omega)
    have e5 : up σ 81 dr.length x 80 2 = Int32.ofNat dr.length := by rw [up_o (by decide)]; exact h7
    refine ⟨up (up σ 81 dr.length x) 80 2 (Int32.ofNat (dr.length + 1)), dr ++ [x], fun Q => ?_, ?_, ?_, fun _ => rfl⟩
    · show Ev X d 96 0 [some (.ref 80), some (.int x)] [] (mem σ) Q = _
      simp only [E_aload0 (q := 1) cc_96 dX1_add_0 rfl, E_aloadN0 (q := 1) cc_96 dX1_add_0 rfl, E_getI (q := 4) cc_96 dX1_add_1 rfl (by decide) rfl rfl, E_bipush (q := 6) (x := 50) cc_96 dX1_add_4 rfl rfl, E_icmp_ge (q := 9) (t := 29) cc_96 dX1_add_6 rfl rfl, E_aload0 (q := 10) cc_96 dX1_add_9 rfl, E_aloadN0 (q := 10) cc_96 dX1_add_9 rfl, E_getP (q := 13) (o := 1) cc_96 dX1_add_10 rfl (by decide) rfl (by decide) rfl, E_aload0 (q := 14) cc_96 dX1_add_13 rfl, E_aloadN0 (q := 14) cc_96 dX1_add_13 rfl, E_getI (q := 17) cc_96 dX1_add_14 rfl (by decide) rfl rfl, E_iload1 (q := 18) cc_96 dX1_add_17 rfl, E_astA (q := 19) cc_96 dX1_add_18 rfl, E_aload0 (q := 20) cc_96 dX1_add_19 rfl, E_aloadN0 (q := 20) cc_96 dX1_add_19 rfl, E_dup (q := 21) cc_96 dX1_add_20 (hq := rfl), E_getI (q := 24) cc_96 dX1_add_21 rfl (by decide) rfl rfl, E_iconst (q := 25) (x := 1) cc_96 dX1_add_24 rfl rfl, E_iadd (q := 26) cc_96 dX1_add_25 rfl, E_putI (q := 29) cc_96 dX1_add_26 rfl rfl rfl (Or.inl rfl), E_return cc_96 dX1_add_29 rfl, Option.toList, List.cons_append, List.nil_append, cz_nil, cs_i, cs_r, cs_n, cs_l, az_nil, az_i, az_r, az_n, az_l, cl_i, cl_r, cl_n, cl_0, cl_l, bi_0, bi_n0, bi_nb, isb_0, isb_1, isb_bi, Nat.reduceAdd, Nat.reduceLeDiff, Nat.zero_le, Nat.zero_add, Nat.add_zero, h7, e1, e2, e3, e4, e5, r_o79, r_o80, r_a81, r_n81, r_o14, r_a15, r_n15, cu_i, cu_r, nz_1, false_and, and_false, true_and, and_true, and_self, Int32.reduceOfInt, Int32.reduceAdd, Int32.reduceSub, Int32.reduceMul, Int32.reduceLT, Int32.reduceLE, nz_2, nz_3, nz_9, nz_10, nz_24, nz_60, not_false_eq_true, not_true_eq_false, if_false, if_true, reduceIte]
    · refine ⟨?_, ?_, ?_, ?_, ?_, ?_, ?_, ?_, ?_⟩
      · rw [up_o (by decide), up_o (by decide)]; exact h1
      · rw [up_o (by decide), up_o (by decide)]; exact h2
      · rw [up_o (by decide), up_o (by decide)]; exact h3
      · rw [up_o (by decide), up_o (by decide)]; exact h4
      · rw [up_o (by decide), up_o (by decide)]; exact h5
      · intro j hj; rw [up_o (by decide), up_o (by decide)]; exact h6 j hj
      · rw [up_s, List.length_append]; rfl
      · rw [List.length_append]; simp only [List.length_cons, List.length_nil]; omega
      · refine SQ_of (σ := up σ 81 dr.length x) (up_of (by decide)).symm (SQ_app (SQ_up (by omega) h9) ?_)
        rw [Nat.zero_add]; exact up_s
    · intro a ha hb hc
      rw [up_of hb, up_of hc]
  · have e1 : 50 ≤ Int32.ofNat dr.length := by
      have : dr.length = 50 := by omega
      rw [this]; decide
    refine ⟨σ, dr, fun Q => ?_, ⟨h1, h2, h3, h4, h5, h6, h7, h8, h9⟩, CF.refl σ, fun q => absurd q hz⟩
    show Ev X d 96 0 [some (.ref 80), some (.int x)] [] (mem σ) Q = _
    simp only [E_aload0 (q := 1) cc_96 dX1_add_0 rfl, E_aloadN0 (q := 1) cc_96 dX1_add_0 rfl, E_getI (q := 4) cc_96 dX1_add_1 rfl (by decide) rfl rfl, E_bipush (q := 6) (x := 50) cc_96 dX1_add_4 rfl rfl, E_icmp_ge (q := 9) (t := 29) cc_96 dX1_add_6 rfl rfl, E_aload0 (q := 10) cc_96 dX1_add_9 rfl, E_aloadN0 (q := 10) cc_96 dX1_add_9 rfl, E_getP (q := 13) (o := 1) cc_96 dX1_add_10 rfl (by decide) rfl (by decide) rfl, E_aload0 (q := 14) cc_96 dX1_add_13 rfl, E_aloadN0 (q := 14) cc_96 dX1_add_13 rfl, E_getI (q := 17) cc_96 dX1_add_14 rfl (by decide) rfl rfl, E_iload1 (q := 18) cc_96 dX1_add_17 rfl, E_astA (q := 19) cc_96 dX1_add_18 rfl, E_aload0 (q := 20) cc_96 dX1_add_19 rfl, E_aloadN0 (q := 20) cc_96 dX1_add_19 rfl, E_dup (q := 21) cc_96 dX1_add_20 (hq := rfl), E_getI (q := 24) cc_96 dX1_add_21 rfl (by decide) rfl rfl, E_iconst (q := 25) (x := 1) cc_96 dX1_add_24 rfl rfl, E_iadd (q := 26) cc_96 dX1_add_25 rfl, E_putI (q := 29) cc_96 dX1_add_26 rfl rfl rfl (Or.inl rfl), E_return cc_96 dX1_add_29 rfl, Option.toList, List.cons_append, List.nil_append, cz_nil, cs_i, cs_r, cs_n, cs_l, az_nil, az_i, az_r, az_n, az_l, cl_i, cl_r, cl_n, cl_0, cl_l, bi_0, bi_n0, bi_nb, isb_0, isb_1, isb_bi, Nat.reduceAdd, Nat.reduceLeDiff, Nat.zero_le, Nat.zero_add, Nat.add_zero, h7, e1, r_o79, r_o80, r_a81, r_n81, r_o14, r_a15, r_n15, cu_i, cu_r, nz_1, false_and, and_false, true_and, and_true, and_self, Int32.reduceOfInt, Int32.reduceAdd, Int32.reduceSub, Int32.reduceMul, Int32.reduceLT, Int32.reduceLE, nz_2, nz_3, nz_9, nz_10, nz_24, nz_60, not_false_eq_true, not_true_eq_false, if_false, if_true, reduceIte]
theorem CR_place {B : Nat → Int32} {n u p : Nat} {fl : Int32} {dr : List Int32} {σ : Nat → Nat → Int32} (h : CR B n u σ p fl dr) (q : Nat) : CR B n u (up σ 79 3 (Int32.ofNat q)) q fl dr := by
  obtain ⟨h1, h2, h3, h4, h5, h6, h7, h8, h9⟩ := h
  refine ⟨?_, ?_, up_s, ?_, ?_, ?_, ?_, h8, SQ_of (σ := σ) (up_of (by decide)).symm h9⟩
  · rw [up_k (by decide)]; exact h1
  · rw [up_k (by decide)]; exact h2
  · rw [up_k (by decide)]; exact h4
  · rw [up_o (by decide)]; exact h5
  · intro j hj; rw [up_o (by decide)]; exact h6 j hj
  · rw [up_o (by decide)]; exact h7
theorem CR_fail {B : Nat → Int32} {n u p : Nat} {fl : Int32} {dr : List Int32} {σ : Nat → Nat → Int32} (h : CR B n u σ p fl dr) : CR B n u (up σ 79 4 1) p 1 dr := by
  obtain ⟨h1, h2, h3, h4, h5, h6, h7, h8, h9⟩ := h
  refine ⟨?_, ?_, ?_, up_s, ?_, ?_, ?_, h8, SQ_of (σ := σ) (up_of (by decide)).symm h9⟩
  · rw [up_k (by decide)]; exact h1
  · rw [up_k (by decide)]; exact h2
  · rw [up_k (by decide)]; exact h3
  · rw [up_o (by decide)]; exact h5
  · intro j hj; rw [up_o (by decide)]; exact h6 j hj
  · rw [up_o (by decide)]; exact h7
theorem CF_79 {σ : Nat → Nat → Int32} {k : Nat} {v : Int32} : CF σ (up σ 79 k v) := fun a h1 _ _ => up_of h1
