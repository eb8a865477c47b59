/-! AN HOUR: THE CLASS -/
def WFr (b : Nat) (σ τ : Nat → Nat → Int32) : Prop := ∀ a, (a < b ∨ b + 25 < a) → τ a = σ a
theorem WFr.refl (b : Nat) (σ : Nat → Nat → Int32) : WFr b σ σ := fun _ _ => rfl
theorem WFr.trans {b : Nat} {σ τ ρ : Nat → Nat → Int32} (h : WFr b σ τ) (g : WFr b τ ρ) : WFr b σ ρ := fun a q => (g a q).trans (h a q)
theorem WFr_CG {b : Nat} {σ τ : Nat → Nat → Int32} (h : CG b σ τ) : WFr b σ τ := fun a q => h a (by omega) (by omega)
theorem WFr_up {b : Nat} {σ : Nat → Nat → Int32} {o k : Nat} {v : Int32} (h : o ≤ 25) : WFr b σ (up σ (b + o) k v) := fun a q => up_of (by omega)
theorem WW_up {σ : Nat → Nat → Int32} {b : Nat} {D : Nat → Int32} {r l : List Int32} (h : WW σ b D r l) (k : Nat) (hk : lkd k) (v : Int32) {a s : Nat} (ha : a = b + (loc k).1) (hs : s = (loc k).2) : WW (up σ a s v) b (ud D k v) r l := by
  have m := loc_off k hk
  simp only [List.mem_cons, List.not_mem_nil, or_false] at m
  exact ⟨Rw_up h.1 k hk v ha hs, FR_of h.2.1 (up_of (by omega)) (up_of (by omega)), FR_of h.2.2 (up_of (by omega)) (up_of (by omega))⟩
theorem ud_id {D : Nat → Int32} {k : Nat} {v : Int32} (h : v = D k) : ud D k v = D := by
  funext j
  unfold ud
  split
  · rename_i q; rw [h, q]
  · rfl
theorem ti_mn {a b : Int32} : (mn a b).toInt = if a.toInt ≤ b.toInt then a.toInt else b.toInt := by
  unfold mn
  by_cases h : a ≤ b
  · rw [if_pos h, if_pos (Int32.le_iff_toInt_le.mp h)]
  · rw [if_neg h, if_neg (fun q => h (Int32.le_iff_toInt_le.mpr q))]
theorem ti_mx {a b : Int32} : (mx a b).toInt = if b.toInt ≤ a.toInt then a.toInt else b.toInt := by
  unfold mx
  by_cases h : b ≤ a
  · rw [if_pos h, if_pos (Int32.le_iff_toInt_le.mp h)]
  · rw [if_neg h, if_neg (fun q => h (Int32.le_iff_toInt_le.mpr q))]
def NM (D : Nat → Int32) : Nat := (D 12).toInt.toNat
theorem V_N {H : Int} {D : Nat → Int32} {r l : List Int32} (h : V H D r l) : D 12 = Int32.ofNat (NM D) ∧ NM D ≤ 8 := by
  have f := rg_nat (m := 8) (h.1 12)
  exact ⟨f.1, by have := f.2; unfold NM; omega⟩
def hk1 (s nt : Int32) (p : Nat) (D : Nat → Int32) : Nat → Int32 := ud (ud D (fx p 5) (hrs (D (fx p 0)) (D (fx p 1)) (D (fx p 2)) s nt)) (fx p 4) (mn (D (fx p 4) + hrs (D (fx p 0)) (D (fx p 1)) (D (fx p 2)) s nt) 9999)
def hkF (s nt : Int32) : Nat → Nat → (Nat → Int32) → Nat → Int32
  | _, 0, D => D
  | i, k + 1, D => hkF s nt (i + 1) k (hk1 s nt i D)
theorem fx_out {p f k : Nat} (h : k < 114 ∨ 162 ≤ k) (hp : p < 8) (hf : f < 6) : k ≠ fx p f := by unfold fx; omega
theorem V_heard {H : Int} {D : Nat → Int32} {r l : List Int32} (h : V H D r l) {p : Nat} (hp : p < 8) {z : Int32} (hz : z = 0 ∨ z = 1) : rg (mn (D (fx p 4) + z) 9999) (0, 9999) ∧ (0 ≤ (D (fx p 4)).toInt ∧ (D (fx p 4)).toInt ≤ 9999) := by
  have e := h.1 (fx p 4)
  rw [(bnd_f H p hp).2.2.2.2.1] at e
  have a : (0 : Int) ≤ (D (fx p 4)).toInt ∧ (D (fx p 4)).toInt ≤ 9999 := e
  refine ⟨?_, a⟩
  have z9 : (9999 : Int32).toInt = 9999 := rfl
  have zz : z.toInt = 0 ∨ z.toInt = 1 := by rcases hz with rfl | rfl; exact Or.inl rfl; exact Or.inr rfl
  have q : (D (fx p 4) + z).toInt = (D (fx p 4)).toInt + z.toInt := ti_add (by omega) (by omega)
  show (0 : Int) ≤ (mn _ _).toInt ∧ (mn _ _).toInt ≤ 9999
  rw [ti_mn, q, z9]
  split <;> omega
theorem V_hk1 {H : Int} {D : Nat → Int32} {r l : List Int32} (h : V H D r l) {p : Nat} (hp : p < 8) (s nt : Int32) : V H (hk1 s nt p D) r l := by
  have hz := hrs_01 (D (fx p 0)) (D (fx p 1)) (D (fx p 2)) s nt
  refine V_ud (V_ud h (by unfold fx; omega) ?_) (by unfold fx; omega) ?_
  · rw [(bnd_f H p hp).2.2.2.2.2]
    rcases hz with q | q <;> rw [q] <;> exact ⟨by decide, by decide⟩
  · rw [(bnd_f H p hp).2.2.2.2.1]
    exact (V_heard h hp hz).1
theorem V_hkF {H : Int} {r l : List Int32} (s nt : Int32) : ∀ (k i : Nat) (D : Nat → Int32), i + k ≤ 8 → V H D r l → V H (hkF s nt i k D) r l
  | 0, _, _, _, h => h
  | k + 1, i, D, hi, h => V_hkF s nt k (i + 1) _ (by omega) (V_hk1 h (by omega) s nt)
theorem hk1_o {s nt : Int32} {p k : Nat} {D : Nat → Int32} (h : k < 114 ∨ 162 ≤ k) (hp : p < 8) : hk1 s nt p D k = D k := by
  unfold hk1
  rw [ud_o (fx_out h hp (by decide)), ud_o (fx_out h hp (by decide))]
theorem hkF_o {s nt : Int32} {k : Nat} (h : k < 114 ∨ 162 ≤ k) : ∀ (m i : Nat) (D : Nat → Int32), i + m ≤ 8 → hkF s nt i m D k = D k
  | 0, _, _, _ => rfl
  | m + 1, i, D, hi => by
    show hkF s nt (i + 1) m (hk1 s nt i D) k = _
    rw [hkF_o h m (i + 1) _ (by omega), hk1_o h (by omega)]
theorem i8_facts : ∀ i : Fin 8, ¬ 8 ≤ Int32.ofNat i.1 ∧ Int32.ofNat i.1 + 1 = Int32.ofNat (i.1 + 1) ∧ inb (Int32.ofNat i.1) 8 ∧ (Int32.ofNat i.1).toNatClampNeg = i.1 := by unfold inb; decide +kernel
theorem w_fa {b : Nat} (hb : WB b) : b + 15 < 106 ∧ kd0 (b + 15) = (12, 8) := by rcases hb with rfl | rfl | rfl <;> decide
theorem n15_3 (i : Nat) : 15 + (3 + i) = 18 + i := by omega
theorem p2 (X : im_E) (d : Nat) {b : Nat} (hb : WB b) (f c s nt : Int32) {r l : List Int32} {H : Int} : ∀ (k i : Nat) (σ : Nat → Nat → Int32) (D : Nat → Int32), WW σ b D r l → V H D r l → i + k = NM D → ∃ (τ : Nat → Nat → Int32) (o : Option Value), (∀ Q, Ev X (d + 1 + 1 + 1 + 1 + 1) 104 27 [some (.ref b), some (.int f), some (.int c), some (.int s), some (.int nt), some (.int (Int32.ofNat i))] [] (mem σ) Q = Ev X (d + 1 + 1 + 1 + 1 + 1) 104 62 [some (.ref b), some (.int f), some (.int c), some (.int s), some (.int nt), o] [] (mem τ) Q) ∧ WW τ b (hkF s nt i k D) r l ∧ WFr b σ τ
  | 0, i, σ, D, hW, hV, hi => by
    refine ⟨σ, some (.int (Int32.ofNat i)), fun Q => ?_, hW, WFr.refl b σ⟩
    have e := V_N hV
    have e1 : σ b 6 = Int32.ofNat i := by rw [Rw_12 hW.1, e.1]; congr 1; omega
    conv => lhs; simp only [E_iload5 (q := 29) cc_104 dX8_passHour_27 rfl, E_aload0 (q := 30) cc_104 dX8_passHour_29 rfl, E_aloadN0 (q := 30) cc_104 dX8_passHour_29 rfl, E_getI (q := 33) cc_104 dX8_passHour_30 rfl (by decide) rfl rfl, E_icmp_ge (q := 36) (t := 62) cc_104 dX8_passHour_33 rfl rfl, E_iload5 (q := 38) cc_104 dX8_passHour_36 rfl, E_bipush (q := 40) (x := 8) cc_104 dX8_passHour_38 rfl rfl, E_icmp_ge (q := 43) (t := 62) cc_104 dX8_passHour_40 rfl rfl, Option.toList, List.cons_append, List.nil_append, cz_nil, cs_i, cs_r, cs_n, cs_l, az_nil, az_i, az_r, az_n, az_l, cl_i, cl_r, cl_n, cl_0, cl_l, bi_0, bi_n0, bi_nb, isb_0, isb_1, isb_bi, Nat.reduceAdd, Nat.reduceLeDiff, Nat.zero_le, Nat.zero_add, Nat.add_zero, e1, Int32.le_refl, cu_i, cu_r, nz_1, false_and, and_false, true_and, and_true, and_self, Int32.reduceOfInt, Int32.reduceAdd, Int32.reduceSub, Int32.reduceMul, Int32.reduceLT, Int32.reduceLE, nz_2, nz_3, nz_9, nz_10, nz_24, nz_60, not_false_eq_true, not_true_eq_false, if_false, if_true, reduceIte, w_o0 hb, w_o1 hb, w_o4 hb, w_o7 hb, w_o10 hb, w_o13 hb, w_a2 hb, w_n2 hb, w_a3 hb, w_n3 hb, w_a5 hb, w_n5 hb, w_a6 hb, w_n6 hb, w_a8 hb, w_n8 hb, w_a9 hb, w_n9 hb, w_a11 hb, w_n11 hb, w_a12 hb, w_n12 hb, w_a14 hb, w_n14 hb, w_a16 hb, w_n16 hb, w_a17 hb, w_n17 hb, Nat.add_assoc]
  | k + 1, i, σ, D, hW, hV, hi => by
    have e := V_N hV
    have e1 : σ b 6 = Int32.ofNat (NM D) := by rw [Rw_12 hW.1, e.1]
    have hi8 : i < 8 := by omega
    obtain ⟨f1, f2, f3, f4⟩ := i8_facts ⟨i, hi8⟩
    have f5 : ¬ Int32.ofNat (NM D) ≤ Int32.ofNat i := fun q => absurd ((le_N (by omega) (by omega)).mp q) (by omega)
    have k0 := Rw_f hW.1 hi8 (f := 0) (by decide)
    have k1 := Rw_f hW.1 hi8 (f := 1) (by decide)
    have k2 := Rw_f hW.1 hi8 (f := 2) (by decide)
    have k4 := Rw_f hW.1 hi8 (f := 4) (by decide)
    have e2 := s105 X (d + 1 + 1 + 1) (w_f hb hi8) s nt (hrs (D (fx i 0)) (D (fx i 1)) (D (fx i 2)) s nt) σ (by rw [k0]; exact V_k hV hi8) (by rw [k0, k1, k2])
    rw [k4] at e2
    have hW2 : WW (up (up σ (b + (18 + i)) 5 (hrs (D (fx i 0)) (D (fx i 1)) (D (fx i 2)) s nt)) (b + (18 + i)) 4 (mn (D (fx i 4) + hrs (D (fx i 0)) (D (fx i 1)) (D (fx i 2)) s nt) 9999)) b (hk1 s nt i D) r l := WW_up (WW_up hW (fx i 5) (lkd_f hi8 (by decide)) _ (by rw [loc_f hi8 (by decide)]) (by rw [loc_f hi8 (by decide)])) (fx i 4) (lkd_f hi8 (by decide)) _ (by rw [loc_f hi8 (by decide)]) (by rw [loc_f hi8 (by decide)])
    have hN : NM (hk1 s nt i D) = NM D := by unfold NM; rw [hk1_o (Or.inl (by decide)) hi8]
    obtain ⟨τ, o, g1, g2, g3⟩ := p2 X d hb f c s nt k (i + 1) _ _ hW2 (V_hk1 hV hi8 s nt) (by rw [hN]; omega)
    refine ⟨τ, o, fun Q => ?_, g2, ((WFr_up (by omega)).trans (WFr_up (by omega))).trans g3⟩
    rw [← g1 Q]
    have hf := w_f hb hi8
    obtain ⟨h15, h15'⟩ := w_fa hb
    conv => lhs; simp only [E_iload5 (q := 29) cc_104 dX8_passHour_27 rfl, E_aload0 (q := 30) cc_104 dX8_passHour_29 rfl, E_aloadN0 (q := 30) cc_104 dX8_passHour_29 rfl, E_getI (q := 33) cc_104 dX8_passHour_30 rfl (by decide) rfl rfl, E_icmp_ge (q := 36) (t := 62) cc_104 dX8_passHour_33 rfl rfl, E_iload5 (q := 38) cc_104 dX8_passHour_36 rfl, E_bipush (q := 40) (x := 8) cc_104 dX8_passHour_38 rfl rfl, E_icmp_ge (q := 43) (t := 62) cc_104 dX8_passHour_40 rfl rfl, Option.toList, List.cons_append, List.nil_append, cz_nil, cs_i, cs_r, cs_n, cs_l, az_nil, az_i, az_r, az_n, az_l, cl_i, cl_r, cl_n, cl_0, cl_l, bi_0, bi_n0, bi_nb, isb_0, isb_1, isb_bi, Nat.reduceAdd, Nat.reduceLeDiff, Nat.zero_le, Nat.zero_add, Nat.add_zero, e1, f5, f1, cu_i, cu_r, nz_1, false_and, and_false, true_and, and_true, and_self, Int32.reduceOfInt, Int32.reduceAdd, Int32.reduceSub, Int32.reduceMul, Int32.reduceLT, Int32.reduceLE, nz_2, nz_3, nz_9, nz_10, nz_24, nz_60, not_false_eq_true, not_true_eq_false, if_false, if_true, reduceIte, w_o0 hb, w_o1 hb, w_o4 hb, w_o7 hb, w_o10 hb, w_o13 hb, w_a2 hb, w_n2 hb, w_a3 hb, w_n3 hb, w_a5 hb, w_n5 hb, w_a6 hb, w_n6 hb, w_a8 hb, w_n8 hb, w_a9 hb, w_n9 hb, w_a11 hb, w_n11 hb, w_a12 hb, w_n12 hb, w_a14 hb, w_n14 hb, w_a16 hb, w_n16 hb, w_a17 hb, w_n17 hb, Nat.add_assoc]
    conv => lhs; simp only [E_aload0 (q := 44) cc_104 dX8_passHour_43 rfl, E_aloadN0 (q := 44) cc_104 dX8_passHour_43 rfl, E_getP (q := 47) (o := 15) cc_104 dX8_passHour_44 rfl (by decide) rfl (by decide) rfl, E_iload5 (q := 49) cc_104 dX8_passHour_47 rfl, E_aald12 (q := 50) cc_104 dX8_passHour_49 rfl, E_iload3 (q := 51) cc_104 dX8_passHour_50 rfl, E_iload4 (q := 53) cc_104 dX8_passHour_51 rfl, E_cV2 (q := 56) (j := 105) (mx := 3) (ci := 0) cc_104 dX8_passHour_53 rfl rfl (by decide) rfl rfl, E_iinc5 (q := 59) cc_104 dX8_passHour_56 rfl rfl, E_goto (t := 27) cc_104 dX8_passHour_59 rfl, Option.toList, List.cons_append, List.nil_append, cz_nil, cs_i, cs_r, cs_n, cs_l, az_nil, az_i, az_r, az_n, az_l, cl_i, cl_r, cl_n, cl_0, cl_l, bi_0, bi_n0, bi_nb, isb_0, isb_1, isb_bi, Nat.reduceAdd, Nat.reduceLeDiff, Nat.zero_le, Nat.zero_add, Nat.add_zero, f2, f3, f4, h15, h15', n15_3, hf, e2, cu_i, cu_r, nz_1, false_and, and_false, true_and, and_true, and_self, Int32.reduceOfInt, Int32.reduceAdd, Int32.reduceSub, Int32.reduceMul, Int32.reduceLT, Int32.reduceLE, nz_2, nz_3, nz_9, nz_10, nz_24, nz_60, not_false_eq_true, not_true_eq_false, if_false, if_true, reduceIte, w_o0 hb, w_o1 hb, w_o4 hb, w_o7 hb, w_o10 hb, w_o13 hb, w_a2 hb, w_n2 hb, w_a3 hb, w_n3 hb, w_a5 hb, w_n5 hb, w_a6 hb, w_n6 hb, w_a8 hb, w_n8 hb, w_a9 hb, w_n9 hb, w_a11 hb, w_n11 hb, w_a12 hb, w_n12 hb, w_a14 hb, w_n14 hb, w_a16 hb, w_n16 hb, w_a17 hb, w_n17 hb, Nat.add_assoc]
theorem WFr_up0 {b : Nat} {σ : Nat → Nat → Int32} {k : Nat} {v : Int32} : WFr b σ (up σ b k v) := fun a q => up_of (by omega)
def bx (n : Nat) (f : Int32) : Nat := if 10 ≤ f then 89 + 2 * n else 88 + 2 * n
def bkM (f : Int32) (D : Nat → Int32) : Nat → Int32 := ud D (bx (pnM D) f) (mn (D (bx (pnM D) f) + 1) 9999)
theorem V_bk {H : Int} {D : Nat → Int32} {r l : List Int32} (h : V H D r l) (f : Int32) : rg (D (bx (pnM D) f)) (0, 9999) ∧ V H (bkM f D) r l := by
  have hn := (V_pn h).2
  have e := bnd_b H (pnM D) hn
  have a : bnd H (bx (pnM D) f) = (0, 9999) := by
    unfold bx
    split
    · exact e.2
    · exact e.1
  have g := h.1 (bx (pnM D) f)
  rw [a] at g
  refine ⟨g, V_ud h (by unfold bx; split <;> omega) ?_⟩
  rw [a]
  have g' : (0 : Int) ≤ (D (bx (pnM D) f)).toInt ∧ (D (bx (pnM D) f)).toInt ≤ 9999 := g
  have z9 : (9999 : Int32).toInt = 9999 := rfl
  have z1 : (1 : Int32).toInt = 1 := rfl
  have q : (D (bx (pnM D) f) + 1).toInt = (D (bx (pnM D) f)).toInt + 1 := by rw [ti_add (by omega) (by omega), z1]
  show (0 : Int) ≤ (mn _ _).toInt ∧ (mn _ _).toInt ≤ 9999
  rw [ti_mn, q, z9]
  split <;> omega
theorem c106 (X : im_E) (d : Nat) {b : Nat} (hb : WB b) (f : Int32) {σ : Nat → Nat → Int32} {D : Nat → Int32} {r l : List Int32} {H : Int} (hW : WW σ b D r l) (hV : V H D r l) : ∃ τ : Nat → Nat → Int32, (∀ Q, Ev X (d + 1) 106 0 (im_ent 3 [.ref (b + 4), .int f]) [] (mem σ) Q = Q none (mem τ)) ∧ WW τ b (bkM f D) r l ∧ WFr b σ τ := by
  have v := V_pn hV
  have v1 : σ (b + 4) 2 = Int32.ofNat (pnM D) := by rw [Rw_10 hW.1, v.1]
  obtain ⟨f1, f2, f3, f4, _⟩ := n10_facts ⟨pnM D, v.2⟩
  have hVb := V_bk hV f
  by_cases hf : 10 ≤ f
  · have hf' : ¬ f < 10 := Int32.not_lt.mpr hf
    have hc : σ (b + 6) (pnM D) = D (89 + 2 * pnM D) := Rw_wet hW.1 v.2
    have hbx : bx (pnM D) f = 89 + 2 * pnM D := if_pos hf
    unfold bkM
    unfold bkM at hVb
    rw [hbx] at hVb ⊢
    have hl : lkd (89 + 2 * pnM D) := Or.inl (by omega)
    have hloc : loc (89 + 2 * pnM D) = (6, pnM D) := by
      unfold loc
      rw [if_neg (by omega), if_neg (by omega), if_neg (by omega), if_pos (by omega)]
      have a1 : (89 + 2 * pnM D - 88) % 2 = 1 := by omega
      have a2 : (89 + 2 * pnM D - 88) / 2 = pnM D := by omega
      rw [a1, a2]
    by_cases q : D (89 + 2 * pnM D) < 9999
    · have q' : ¬ 9999 ≤ D (89 + 2 * pnM D) := Int32.not_le.mpr q
      have m1 : mn (D (89 + 2 * pnM D) + 1) 9999 = D (89 + 2 * pnM D) + 1 := by
        unfold mn
        refine if_pos ?_
        have g := hVb.1.2
        have g0 : (0 : Int) ≤ (D (89 + 2 * pnM D)).toInt := hVb.1.1
        have q2 := Int32.lt_iff_toInt_lt.mp q
        have z9 : (9999 : Int32).toInt = 9999 := rfl
        have z1 : (1 : Int32).toInt = 1 := rfl
        rw [Int32.le_iff_toInt_le, ti_add (by omega) (by omega), z1, z9]
        omega
      rw [m1]
      refine ⟨up σ (b + 6) (pnM D) (D (89 + 2 * pnM D) + 1), fun Q => ?_, WW_up hW _ hl _ (by rw [hloc]) (by rw [hloc]), WFr_up (by decide)⟩
      show Ev X (d + 1) 106 0 [some (.ref (b + 4)), some (.int f), none] [] (mem σ) Q = _
      simp only [E_iload1 (q := 1) cc_106 dX2_add_0 rfl, E_bipush (q := 3) (x := 10) cc_106 dX2_add_1 rfl rfl, E_icmp_lt (q := 6) (t := 13) cc_106 dX2_add_3 rfl rfl, E_aload0 (q := 7) cc_106 dX2_add_6 rfl, E_aloadN0 (q := 7) cc_106 dX2_add_6 rfl, E_getP (q := 10) (o := 2) cc_106 dX2_add_7 rfl (by decide) rfl (by decide) rfl, E_goto (t := 17) cc_106 dX2_add_10 rfl, E_aload0 (q := 14) cc_106 dX2_add_13 rfl, E_aloadN0 (q := 14) cc_106 dX2_add_13 rfl, E_getP (q := 17) (o := 1) cc_106 dX2_add_14 rfl (by decide) rfl (by decide) rfl, E_astore2 (q := 18) cc_106 dX2_add_17 rfl, E_aNstore2 (q := 18) cc_106 dX2_add_17 rfl, E_aload0 (q := 19) cc_106 dX2_add_18 rfl, E_aloadN0 (q := 19) cc_106 dX2_add_18 rfl, E_getI (q := 22) cc_106 dX2_add_19 rfl (by decide) rfl rfl, E_iconst (q := 23) (x := 0) cc_106 dX2_add_22 rfl rfl, E_bipush (q := 25) (x := 9) cc_106 dX2_add_23 rfl rfl, E_callS3 (q := 28) (j := 11) (mx := 3) cc_106 dX2_add_25 rfl rfl (by decide) (by decide) rfl, E_if_eq (q := 31) (t := 53) cc_106 dX2_add_28 rfl rfl, E_aload2 (q := 32) cc_106 dX2_add_31 rfl, E_aloadN2 (q := 32) cc_106 dX2_add_31 rfl, E_aload0 (q := 33) cc_106 dX2_add_32 rfl, E_aloadN0 (q := 33) cc_106 dX2_add_32 rfl, E_getI (q := 36) cc_106 dX2_add_33 rfl (by decide) rfl rfl, E_aldA (q := 37) cc_106 dX2_add_36 rfl, E_sipush (q := 40) (x := 9999) cc_106 dX2_add_37 rfl rfl, E_icmp_ge (q := 43) (t := 53) cc_106 dX2_add_40 rfl rfl, E_aload2 (q := 44) cc_106 dX2_add_43 rfl, E_aloadN2 (q := 44) cc_106 dX2_add_43 rfl, E_aload0 (q := 45) cc_106 dX2_add_44 rfl, E_aloadN0 (q := 45) cc_106 dX2_add_44 rfl, E_getI (q := 48) cc_106 dX2_add_45 rfl (by decide) rfl rfl, E_dup2 (q := 49) cc_106 dX2_add_48 (hq := rfl), E_aldA (q := 50) cc_106 dX2_add_49 rfl, E_iconst (q := 51) (x := 1) cc_106 dX2_add_50 rfl rfl, E_iadd (q := 52) cc_106 dX2_add_51 rfl, E_astA (q := 53) cc_106 dX2_add_52 rfl, E_return cc_106 dX2_add_53 rfl, Option.toList, List.cons_append, List.nil_append, cz_nil, cs_i, cs_r, cs_n, cs_l, az_nil, az_i, az_r, az_n, az_l, cl_i, cl_r, cl_n, cl_0, cl_l, bi_0, bi_n0, bi_nb, isb_0, isb_1, isb_bi, Nat.reduceAdd, Nat.reduceLeDiff, Nat.zero_le, Nat.zero_add, Nat.add_zero, s11, v1, f1, f2, f3, f4, hc, q', hf', cu_i, cu_r, nz_1, false_and, and_false, true_and, and_true, and_self, Int32.reduceOfInt, Int32.reduceAdd, Int32.reduceSub, Int32.reduceMul, Int32.reduceLT, Int32.reduceLE, nz_2, nz_3, nz_9, nz_10, nz_24, nz_60, not_false_eq_true, not_true_eq_false, if_false, if_true, reduceIte, w_o0 hb, w_o1 hb, w_o4 hb, w_o7 hb, w_o10 hb, w_o13 hb, w_a2 hb, w_n2 hb, w_a3 hb, w_n3 hb, w_a5 hb, w_n5 hb, w_a6 hb, w_n6 hb, w_a8 hb, w_n8 hb, w_a9 hb, w_n9 hb, w_a11 hb, w_n11 hb, w_a12 hb, w_n12 hb, w_a14 hb, w_n14 hb, w_a16 hb, w_n16 hb, w_a17 hb, w_n17 hb, Nat.add_assoc]
    · have m1 : mn (D (89 + 2 * pnM D) + 1) 9999 = D (89 + 2 * pnM D) := by
        have g := hVb.1.2
        have g0 : (0 : Int) ≤ (D (89 + 2 * pnM D)).toInt := hVb.1.1
        have z9 : (9999 : Int32).toInt = 9999 := rfl
        have z1 : (1 : Int32).toInt = 1 := rfl
        have q2 := Int32.le_iff_toInt_le.mp (Int32.not_lt.mp q)
        apply i_ext
        rw [ti_mn, ti_add (by omega) (by omega), z1, z9]
        have g2 : (D (89 + 2 * pnM D)).toInt ≤ 9999 := g
        split <;> omega
      rw [ud_id m1]
      have q' : 9999 ≤ D (89 + 2 * pnM D) := Int32.not_lt.mp q
      refine ⟨σ, fun Q => ?_, hW, WFr.refl b σ⟩
      show Ev X (d + 1) 106 0 [some (.ref (b + 4)), some (.int f), none] [] (mem σ) Q = _
      simp only [E_iload1 (q := 1) cc_106 dX2_add_0 rfl, E_bipush (q := 3) (x := 10) cc_106 dX2_add_1 rfl rfl, E_icmp_lt (q := 6) (t := 13) cc_106 dX2_add_3 rfl rfl, E_aload0 (q := 7) cc_106 dX2_add_6 rfl, E_aloadN0 (q := 7) cc_106 dX2_add_6 rfl, E_getP (q := 10) (o := 2) cc_106 dX2_add_7 rfl (by decide) rfl (by decide) rfl, E_goto (t := 17) cc_106 dX2_add_10 rfl, E_aload0 (q := 14) cc_106 dX2_add_13 rfl, E_aloadN0 (q := 14) cc_106 dX2_add_13 rfl, E_getP (q := 17) (o := 1) cc_106 dX2_add_14 rfl (by decide) rfl (by decide) rfl, E_astore2 (q := 18) cc_106 dX2_add_17 rfl, E_aNstore2 (q := 18) cc_106 dX2_add_17 rfl, E_aload0 (q := 19) cc_106 dX2_add_18 rfl, E_aloadN0 (q := 19) cc_106 dX2_add_18 rfl, E_getI (q := 22) cc_106 dX2_add_19 rfl (by decide) rfl rfl, E_iconst (q := 23) (x := 0) cc_106 dX2_add_22 rfl rfl, E_bipush (q := 25) (x := 9) cc_106 dX2_add_23 rfl rfl, E_callS3 (q := 28) (j := 11) (mx := 3) cc_106 dX2_add_25 rfl rfl (by decide) (by decide) rfl, E_if_eq (q := 31) (t := 53) cc_106 dX2_add_28 rfl rfl, E_aload2 (q := 32) cc_106 dX2_add_31 rfl, E_aloadN2 (q := 32) cc_106 dX2_add_31 rfl, E_aload0 (q := 33) cc_106 dX2_add_32 rfl, E_aloadN0 (q := 33) cc_106 dX2_add_32 rfl, E_getI (q := 36) cc_106 dX2_add_33 rfl (by decide) rfl rfl, E_aldA (q := 37) cc_106 dX2_add_36 rfl, E_sipush (q := 40) (x := 9999) cc_106 dX2_add_37 rfl rfl, E_icmp_ge (q := 43) (t := 53) cc_106 dX2_add_40 rfl rfl, E_aload2 (q := 44) cc_106 dX2_add_43 rfl, E_aloadN2 (q := 44) cc_106 dX2_add_43 rfl, E_aload0 (q := 45) cc_106 dX2_add_44 rfl, E_aloadN0 (q := 45) cc_106 dX2_add_44 rfl, E_getI (q := 48) cc_106 dX2_add_45 rfl (by decide) rfl rfl, E_dup2 (q := 49) cc_106 dX2_add_48 (hq := rfl), E_aldA (q := 50) cc_106 dX2_add_49 rfl, E_iconst (q := 51) (x := 1) cc_106 dX2_add_50 rfl rfl, E_iadd (q := 52) cc_106 dX2_add_51 rfl, E_astA (q := 53) cc_106 dX2_add_52 rfl, E_return cc_106 dX2_add_53 rfl, Option.toList, List.cons_append, List.nil_append, cz_nil, cs_i, cs_r, cs_n, cs_l, az_nil, az_i, az_r, az_n, az_l, cl_i, cl_r, cl_n, cl_0, cl_l, bi_0, bi_n0, bi_nb, isb_0, isb_1, isb_bi, Nat.reduceAdd, Nat.reduceLeDiff, Nat.zero_le, Nat.zero_add, Nat.add_zero, s11, v1, f1, f2, f3, f4, hc, q', hf', cu_i, cu_r, nz_1, false_and, and_false, true_and, and_true, and_self, Int32.reduceOfInt, Int32.reduceAdd, Int32.reduceSub, Int32.reduceMul, Int32.reduceLT, Int32.reduceLE, nz_2, nz_3, nz_9, nz_10, nz_24, nz_60, not_false_eq_true, not_true_eq_false, if_false, if_true, reduceIte, w_o0 hb, w_o1 hb, w_o4 hb, w_o7 hb, w_o10 hb, w_o13 hb, w_a2 hb, w_n2 hb, w_a3 hb, w_n3 hb, w_a5 hb, w_n5 hb, w_a6 hb, w_n6 hb, w_a8 hb, w_n8 hb, w_a9 hb, w_n9 hb, w_a11 hb, w_n11 hb, w_a12 hb, w_n12 hb, w_a14 hb, w_n14 hb, w_a16 hb, w_n16 hb, w_a17 hb, w_n17 hb, Nat.add_assoc]
  · have hf' : f < 10 := Int32.not_le.mp hf
    have hc : σ (b + 5) (pnM D) = D (88 + 2 * pnM D) := Rw_dry hW.1 v.2
    have hbx : bx (pnM D) f = 88 + 2 * pnM D := if_neg hf
    unfold bkM
    unfold bkM at hVb
    rw [hbx] at hVb ⊢
    have hl : lkd (88 + 2 * pnM D) := Or.inl (by omega)
    have hloc : loc (88 + 2 * pnM D) = (5, pnM D) := by
      unfold loc
      rw [if_neg (by omega), if_neg (by omega), if_neg (by omega), if_pos (by omega)]
      have a1 : (88 + 2 * pnM D - 88) % 2 = 0 := by omega
      have a2 : (88 + 2 * pnM D - 88) / 2 = pnM D := by omega
      rw [a1, a2]
    by_cases q : D (88 + 2 * pnM D) < 9999
    · have q' : ¬ 9999 ≤ D (88 + 2 * pnM D) := Int32.not_le.mpr q
      have m1 : mn (D (88 + 2 * pnM D) + 1) 9999 = D (88 + 2 * pnM D) + 1 := by
        unfold mn
        refine if_pos ?_
        have g := hVb.1.2
        have g0 : (0 : Int) ≤ (D (88 + 2 * pnM D)).toInt := hVb.1.1
        have q2 := Int32.lt_iff_toInt_lt.mp q
        have z9 : (9999 : Int32).toInt = 9999 := rfl
        have z1 : (1 : Int32).toInt = 1 := rfl
        rw [Int32.le_iff_toInt_le, ti_add (by omega) (by omega), z1, z9]
        omega
      rw [m1]
      refine ⟨up σ (b + 5) (pnM D) (D (88 + 2 * pnM D) + 1), fun Q => ?_, WW_up hW _ hl _ (by rw [hloc]) (by rw [hloc]), WFr_up (by decide)⟩
      show Ev X (d + 1) 106 0 [some (.ref (b + 4)), some (.int f), none] [] (mem σ) Q = _
      simp only [E_iload1 (q := 1) cc_106 dX2_add_0 rfl, E_bipush (q := 3) (x := 10) cc_106 dX2_add_1 rfl rfl, E_icmp_lt (q := 6) (t := 13) cc_106 dX2_add_3 rfl rfl, E_aload0 (q := 7) cc_106 dX2_add_6 rfl, E_aloadN0 (q := 7) cc_106 dX2_add_6 rfl, E_getP (q := 10) (o := 2) cc_106 dX2_add_7 rfl (by decide) rfl (by decide) rfl, E_goto (t := 17) cc_106 dX2_add_10 rfl, E_aload0 (q := 14) cc_106 dX2_add_13 rfl, E_aloadN0 (q := 14) cc_106 dX2_add_13 rfl, E_getP (q := 17) (o := 1) cc_106 dX2_add_14 rfl (by decide) rfl (by decide) rfl, E_astore2 (q := 18) cc_106 dX2_add_17 rfl, E_aNstore2 (q := 18) cc_106 dX2_add_17 rfl, E_aload0 (q := 19) cc_106 dX2_add_18 rfl, E_aloadN0 (q := 19) cc_106 dX2_add_18 rfl, E_getI (q := 22) cc_106 dX2_add_19 rfl (by decide) rfl rfl, E_iconst (q := 23) (x := 0) cc_106 dX2_add_22 rfl rfl, E_bipush (q := 25) (x := 9) cc_106 dX2_add_23 rfl rfl, E_callS3 (q := 28) (j := 11) (mx := 3) cc_106 dX2_add_25 rfl rfl (by decide) (by decide) rfl, E_if_eq (q := 31) (t := 53) cc_106 dX2_add_28 rfl rfl, E_aload2 (q := 32) cc_106 dX2_add_31 rfl, E_aloadN2 (q := 32) cc_106 dX2_add_31 rfl, E_aload0 (q := 33) cc_106 dX2_add_32 rfl, E_aloadN0 (q := 33) cc_106 dX2_add_32 rfl, E_getI (q := 36) cc_106 dX2_add_33 rfl (by decide) rfl rfl, E_aldA (q := 37) cc_106 dX2_add_36 rfl, E_sipush (q := 40) (x := 9999) cc_106 dX2_add_37 rfl rfl, E_icmp_ge (q := 43) (t := 53) cc_106 dX2_add_40 rfl rfl, E_aload2 (q := 44) cc_106 dX2_add_43 rfl, E_aloadN2 (q := 44) cc_106 dX2_add_43 rfl, E_aload0 (q := 45) cc_106 dX2_add_44 rfl, E_aloadN0 (q := 45) cc_106 dX2_add_44 rfl, E_getI (q := 48) cc_106 dX2_add_45 rfl (by decide) rfl rfl, E_dup2 (q := 49) cc_106 dX2_add_48 (hq := rfl), E_aldA (q := 50) cc_106 dX2_add_49 rfl, E_iconst (q := 51) (x := 1) cc_106 dX2_add_50 rfl rfl, E_iadd (q := 52) cc_106 dX2_add_51 rfl, E_astA (q := 53) cc_106 dX2_add_52 rfl, E_return cc_106 dX2_add_53 rfl, Option.toList, List.cons_append, List.nil_append, cz_nil, cs_i, cs_r, cs_n, cs_l, az_nil, az_i, az_r, az_n, az_l, cl_i, cl_r, cl_n, cl_0, cl_l, bi_0, bi_n0, bi_nb, isb_0, isb_1, isb_bi, Nat.reduceAdd, Nat.reduceLeDiff, Nat.zero_le, Nat.zero_add, Nat.add_zero, s11, v1, f1, f2, f3, f4, hc, q', hf', cu_i, cu_r, nz_1, false_and, and_false, true_and, and_true, and_self, Int32.reduceOfInt, Int32.reduceAdd, Int32.reduceSub, Int32.reduceMul, Int32.reduceLT, Int32.reduceLE, nz_2, nz_3, nz_9, nz_10, nz_24, nz_60, not_false_eq_true, not_true_eq_false, if_false, if_true, reduceIte, w_o0 hb, w_o1 hb, w_o4 hb, w_o7 hb, w_o10 hb, w_o13 hb, w_a2 hb, w_n2 hb, w_a3 hb, w_n3 hb, w_a5 hb, w_n5 hb, w_a6 hb, w_n6 hb, w_a8 hb, w_n8 hb, w_a9 hb, w_n9 hb, w_a11 hb, w_n11 hb, w_a12 hb, w_n12 hb, w_a14 hb, w_n14 hb, w_a16 hb, w_n16 hb, w_a17 hb, w_n17 hb, Nat.add_assoc]
    · have m1 : mn (D (88 + 2 * pnM D) + 1) 9999 = D (88 + 2 * pnM D) := by
        have g := hVb.1.2
        have g0 : (0 : Int) ≤ (D (88 + 2 * pnM D)).toInt := hVb.1.1
        have z9 : (9999 : Int32).toInt = 9999 := rfl
        have z1 : (1 : Int32).toInt = 1 := rfl
        have q2 := Int32.le_iff_toInt_le.mp (Int32.not_lt.mp q)
        apply i_ext
        rw [ti_mn, ti_add (by omega) (by omega), z1, z9]
        have g2 : (D (88 + 2 * pnM D)).toInt ≤ 9999 := g
        split <;> omega
      rw [ud_id m1]
      have q' : 9999 ≤ D (88 + 2 * pnM D) := Int32.not_lt.mp q
      refine ⟨σ, fun Q => ?_, hW, WFr.refl b σ⟩
      show Ev X (d + 1) 106 0 [some (.ref (b + 4)), some (.int f), none] [] (mem σ) Q = _
      simp only [E_iload1 (q := 1) cc_106 dX2_add_0 rfl, E_bipush (q := 3) (x := 10) cc_106 dX2_add_1 rfl rfl, E_icmp_lt (q := 6) (t := 13) cc_106 dX2_add_3 rfl rfl, E_aload0 (q := 7) cc_106 dX2_add_6 rfl, E_aloadN0 (q := 7) cc_106 dX2_add_6 rfl, E_getP (q := 10) (o := 2) cc_106 dX2_add_7 rfl (by decide) rfl (by decide) rfl, E_goto (t := 17) cc_106 dX2_add_10 rfl, E_aload0 (q := 14) cc_106 dX2_add_13 rfl, E_aloadN0 (q := 14) cc_106 dX2_add_13 rfl, E_getP (q := 17) (o := 1) cc_106 dX2_add_14 rfl (by decide) rfl (by decide) rfl, E_astore2 (q := 18) cc_106 dX2_add_17 rfl, E_aNstore2 (q := 18) cc_106 dX2_add_17 rfl, E_aload0 (q := 19) cc_106 dX2_add_18 rfl, E_aloadN0 (q := 19) cc_106 dX2_add_18 rfl, E_getI (q := 22) cc_106 dX2_add_19 rfl (by decide) rfl rfl, E_iconst (q := 23) (x := 0) cc_106 dX2_add_22 rfl rfl, E_bipush (q := 25) (x := 9) cc_106 dX2_add_23 rfl rfl, E_callS3 (q := 28) (j := 11) (mx := 3) cc_106 dX2_add_25 rfl rfl (by decide) (by decide) rfl, E_if_eq (q := 31) (t := 53) cc_106 dX2_add_28 rfl rfl, E_aload2 (q := 32) cc_106 dX2_add_31 rfl, E_aloadN2 (q := 32) cc_106 dX2_add_31 rfl, E_aload0 (q := 33) cc_106 dX2_add_32 rfl, E_aloadN0 (q := 33) cc_106 dX2_add_32 rfl, E_getI (q := 36) cc_106 dX2_add_33 rfl (by decide) rfl rfl, E_aldA (q := 37) cc_106 dX2_add_36 rfl, E_sipush (q := 40) (x := 9999) cc_106 dX2_add_37 rfl rfl, E_icmp_ge (q := 43) (t := 53) cc_106 dX2_add_40 rfl rfl, E_aload2 (q := 44) cc_106 dX2_add_43 rfl, E_aloadN2 (q := 44) cc_106 dX2_add_43 rfl, E_aload0 (q := 45) cc_106 dX2_add_44 rfl, E_aloadN0 (q := 45) cc_106 dX2_add_44 rfl, E_getI (q := 48) cc_106 dX2_add_45 rfl (by decide) rfl rfl, E_dup2 (q := 49) cc_106 dX2_add_48 (hq := rfl), E_aldA (q := 50) cc_106 dX2_add_49 rfl, E_iconst (q := 51) (x := 1) cc_106 dX2_add_50 rfl rfl, E_iadd (q := 52) cc_106 dX2_add_51 rfl, E_astA (q := 53) cc_106 dX2_add_52 rfl, E_return cc_106 dX2_add_53 rfl, Option.toList, List.cons_append, List.nil_append, cz_nil, cs_i, cs_r, cs_n, cs_l, az_nil, az_i, az_r, az_n, az_l, cl_i, cl_r, cl_n, cl_0, cl_l, bi_0, bi_n0, bi_nb, isb_0, isb_1, isb_bi, Nat.reduceAdd, Nat.reduceLeDiff, Nat.zero_le, Nat.zero_add, Nat.add_zero, s11, v1, f1, f2, f3, f4, hc, q', hf', cu_i, cu_r, nz_1, false_and, and_false, true_and, and_true, and_self, Int32.reduceOfInt, Int32.reduceAdd, Int32.reduceSub, Int32.reduceMul, Int32.reduceLT, Int32.reduceLE, nz_2, nz_3, nz_9, nz_10, nz_24, nz_60, not_false_eq_true, not_true_eq_false, if_false, if_true, reduceIte, w_o0 hb, w_o1 hb, w_o4 hb, w_o7 hb, w_o10 hb, w_o13 hb, w_a2 hb, w_n2 hb, w_a3 hb, w_n3 hb, w_a5 hb, w_n5 hb, w_a6 hb, w_n6 hb, w_a8 hb, w_n8 hb, w_a9 hb, w_n9 hb, w_a11 hb, w_n11 hb, w_a12 hb, w_n12 hb, w_a14 hb, w_n14 hb, w_a16 hb, w_n16 hb, w_a17 hb, w_n17 hb, Nat.add_assoc]
def st3 (f nt : Int32) (D : Nat → Int32) : Nat → Int32 := ud (if D 11 = 0 then D else bkM f D) 10 nt
def st4 (c : Int32) (D : Nat → Int32) : Nat → Int32 := ud D 8 (D 8 + (if D 8 < D 7 then c else 0))
def rnM (D : Nat → Int32) (h : Int32) : Int32 := D (16 + rm h 24).toNatClampNeg
def st5 (s : Int32) (D : Nat → Int32) : Nat → Int32 := ud D 5 (mx 0 (mn (D 5 + rnM D (D 11) - s) 90))
def lvM (l : List Int32) (f : Int32) (D : Nat → Int32) : Int32 := D 3 - g1 l (D 3) f (D 4) + f
def st6 (l : List Int32) (f : Int32) (D : Nat → Int32) : Nat → Int32 := ud (ud (ud D 3 (mn (lvM l f D) 600)) 9 (mn (D 9 + lvM l f D - mn (lvM l f D) 600) 999999)) 11 (D 11 + 1)
def goF (r l : List Int32) (D : Nat → Int32) : Nat → Int32 := st6 l (flM D (D 11)) (st5 (skM r D) (st4 (cuM D) (st3 (flM D (D 11)) (ntM D (skM r D)) (hkF (skM r D) (ntM D (skM r D)) 0 (NM D) D))))
theorem rg_i {x : Int32} {a b : Int} (h : a ≤ x.toInt) (g : x.toInt ≤ b) : rg x (a, b) := ⟨h, g⟩
theorem V_st3 {H : Int} {D : Nat → Int32} {r l : List Int32} (h : V H D r l) (f : Int32) {nt : Int32} (hn : rg nt (0, 9)) : V H (st3 f nt D) r l := by
  unfold st3
  refine V_ud ?_ (Or.inl (by decide)) hn
  split
  · exact h
  · exact (V_bk h f).2
theorem V_st4 {H : Int} {D : Nat → Int32} {r l : List Int32} (h : V H D r l) (c : Int32) : V H (st4 c D) r l := V_ud h (Or.inl (by decide)) (rg_all _)
theorem V_st5 {H : Int} {D : Nat → Int32} {r l : List Int32} (h : V H D r l) (s : Int32) : V H (st5 s D) r l := by
  refine V_ud h (Or.inl (by decide)) ?_
  have z9 : (90 : Int32).toInt = 90 := rfl
  have z0 : (0 : Int32).toInt = 0 := rfl
  show (0 : Int) ≤ (mx _ _).toInt ∧ (mx _ _).toInt ≤ 90
  rw [ti_mx, ti_mn, z9, z0]
  constructor <;> (split <;> split <;> omega)
theorem V_mono {H H' : Int} {D : Nat → Int32} {r l : List Int32} (h : V H D r l) (hH : H ≤ H') : V H' D r l := by
  refine ⟨fun k => ?_, h.2⟩
  have e := h.1 k
  unfold bnd at e ⊢
  split
  · rename_i q; rw [if_pos q] at e; exact e
  · rename_i q
    rw [if_neg q] at e
    split
    · rename_i q2
      rw [if_pos q2] at e
      by_cases k11 : k = 11
      · subst k11
        exact ⟨e.1, Int.le_trans e.2 hH⟩
      · rcases (show k = 3 ∨ k = 4 ∨ k = 5 ∨ k = 6 ∨ k = 7 ∨ k = 8 ∨ k = 9 ∨ k = 10 ∨ k = 12 ∨ k = 13 ∨ k = 14 ∨ k = 15 by omega) with rfl | rfl | rfl | rfl | rfl | rfl | rfl | rfl | rfl | rfl | rfl | rfl <;> exact e
    · rename_i q2
      rw [if_neg q2] at e
      exact e
theorem V_hr {H : Int} {D : Nat → Int32} {r l : List Int32} (h : V H D r l) {v : Int32} (h0 : 0 ≤ v.toInt) {H' : Int} (h1 : v.toInt ≤ H') : V H' (ud D 11 v) r l := by
  have a := V_mono (H' := max H H') h (by omega)
  refine ⟨fun k => ?_, VT_ud h.2.1 (Or.inl rfl) (Or.inl (by decide)), VT_ud h.2.2 (Or.inr rfl) (Or.inl (by decide))⟩
  by_cases e : k = 11
  · subst e
    rw [ud_s]
    exact ⟨h0, h1⟩
  · rw [ud_o e]
    have z := h.1 k
    have : bnd H' k = bnd H k := by
      unfold bnd
      split
      · rfl
      · split
        · rename_i q1 q2
          rcases (show k = 3 ∨ k = 4 ∨ k = 5 ∨ k = 6 ∨ k = 7 ∨ k = 8 ∨ k = 9 ∨ k = 10 ∨ k = 12 ∨ k = 13 ∨ k = 14 ∨ k = 15 by omega) with rfl | rfl | rfl | rfl | rfl | rfl | rfl | rfl | rfl | rfl | rfl | rfl <;> rfl
        · rfl
    rw [this]
    exact z
theorem V_st6 {H : Int} {D : Nat → Int32} {r l : List Int32} (h : V H D r l) (hH : H < 2147483647) (f : Int32) : V (H + 1) (st6 l f D) r l := by
  have h11 : (0 : Int) ≤ (D 11).toInt ∧ (D 11).toInt ≤ H := h.1 11
  have z1 : (1 : Int32).toInt = 1 := rfl
  have e : (D 11 + 1).toInt = (D 11).toInt + 1 := by rw [ti_add (by omega) (by omega), z1]
  exact V_hr (V_ud (V_ud h (Or.inl (by decide)) (rg_all _)) (Or.inl (by decide)) (rg_all _)) (by omega) (by omega)
theorem p1 (X : im_E) (d : Nat) {b : Nat} (hb : WB b) {σ : Nat → Nat → Int32} {D : Nat → Int32} {r l : List Int32} {H : Int} (hW : WW σ b D r l) (hV : V H D r l) : ∃ τ : Nat → Nat → Int32, (∀ Q, Ev X (d + 1 + 1 + 1 + 1 + 1) 104 0 (im_ent 6 [.ref b]) [] (mem σ) Q = Ev X (d + 1 + 1 + 1 + 1 + 1) 104 27 [some (.ref b), some (.int (flM D (D 11))), some (.int (cuM D)), some (.int (skM r D)), some (.int (ntM D (skM r D))), some (.int 0)] [] (mem τ) Q) ∧ WW τ b D r l ∧ WFr b σ τ := by
  have a1 := c21 X (d + 1) hb hW hV
  have a2 := c25 X (d + 1 + 1 + 1) hb (flM D (D 11)) hW hV
  obtain ⟨τ, e1, e2⟩ := c28 X (d + 1) hb (cuM D) hW hV
  have hW2 := WW_CG hW e2
  have a3 := c36 X (d + 1 + 1 + 1 + 1) hb (skM r D) hW2 hV
  refine ⟨τ, fun Q => ?_, hW2, WFr_CG e2⟩
  show Ev X (d + 1 + 1 + 1 + 1 + 1) 104 0 [some (.ref b), none, none, none, none, none] [] (mem σ) Q = _
  have a2' : ∀ Q, Ev X (d + 1 + 1 + 1 + 1) 25 0 (im_ent 2 [.ref b, .int (flM D (D 11))]) [] (mem σ) Q = Q (some (.int (cuM D))) (mem σ) := a2
  have e1' : ∀ Q, Ev X (d + 1 + 1 + 1 + 1) 28 0 (im_ent 2 [.ref b, .int (cuM D)]) [] (mem σ) Q = Q (some (.int (skM r D))) (mem τ) := e1
  conv => lhs; simp only [E_aload0 (q := 1) cc_104 dX8_passHour_0 rfl, E_aloadN0 (q := 1) cc_104 dX8_passHour_0 rfl, E_cV0 (q := 4) (j := 21) (mx := 1) (ci := 8) cc_104 dX8_passHour_1 rfl rfl (by decide) rfl rfl, E_istore1 (q := 5) cc_104 dX8_passHour_4 rfl, E_aload0 (q := 6) cc_104 dX8_passHour_5 rfl, E_aloadN0 (q := 6) cc_104 dX8_passHour_5 rfl, E_iload1 (q := 7) cc_104 dX8_passHour_6 rfl, E_cV1 (q := 10) (j := 25) (mx := 2) (ci := 8) cc_104 dX8_passHour_7 rfl rfl (by decide) rfl rfl, E_istore2 (q := 11) cc_104 dX8_passHour_10 rfl, E_aload0 (q := 12) cc_104 dX8_passHour_11 rfl, E_aloadN0 (q := 12) cc_104 dX8_passHour_11 rfl, E_iload2 (q := 13) cc_104 dX8_passHour_12 rfl, E_cV1 (q := 16) (j := 28) (mx := 2) (ci := 8) cc_104 dX8_passHour_13 rfl rfl (by decide) rfl rfl, E_istore3 (q := 17) cc_104 dX8_passHour_16 rfl, E_aload0 (q := 18) cc_104 dX8_passHour_17 rfl, E_aloadN0 (q := 18) cc_104 dX8_passHour_17 rfl, E_iload3 (q := 19) cc_104 dX8_passHour_18 rfl, E_cV1 (q := 22) (j := 36) (mx := 2) (ci := 8) cc_104 dX8_passHour_19 rfl rfl (by decide) rfl rfl, E_istore4 (q := 24) cc_104 dX8_passHour_22 rfl, E_iconst (q := 25) (x := 0) cc_104 dX8_passHour_24 rfl rfl, E_istore5 (q := 27) cc_104 dX8_passHour_25 rfl, Option.toList, List.cons_append, List.nil_append, cz_nil, cs_i, cs_r, cs_n, cs_l, az_nil, az_i, az_r, az_n, az_l, cl_i, cl_r, cl_n, cl_0, cl_l, bi_0, bi_n0, bi_nb, isb_0, isb_1, isb_bi, Nat.reduceAdd, Nat.reduceLeDiff, Nat.zero_le, Nat.zero_add, Nat.add_zero, a1, a2', e1', a3, cu_i, cu_r, nz_1, false_and, and_false, true_and, and_true, and_self, Int32.reduceOfInt, Int32.reduceAdd, Int32.reduceSub, Int32.reduceMul, Int32.reduceLT, Int32.reduceLE, nz_2, nz_3, nz_9, nz_10, nz_24, nz_60, not_false_eq_true, not_true_eq_false, if_false, if_true, reduceIte, w_o0 hb, w_o1 hb, w_o4 hb, w_o7 hb, w_o10 hb, w_o13 hb, w_a2 hb, w_n2 hb, w_a3 hb, w_n3 hb, w_a5 hb, w_n5 hb, w_a6 hb, w_n6 hb, w_a8 hb, w_n8 hb, w_a9 hb, w_n9 hb, w_a11 hb, w_n11 hb, w_a12 hb, w_n12 hb, w_a14 hb, w_n14 hb, w_a16 hb, w_n16 hb, w_a17 hb, w_n17 hb, Nat.add_assoc]
theorem p3 (X : im_E) (d : Nat) {b : Nat} (hb : WB b) (f c s nt : Int32) (o5 : Option Value) {σ : Nat → Nat → Int32} {D : Nat → Int32} {r l : List Int32} {H : Int} (hW : WW σ b D r l) (hV : V H D r l) : ∃ τ : Nat → Nat → Int32, (∀ Q, Ev X (d + 1 + 1 + 1 + 1 + 1) 104 62 [some (.ref b), some (.int f), some (.int c), some (.int s), some (.int nt), o5] [] (mem σ) Q = Ev X (d + 1 + 1 + 1 + 1 + 1) 104 86 [some (.ref b), some (.int f), some (.int c), some (.int s), some (.int nt), o5] [] (mem τ) Q) ∧ WW τ b (st3 f nt D) r l ∧ WFr b σ τ := by
  unfold st3
  have e11 := Rw_11 hW.1
  by_cases h : D 11 = 0
  · rw [if_pos h]
    rw [h] at e11
    refine ⟨up σ (b + 4) 2 nt, fun Q => ?_, WW_up hW 10 (Or.inl (by decide)) nt rfl rfl, WFr_up (by decide)⟩
    conv => lhs; simp only [E_aload0 (q := 63) cc_104 dX8_passHour_62 rfl, E_aloadN0 (q := 63) cc_104 dX8_passHour_62 rfl, E_getI (q := 66) cc_104 dX8_passHour_63 rfl (by decide) rfl rfl, E_if_eq (q := 69) (t := 77) cc_104 dX8_passHour_66 rfl rfl, E_aload0 (q := 70) cc_104 dX8_passHour_69 rfl, E_aloadN0 (q := 70) cc_104 dX8_passHour_69 rfl, E_getP (q := 73) (o := 4) cc_104 dX8_passHour_70 rfl (by decide) rfl (by decide) rfl, E_iload1 (q := 74) cc_104 dX8_passHour_73 rfl, E_cV1 (q := 77) (j := 106) (mx := 3) (ci := 2) cc_104 dX8_passHour_74 rfl rfl (by decide) rfl rfl, E_aload0 (q := 78) cc_104 dX8_passHour_77 rfl, E_aloadN0 (q := 78) cc_104 dX8_passHour_77 rfl, E_getP (q := 81) (o := 4) cc_104 dX8_passHour_78 rfl (by decide) rfl (by decide) rfl, E_iload4 (q := 83) cc_104 dX8_passHour_81 rfl, E_putI (q := 86) cc_104 dX8_passHour_83 rfl rfl rfl (Or.inl rfl), Option.toList, List.cons_append, List.nil_append, cz_nil, cs_i, cs_r, cs_n, cs_l, az_nil, az_i, az_r, az_n, az_l, cl_i, cl_r, cl_n, cl_0, cl_l, bi_0, bi_n0, bi_nb, isb_0, isb_1, isb_bi, Nat.reduceAdd, Nat.reduceLeDiff, Nat.zero_le, Nat.zero_add, Nat.add_zero, e11, cu_i, cu_r, nz_1, false_and, and_false, true_and, and_true, and_self, Int32.reduceOfInt, Int32.reduceAdd, Int32.reduceSub, Int32.reduceMul, Int32.reduceLT, Int32.reduceLE, nz_2, nz_3, nz_9, nz_10, nz_24, nz_60, not_false_eq_true, not_true_eq_false, if_false, if_true, reduceIte, w_o0 hb, w_o1 hb, w_o4 hb, w_o7 hb, w_o10 hb, w_o13 hb, w_a2 hb, w_n2 hb, w_a3 hb, w_n3 hb, w_a5 hb, w_n5 hb, w_a6 hb, w_n6 hb, w_a8 hb, w_n8 hb, w_a9 hb, w_n9 hb, w_a11 hb, w_n11 hb, w_a12 hb, w_n12 hb, w_a14 hb, w_n14 hb, w_a16 hb, w_n16 hb, w_a17 hb, w_n17 hb, Nat.add_assoc]
  · rw [if_neg h]
    obtain ⟨τ, e1, e2, e3⟩ := c106 X (d + 1 + 1 + 1) hb f hW hV
    refine ⟨up τ (b + 4) 2 nt, fun Q => ?_, WW_up e2 10 (Or.inl (by decide)) nt rfl rfl, e3.trans (WFr_up (by decide))⟩
    conv => lhs; simp only [E_aload0 (q := 63) cc_104 dX8_passHour_62 rfl, E_aloadN0 (q := 63) cc_104 dX8_passHour_62 rfl, E_getI (q := 66) cc_104 dX8_passHour_63 rfl (by decide) rfl rfl, E_if_eq (q := 69) (t := 77) cc_104 dX8_passHour_66 rfl rfl, E_aload0 (q := 70) cc_104 dX8_passHour_69 rfl, E_aloadN0 (q := 70) cc_104 dX8_passHour_69 rfl, E_getP (q := 73) (o := 4) cc_104 dX8_passHour_70 rfl (by decide) rfl (by decide) rfl, E_iload1 (q := 74) cc_104 dX8_passHour_73 rfl, E_cV1 (q := 77) (j := 106) (mx := 3) (ci := 2) cc_104 dX8_passHour_74 rfl rfl (by decide) rfl rfl, E_aload0 (q := 78) cc_104 dX8_passHour_77 rfl, E_aloadN0 (q := 78) cc_104 dX8_passHour_77 rfl, E_getP (q := 81) (o := 4) cc_104 dX8_passHour_78 rfl (by decide) rfl (by decide) rfl, E_iload4 (q := 83) cc_104 dX8_passHour_81 rfl, E_putI (q := 86) cc_104 dX8_passHour_83 rfl rfl rfl (Or.inl rfl), Option.toList, List.cons_append, List.nil_append, cz_nil, cs_i, cs_r, cs_n, cs_l, az_nil, az_i, az_r, az_n, az_l, cl_i, cl_r, cl_n, cl_0, cl_l, bi_0, bi_n0, bi_nb, isb_0, isb_1, isb_bi, Nat.reduceAdd, Nat.reduceLeDiff, Nat.zero_le, Nat.zero_add, Nat.add_zero, e11, h, e1, cu_i, cu_r, nz_1, false_and, and_false, true_and, and_true, and_self, Int32.reduceOfInt, Int32.reduceAdd, Int32.reduceSub, Int32.reduceMul, Int32.reduceLT, Int32.reduceLE, nz_2, nz_3, nz_9, nz_10, nz_24, nz_60, not_false_eq_true, not_true_eq_false, if_false, if_true, reduceIte, w_o0 hb, w_o1 hb, w_o4 hb, w_o7 hb, w_o10 hb, w_o13 hb, w_a2 hb, w_n2 hb, w_a3 hb, w_n3 hb, w_a5 hb, w_n5 hb, w_a6 hb, w_n6 hb, w_a8 hb, w_n8 hb, w_a9 hb, w_n9 hb, w_a11 hb, w_n11 hb, w_a12 hb, w_n12 hb, w_a14 hb, w_n14 hb, w_a16 hb, w_n16 hb, w_a17 hb, w_n17 hb, Nat.add_assoc]
theorem p4 (X : im_E) (d : Nat) {b : Nat} (hb : WB b) (f c s nt : Int32) (o5 : Option Value) {σ : Nat → Nat → Int32} {D : Nat → Int32} {r l : List Int32} {H : Int} (hW : WW σ b D r l) (hV : V H D r l) : ∃ τ : Nat → Nat → Int32, (∀ Q, Ev X (d + 1 + 1 + 1 + 1 + 1) 104 86 [some (.ref b), some (.int f), some (.int c), some (.int s), some (.int nt), o5] [] (mem σ) Q = Ev X (d + 1 + 1 + 1 + 1 + 1) 104 103 [some (.ref b), some (.int f), some (.int c), some (.int s), some (.int nt), o5] [] (mem τ) Q) ∧ WW τ b (st4 c D) r l ∧ WFr b σ τ := by
  unfold st4
  have e8 := Rw_8 hW.1
  have a1 := c29 X (d + 1 + 1 + 1 + 1) hb hW hV
  by_cases h : D 8 < D 7
  · rw [if_pos h]
    refine ⟨up σ b 16 (D 8 + c), fun Q => ?_, WW_up hW 8 (Or.inl (by decide)) _ rfl rfl, WFr_up0⟩
    conv => lhs; simp only [E_aload0 (q := 87) cc_104 dX8_passHour_86 rfl, E_aloadN0 (q := 87) cc_104 dX8_passHour_86 rfl, E_cV0 (q := 90) (j := 29) (mx := 1) (ci := 8) cc_104 dX8_passHour_87 rfl rfl (by decide) rfl rfl, E_if_eq (q := 93) (t := 103) cc_104 dX8_passHour_90 rfl rfl, E_aload0 (q := 94) cc_104 dX8_passHour_93 rfl, E_aloadN0 (q := 94) cc_104 dX8_passHour_93 rfl, E_dup (q := 95) cc_104 dX8_passHour_94 (hq := rfl), E_getI (q := 98) cc_104 dX8_passHour_95 rfl (by decide) rfl rfl, E_iload2 (q := 99) cc_104 dX8_passHour_98 rfl, E_iadd (q := 100) cc_104 dX8_passHour_99 rfl, E_putI (q := 103) cc_104 dX8_passHour_100 rfl rfl rfl (Or.inl rfl), Option.toList, List.cons_append, List.nil_append, cz_nil, cs_i, cs_r, cs_n, cs_l, az_nil, az_i, az_r, az_n, az_l, cl_i, cl_r, cl_n, cl_0, cl_l, bi_0, bi_n0, bi_nb, isb_0, isb_1, isb_bi, Nat.reduceAdd, Nat.reduceLeDiff, Nat.zero_le, Nat.zero_add, Nat.add_zero, e8, a1, h, cu_i, cu_r, nz_1, false_and, and_false, true_and, and_true, and_self, Int32.reduceOfInt, Int32.reduceAdd, Int32.reduceSub, Int32.reduceMul, Int32.reduceLT, Int32.reduceLE, nz_2, nz_3, nz_9, nz_10, nz_24, nz_60, not_false_eq_true, not_true_eq_false, if_false, if_true, reduceIte, w_o0 hb, w_o1 hb, w_o4 hb, w_o7 hb, w_o10 hb, w_o13 hb, w_a2 hb, w_n2 hb, w_a3 hb, w_n3 hb, w_a5 hb, w_n5 hb, w_a6 hb, w_n6 hb, w_a8 hb, w_n8 hb, w_a9 hb, w_n9 hb, w_a11 hb, w_n11 hb, w_a12 hb, w_n12 hb, w_a14 hb, w_n14 hb, w_a16 hb, w_n16 hb, w_a17 hb, w_n17 hb, Nat.add_assoc]
  · rw [if_neg h, ud_id (Int32.add_zero _)]
    refine ⟨σ, fun Q => ?_, hW, WFr.refl b σ⟩
    conv => lhs; simp only [E_aload0 (q := 87) cc_104 dX8_passHour_86 rfl, E_aloadN0 (q := 87) cc_104 dX8_passHour_86 rfl, E_cV0 (q := 90) (j := 29) (mx := 1) (ci := 8) cc_104 dX8_passHour_87 rfl rfl (by decide) rfl rfl, E_if_eq (q := 93) (t := 103) cc_104 dX8_passHour_90 rfl rfl, E_aload0 (q := 94) cc_104 dX8_passHour_93 rfl, E_aloadN0 (q := 94) cc_104 dX8_passHour_93 rfl, E_dup (q := 95) cc_104 dX8_passHour_94 (hq := rfl), E_getI (q := 98) cc_104 dX8_passHour_95 rfl (by decide) rfl rfl, E_iload2 (q := 99) cc_104 dX8_passHour_98 rfl, E_iadd (q := 100) cc_104 dX8_passHour_99 rfl, E_putI (q := 103) cc_104 dX8_passHour_100 rfl rfl rfl (Or.inl rfl), Option.toList, List.cons_append, List.nil_append, cz_nil, cs_i, cs_r, cs_n, cs_l, az_nil, az_i, az_r, az_n, az_l, cl_i, cl_r, cl_n, cl_0, cl_l, bi_0, bi_n0, bi_nb, isb_0, isb_1, isb_bi, Nat.reduceAdd, Nat.reduceLeDiff, Nat.zero_le, Nat.zero_add, Nat.add_zero, a1, h, cu_i, cu_r, nz_1, false_and, and_false, true_and, and_true, and_self, Int32.reduceOfInt, Int32.reduceAdd, Int32.reduceSub, Int32.reduceMul, Int32.reduceLT, Int32.reduceLE, nz_2, nz_3, nz_9, nz_10, nz_24, nz_60, not_false_eq_true, not_true_eq_false, if_false, if_true, reduceIte, w_o0 hb, w_o1 hb, w_o4 hb, w_o7 hb, w_o10 hb, w_o13 hb, w_a2 hb, w_n2 hb, w_a3 hb, w_n3 hb, w_a5 hb, w_n5 hb, w_a6 hb, w_n6 hb, w_a8 hb, w_n8 hb, w_a9 hb, w_n9 hb, w_a11 hb, w_n11 hb, w_a12 hb, w_n12 hb, w_a14 hb, w_n14 hb, w_a16 hb, w_n16 hb, w_a17 hb, w_n17 hb, Nat.add_assoc]
theorem p5 (X : im_E) (d : Nat) {b : Nat} (hb : WB b) (f c s nt : Int32) (o5 : Option Value) {σ : Nat → Nat → Int32} {D : Nat → Int32} {r l : List Int32} {H : Int} (hW : WW σ b D r l) (hV : V H D r l) : ∃ τ : Nat → Nat → Int32, (∀ Q, Ev X (d + 1 + 1 + 1 + 1 + 1) 104 103 [some (.ref b), some (.int f), some (.int c), some (.int s), some (.int nt), o5] [] (mem σ) Q = Ev X (d + 1 + 1 + 1 + 1 + 1) 104 132 [some (.ref b), some (.int f), some (.int c), some (.int s), some (.int nt), o5] [] (mem τ) Q) ∧ WW τ b (st5 s D) r l ∧ WFr b σ τ := by
  have e5 := Rw_5 hW.1
  have a1 := s22 X (d + 1 + 1 + 1) hb σ
  have h0 := V_h hV
  obtain ⟨m, hm, em, _⟩ := h24 h0
  obtain ⟨f1, f2, f3, f4, f5, f6, f7, f8, f9⟩ := h24_facts ⟨m, hm⟩
  have e10 : σ b 10 = D 11 := Rw_11 hW.1
  have hfm : fm (D 11) 24 = Int32.ofNat m := by rw [fm_rm (le_0 h0) (by decide), em]
  rw [e10, hfm] at a1
  have hr : rnM D (D 11) = D (16 + m) := by unfold rnM; rw [em, f7]
  have e3 := Rw_r hW.1 m (by omega)
  have a2 := fun Q => s13 X (d + 1 + 1 + 1) (b + 1) 0 (Int32.ofNat m) σ Q (w_o1 hb) (w_a3 hb)
  rw [if_pos f1, f4] at a2
  have e3' : σ (b + 1 + 2) m = D (16 + m) := e3
  rw [e3', ← hr] at a2
  unfold st5
  refine ⟨up σ b 14 (mx 0 (mn (D 5 + rnM D (D 11) - s) 90)), fun Q => ?_, WW_up hW 5 (Or.inl (by decide)) _ rfl rfl, WFr_up0⟩
  conv => lhs; simp only [E_aload0 (q := 104) cc_104 dX8_passHour_103 rfl, E_aloadN0 (q := 104) cc_104 dX8_passHour_103 rfl, E_aload0 (q := 105) cc_104 dX8_passHour_104 rfl, E_aloadN0 (q := 105) cc_104 dX8_passHour_104 rfl, E_getI (q := 108) cc_104 dX8_passHour_105 rfl (by decide) rfl rfl, E_aload0 (q := 109) cc_104 dX8_passHour_108 rfl, E_aloadN0 (q := 109) cc_104 dX8_passHour_108 rfl, E_getP (q := 112) (o := 1) cc_104 dX8_passHour_109 rfl (by decide) rfl (by decide) rfl, E_iconst (q := 113) (x := 0) cc_104 dX8_passHour_112 rfl rfl, E_aload0 (q := 114) cc_104 dX8_passHour_113 rfl, E_aloadN0 (q := 114) cc_104 dX8_passHour_113 rfl, E_cV0 (q := 117) (j := 22) (mx := 1) (ci := 8) cc_104 dX8_passHour_114 rfl rfl (by decide) rfl rfl, E_cV2 (q := 120) (j := 13) (mx := 4) (ci := 5) cc_104 dX8_passHour_117 rfl rfl (by decide) rfl rfl, E_iadd (q := 121) cc_104 dX8_passHour_120 rfl, E_iload3 (q := 122) cc_104 dX8_passHour_121 rfl, E_isub (q := 123) cc_104 dX8_passHour_122 rfl, E_iconst (q := 124) (x := 0) cc_104 dX8_passHour_123 rfl rfl, E_bipush (q := 126) (x := 90) cc_104 dX8_passHour_124 rfl rfl, E_callS3 (q := 129) (j := 34) (mx := 3) cc_104 dX8_passHour_126 rfl rfl (by decide) (by decide) rfl, E_putI (q := 132) cc_104 dX8_passHour_129 rfl rfl rfl (Or.inl rfl), Option.toList, List.cons_append, List.nil_append, cz_nil, cs_i, cs_r, cs_n, cs_l, az_nil, az_i, az_r, az_n, az_l, cl_i, cl_r, cl_n, cl_0, cl_l, bi_0, bi_n0, bi_nb, isb_0, isb_1, isb_bi, Nat.reduceAdd, Nat.reduceLeDiff, Nat.zero_le, Nat.zero_add, Nat.add_zero, e5, a1, a2, s34, cu_i, cu_r, nz_1, false_and, and_false, true_and, and_true, and_self, Int32.reduceOfInt, Int32.reduceAdd, Int32.reduceSub, Int32.reduceMul, Int32.reduceLT, Int32.reduceLE, nz_2, nz_3, nz_9, nz_10, nz_24, nz_60, not_false_eq_true, not_true_eq_false, if_false, if_true, reduceIte, w_o0 hb, w_o1 hb, w_o4 hb, w_o7 hb, w_o10 hb, w_o13 hb, w_a2 hb, w_n2 hb, w_a3 hb, w_n3 hb, w_a5 hb, w_n5 hb, w_a6 hb, w_n6 hb, w_a8 hb, w_n8 hb, w_a9 hb, w_n9 hb, w_a11 hb, w_n11 hb, w_a12 hb, w_n12 hb, w_a14 hb, w_n14 hb, w_a16 hb, w_n16 hb, w_a17 hb, w_n17 hb, Nat.add_assoc]
theorem p6 (X : im_E) (d : Nat) {b : Nat} (hb : WB b) (f c s nt : Int32) (o5 : Option Value) {σ : Nat → Nat → Int32} {D : Nat → Int32} {r l : List Int32} {H : Int} (hW : WW σ b D r l) (hV : V H D r l) : ∃ τ : Nat → Nat → Int32, (∀ Q, Ev X (d + 1 + 1 + 1 + 1 + 1) 104 132 [some (.ref b), some (.int f), some (.int c), some (.int s), some (.int nt), o5] [] (mem σ) Q = Q none (mem τ)) ∧ WW τ b (st6 l f D) r l ∧ WFr b σ τ := by
  have e3 := Rw_3 hW.1
  have e4 := Rw_4 hW.1
  obtain ⟨τ, g1', g2⟩ := c100 X (d + 1 + 1) hb (D 3) f (D 4) hW hV
  have hW2 := WW_CG hW g2
  have t9 := Rw_9 hW2.1
  have t11 := Rw_11 hW2.1
  unfold st6
  refine ⟨up (up (up τ b 11 (mn (lvM l f D) 600)) b 13 (mn (D 9 + lvM l f D - mn (lvM l f D) 600) 999999)) b 10 (D 11 + 1), fun Q => ?_, WW_up (WW_up (WW_up hW2 3 (Or.inl (by decide)) _ rfl rfl) 9 (Or.inl (by decide)) _ rfl rfl) 11 (Or.inl (by decide)) _ rfl rfl, (((WFr_CG g2).trans WFr_up0).trans WFr_up0).trans WFr_up0⟩
  have u1 : up τ b 11 (mn (lvM l f D) 600) b 13 = D 9 := by rw [up_k (by decide)]; exact t9
  have u2 : up τ b 11 (mn (lvM l f D) 600) b 11 = mn (lvM l f D) 600 := up_s
  have u3 : up (up τ b 11 (mn (lvM l f D) 600)) b 13 (mn (D 9 + lvM l f D - mn (lvM l f D) 600) 999999) b 10 = D 11 := by rw [up_k (by decide), up_k (by decide)]; exact t11
  unfold lvM at u1 u2 u3 ⊢
  simp only [E_aload0 (q := 133) cc_104 dX8_passHour_132 rfl, E_aloadN0 (q := 133) cc_104 dX8_passHour_132 rfl, E_getI (q := 136) cc_104 dX8_passHour_133 rfl (by decide) rfl rfl, E_aload0 (q := 137) cc_104 dX8_passHour_136 rfl, E_aloadN0 (q := 137) cc_104 dX8_passHour_136 rfl, E_aload0 (q := 138) cc_104 dX8_passHour_137 rfl, E_aloadN0 (q := 138) cc_104 dX8_passHour_137 rfl, E_getI (q := 141) cc_104 dX8_passHour_138 rfl (by decide) rfl rfl, E_iload1 (q := 142) cc_104 dX8_passHour_141 rfl, E_aload0 (q := 143) cc_104 dX8_passHour_142 rfl, E_aloadN0 (q := 143) cc_104 dX8_passHour_142 rfl, E_getI (q := 146) cc_104 dX8_passHour_143 rfl (by decide) rfl rfl, E_cV3 (q := 149) (j := 100) (mx := 5) (ci := 8) cc_104 dX8_passHour_146 rfl rfl (by decide) rfl rfl, E_isub (q := 150) cc_104 dX8_passHour_149 rfl, E_iload1 (q := 151) cc_104 dX8_passHour_150 rfl, E_iadd (q := 152) cc_104 dX8_passHour_151 rfl, E_istore5 (q := 154) cc_104 dX8_passHour_152 rfl, E_aload0 (q := 155) cc_104 dX8_passHour_154 rfl, E_aloadN0 (q := 155) cc_104 dX8_passHour_154 rfl, E_iload5 (q := 157) cc_104 dX8_passHour_155 rfl, E_sipush (q := 160) (x := 600) cc_104 dX8_passHour_157 rfl rfl, E_callS2 (q := 163) (j := 35) (mx := 2) cc_104 dX8_passHour_160 rfl rfl (by decide) (by decide) rfl, E_putI (q := 166) cc_104 dX8_passHour_163 rfl rfl rfl (Or.inl rfl), E_aload0 (q := 167) cc_104 dX8_passHour_166 rfl, E_aloadN0 (q := 167) cc_104 dX8_passHour_166 rfl, E_aload0 (q := 168) cc_104 dX8_passHour_167 rfl, E_aloadN0 (q := 168) cc_104 dX8_passHour_167 rfl, E_getI (q := 171) cc_104 dX8_passHour_168 rfl (by decide) rfl rfl, E_iload5 (q := 173) cc_104 dX8_passHour_171 rfl, E_iadd (q := 174) cc_104 dX8_passHour_173 rfl, E_aload0 (q := 175) cc_104 dX8_passHour_174 rfl, E_aloadN0 (q := 175) cc_104 dX8_passHour_174 rfl, E_getI (q := 178) cc_104 dX8_passHour_175 rfl (by decide) rfl rfl, E_isub (q := 179) cc_104 dX8_passHour_178 rfl, E_ldc (q := 181) (x := 999999) cc_104 dX8_passHour_179 rfl rfl, E_callS2 (q := 184) (j := 35) (mx := 2) cc_104 dX8_passHour_181 rfl rfl (by decide) (by decide) rfl, E_putI (q := 187) cc_104 dX8_passHour_184 rfl rfl rfl (Or.inl rfl), E_aload0 (q := 188) cc_104 dX8_passHour_187 rfl, E_aloadN0 (q := 188) cc_104 dX8_passHour_187 rfl, E_dup (q := 189) cc_104 dX8_passHour_188 (hq := rfl), E_getI (q := 192) cc_104 dX8_passHour_189 rfl (by decide) rfl rfl, E_iconst (q := 193) (x := 1) cc_104 dX8_passHour_192 rfl rfl, E_iadd (q := 194) cc_104 dX8_passHour_193 rfl, E_putI (q := 197) cc_104 dX8_passHour_194 rfl rfl rfl (Or.inl rfl), E_return cc_104 dX8_passHour_197 rfl, Option.toList, List.cons_append, List.nil_append, cz_nil, cs_i, cs_r, cs_n, cs_l, az_nil, az_i, az_r, az_n, az_l, cl_i, cl_r, cl_n, cl_0, cl_l, bi_0, bi_n0, bi_nb, isb_0, isb_1, isb_bi, Nat.reduceAdd, Nat.reduceLeDiff, Nat.zero_le, Nat.zero_add, Nat.add_zero, e3, e4, g1', s35, u1, u2, u3, cu_i, cu_r, nz_1, false_and, and_false, true_and, and_true, and_self, Int32.reduceOfInt, Int32.reduceAdd, Int32.reduceSub, Int32.reduceMul, Int32.reduceLT, Int32.reduceLE, nz_2, nz_3, nz_9, nz_10, nz_24, nz_60, not_false_eq_true, not_true_eq_false, if_false, if_true, reduceIte, w_o0 hb, w_o1 hb, w_o4 hb, w_o7 hb, w_o10 hb, w_o13 hb, w_a2 hb, w_n2 hb, w_a3 hb, w_n3 hb, w_a5 hb, w_n5 hb, w_a6 hb, w_n6 hb, w_a8 hb, w_n8 hb, w_a9 hb, w_n9 hb, w_a11 hb, w_n11 hb, w_a12 hb, w_n12 hb, w_a14 hb, w_n14 hb, w_a16 hb, w_n16 hb, w_a17 hb, w_n17 hb, Nat.add_assoc]
theorem skM_rg (r : List Int32) (D : Nat → Int32) : rg (skM r D) (0, 20) := by
  unfold skM
  split
  · exact ⟨by decide, by decide⟩
  · unfold g0
    have z2 : (20 : Int32).toInt = 20 := rfl
    have z0 : (0 : Int32).toInt = 0 := rfl
    generalize (if r = [] then cuM D - 4 - D 5 / 10 else pv (cuM D) (D 5) (D 3) r) = v
    show (0 : Int) ≤ (mx _ _).toInt ∧ (mx _ _).toInt ≤ 20
    rw [ti_mx, ti_mn, z2, z0]
    constructor <;> (split <;> split <;> omega)
theorem ntM_rg {H : Int} {D : Nat → Int32} {r l : List Int32} (h : V H D r l) {s : Int32} (hs : rg s (0, 20)) : rg (ntM D s) (0, 9) := by
  have h5 : (0 : Int) ≤ (D 5).toInt ∧ (D 5).toInt ≤ 90 := h.1 5
  have hs' : (0 : Int) ≤ s.toInt ∧ s.toInt ≤ 20 := hs
  have z10 : (10 : Int32).toInt = 10 := rfl
  have z9 : (9 : Int32).toInt = 9 := rfl
  have z1 : (1 : Int32).toInt = 1 := rfl
  unfold ntM
  split
  · exact ⟨by decide, by decide⟩
  · have e1 : (D 5 / 10).toInt = (D 5).toInt / 10 := by rw [ti_div h5.1 (by decide), z10]
    have e2 : (D 5 / 10 + s).toInt = (D 5).toInt / 10 + s.toInt := by rw [ti_add (by omega) (by omega), e1]
    have e3 : (rm (D 5 / 10 + s) 9).toInt = ((D 5).toInt / 10 + s.toInt) % 9 := by rw [ti_rm (by omega) (by decide), e2, z9]
    refine rg_i ?_ ?_ <;> (rw [ti_add (by omega) (by omega), e3, z1]; omega)
theorem V_goF {H : Int} {D : Nat → Int32} {r l : List Int32} (h : V H D r l) (hH : H < 2147483647) : V (H + 1) (goF r l D) r l := by
  have n := (V_N h).2
  exact V_st6 (V_st5 (V_st4 (V_st3 (V_hkF _ _ _ _ _ (by omega) h) _ (ntM_rg h (skM_rg r D))) _) _) hH _
theorem c104 (X : im_E) (d : Nat) {b : Nat} (hb : WB b) {σ : Nat → Nat → Int32} {D : Nat → Int32} {r l : List Int32} {H : Int} (hW : WW σ b D r l) (hV : V H D r l) : ∃ τ : Nat → Nat → Int32, (∀ Q, Ev X (d + 1 + 1 + 1 + 1 + 1) 104 0 (im_ent 6 [.ref b]) [] (mem σ) Q = Q none (mem τ)) ∧ WW τ b (goF r l D) r l ∧ WFr b σ τ := by
  have n := (V_N hV).2
  obtain ⟨t1, a1, b1, c1⟩ := p1 X d hb hW hV
  obtain ⟨t2, o, a2, b2, c2⟩ := p2 X d hb (flM D (D 11)) (cuM D) (skM r D) (ntM D (skM r D)) (NM D) 0 t1 D b1 hV (Nat.zero_add _)
  have v2 := V_hkF (skM r D) (ntM D (skM r D)) (NM D) 0 D (by omega) hV
  obtain ⟨t3, a3, b3, c3⟩ := p3 X d hb (flM D (D 11)) (cuM D) (skM r D) (ntM D (skM r D)) o b2 v2
  have v3 := V_st3 v2 (flM D (D 11)) (ntM_rg hV (skM_rg r D))
  obtain ⟨t4, a4, b4, c4⟩ := p4 X d hb (flM D (D 11)) (cuM D) (skM r D) (ntM D (skM r D)) o b3 v3
  have v4 := V_st4 v3 (cuM D)
  obtain ⟨t5, a5, b5, c5⟩ := p5 X d hb (flM D (D 11)) (cuM D) (skM r D) (ntM D (skM r D)) o b4 v4
  have v5 := V_st5 v4 (skM r D)
  obtain ⟨t6, a6, b6, c6⟩ := p6 X d hb (flM D (D 11)) (cuM D) (skM r D) (ntM D (skM r D)) o b5 v5
  have z0 : Int32.ofNat 0 = 0 := by decide
  rw [z0] at a2
  exact ⟨t6, fun Q => (a1 Q).trans ((a2 Q).trans ((a3 Q).trans ((a4 Q).trans ((a5 Q).trans (a6 Q))))), b6, ((((c1.trans c2).trans c3).trans c4).trans c5).trans c6⟩
