/-! RUNS AS EQUATIONS: Ev, and a rewriting rule an instruction -/
def Ev (X : im_E) (d i pc : Nat) (ls : List (Option Value)) (st : List Value) (M : im_M) (Q : Option Value → im_M → Prop) : Prop := ∃ (n : Nat) (r : Option Value) (M' : im_M), im_run X n d i (pc, ls, st, M) = some (r, M') ∧ Q r M'
theorem im_fuel1 {X : im_E} : ∀ (n d i : Nat) (c : im_C) (z : Option Value × im_M), im_run X n d i c = some z → im_run X (n + 1) d i c = some z
  | 0, d, i, c, z, h => by simp [im_run] at h
  | n + 1, d, i, c, z, h => by
    unfold im_run at h ⊢
    split at h
    · rename_i c' hs
      exact im_fuel1 n d i c' z h
    · exact h
    · rename_i j as pc' ls' rest M1 hs
      split at h
      · cases h
      · split at h
        · rename_i hj
          (try dsimp only)
          rw [if_pos hj]
          exact im_fuel1 n _ i _ z h
        · rename_i hj
          (try dsimp only)
          rw [if_neg hj]
          split at h
          · rename_i hal
            rw [if_pos hal]
            split at h
            · rename_i v M2 hq
              rw [im_fuel1 n _ j _ _ hq]
              exact im_fuel1 n _ i _ z h
            · cases h
          · cases h
    · cases h
theorem im_fuel {X : im_E} {n d i : Nat} {c : im_C} {z : Option Value × im_M} (h : im_run X n d i c = some z) : ∀ k, im_run X (n + k) d i c = some z
  | 0 => h
  | k + 1 => im_fuel1 _ _ _ _ _ (im_fuel h k)
theorem Ev_step {X : im_E} {d i pc : Nat} {ls : List (Option Value)} {st : List Value} {M : im_M} {Q : Option Value → im_M → Prop} {pc' : Nat} {ls' : List (Option Value)} {st' : List Value} {M' : im_M} (h : im_step X i (pc, ls, st, M) = some (.inl (pc', ls', st', M'))) : Ev X d i pc ls st M Q = Ev X d i pc' ls' st' M' Q := by
  apply propext
  constructor
  · rintro ⟨n, r, M2, hr, hq⟩
    cases n with
    | zero => simp [im_run] at hr
    | succ n =>
      unfold im_run at hr
      rw [h] at hr
      exact ⟨n, r, M2, hr, hq⟩
  · rintro ⟨n, r, M2, hr, hq⟩
    refine ⟨n + 1, r, M2, ?_, hq⟩
    unfold im_run
    rw [h]
    exact hr
theorem Ev_ret {X : im_E} {d i pc : Nat} {ls : List (Option Value)} {st : List Value} {M : im_M} {Q : Option Value → im_M → Prop} {r : Option Value} {M' : im_M} (h : im_step X i (pc, ls, st, M) = some (.inr (.inl (r, M')))) : Ev X d i pc ls st M Q = Q r M' := by
  apply propext
  constructor
  · rintro ⟨n, r2, M2, hr, hq⟩
    cases n with
    | zero => simp [im_run] at hr
    | succ n =>
      unfold im_run at hr
      rw [h] at hr
      cases hr
      exact hq
  · intro hq
    refine ⟨1, r, M', ?_, hq⟩
    unfold im_run
    rw [h]
theorem Ev_obj {X : im_E} {d i pc : Nat} {ls : List (Option Value)} {st : List Value} {M : im_M} {Q : Option Value → im_M → Prop} {as rest : List Value} {pc' : Nat} {ls' : List (Option Value)} {M' : im_M} (h : im_step X i (pc, ls, st, M) = some (.inr (.inr (1000, as, (pc', ls', rest, M'))))) : Ev X (d + 1) i pc ls st M Q = Ev X (d + 1) i pc' ls' rest M' Q := by
  apply propext
  constructor
  · rintro ⟨n, r, M2, hr, hq⟩
    cases n with
    | zero => simp [im_run] at hr
    | succ n =>
      unfold im_run at hr
      rw [h] at hr
      exact ⟨n, r, M2, hr, hq⟩
  · rintro ⟨n, r, M2, hr, hq⟩
    refine ⟨n + 1, r, M2, ?_, hq⟩
    unfold im_run
    rw [h]
    exact hr
theorem Ev_call {X : im_E} {d i pc : Nat} {ls : List (Option Value)} {st : List Value} {M : im_M} {Q : Option Value → im_M → Prop} {j : Nat} {as rest : List Value} {pc' : Nat} {ls' : List (Option Value)} {M' : im_M} (h : im_step X i (pc, ls, st, M) = some (.inr (.inr (j, as, (pc', ls', rest, M'))))) (hj : j ≠ 1000) (hal : (im_al as).length ≤ im_ml j) : Ev X (d + 1) i pc ls st M Q = Ev X d j 0 (im_ent (im_ml j) as) [] M' (fun v M2 => Ev X (d + 1) i pc' ls' (v.toList ++ rest) M2 Q) := by
  apply propext
  constructor
  · rintro ⟨n, r, M2, hr, hq⟩
    cases n with
    | zero => simp [im_run] at hr
    | succ n =>
      unfold im_run at hr
      rw [h] at hr
      dsimp only at hr
      rw [if_neg hj, if_pos hal] at hr
      split at hr
      · rename_i v M3 h3
        exact ⟨n, v, M3, h3, n, r, M2, hr, hq⟩
      · cases hr
  · rintro ⟨n, v, M3, h3, k, r, M2, hr, hq⟩
    refine ⟨(n + k) + 1, r, M2, ?_, hq⟩
    unfold im_run
    rw [h]
    dsimp only
    rw [if_neg hj, if_pos hal, im_fuel h3 k]
    rw [Nat.add_comm n k]
    exact im_fuel hr n
section EV
variable {X : im_E} {d i pc q t : Nat} {ls lt : List (Option Value)} {st : List Value} {M : im_M} {Q : Option Value → im_M → Prop} {c : ByteArray}
theorem im_step_of {ins : Instr} {len : Nat} {z : Option im_R} (hc : im_cc i = c) (h : decode c pc = .ok (ins, len)) (hz : im_in X i pc ins len ls st M = z) : im_step X i (pc, ls, st, M) = z := by
  unfold im_step
  dsimp only
  rw [hc, h]
  exact hz

theorem E_iconst {n : Int} (hc : im_cc i = c) (h : decode c pc = .ok (.iconst n, 1)) {x : Int32} (hx : Int32.ofInt n = x) (hq : q = pc + 1) : Ev X d i pc ls st M Q = Ev X d i q ls (.int x :: st) M Q := by
  subst hq
  subst hx
  exact Ev_step (im_step_of hc h (rfl))
theorem E_bipush {n : Int} (hc : im_cc i = c) (h : decode c pc = .ok (.bipush n, 2)) {x : Int32} (hx : (Int8.ofInt n).toInt32 = x) (hq : q = pc + 2) : Ev X d i pc ls st M Q = Ev X d i q ls (.int x :: st) M Q := by
  subst hq
  subst hx
  exact Ev_step (im_step_of hc h (rfl))
theorem E_sipush {n : Int} (hc : im_cc i = c) (h : decode c pc = .ok (.sipush n, 3)) {x : Int32} (hx : (Int16.ofInt n).toInt32 = x) (hq : q = pc + 3) : Ev X d i pc ls st M Q = Ev X d i q ls (.int x :: st) M Q := by
  subst hq
  subst hx
  exact Ev_step (im_step_of hc h (rfl))
theorem E_lconst {n : Fin 2} (hc : im_cc i = c) (h : decode c pc = .ok (.lconst n, 1)) {x : Int64} (hx : Int64.ofNat (n : Nat) = x) (hq : q = pc + 1) : Ev X d i pc ls st M Q = Ev X d i q ls (.long x :: st) M Q := by
  subst hq
  subst hx
  exact Ev_step (im_step_of hc h (rfl))
theorem E_aconst_null (hc : im_cc i = c) (h : decode c pc = .ok (.aconst_null, 1)) (hq : q = pc + 1) : Ev X d i pc ls st M Q = Ev X d i q ls (.null :: st) M Q := by
  subst hq
  exact Ev_step (im_step_of hc h (rfl))
theorem E_ldc {k : Nat} {x : Int32} (hc : im_cc i = c) (h : decode c pc = .ok (.ldc k, 2)) (hk : im_kc (im_ow i) k = some x) (hq : q = pc + 2) : Ev X d i pc ls st M Q = Ev X d i q ls (.int x :: st) M Q := by
  subst hq
  exact Ev_step (im_step_of hc h (by simp only [im_in, hk]; rfl))
theorem E_ldcS {k : Nat} {x : Nat} (hc : im_cc i = c) (h : decode c pc = .ok (.ldc k, 2)) (hn : im_kc (im_ow i) k = none) (hk : im_ks (im_ow i) k = some x) {a : Nat} (ha : im_RB + 6 + x = a) (hq : q = pc + 2) : Ev X d i pc ls st M Q = Ev X d i q ls (.ref a :: st) M Q := by
  subst hq
  subst ha
  exact Ev_step (im_step_of hc h (by simp only [im_in, hn, hk]; rfl))
theorem E_ldc2 {k : Nat} {x : Int64} (hc : im_cc i = c) (h : decode c pc = .ok (.ldc2_w k, 3)) (hk : im_kl (im_ow i) k = some x) (hq : q = pc + 3) : Ev X d i pc ls st M Q = Ev X d i q ls (.long x :: st) M Q := by
  subst hq
  exact Ev_step (im_step_of hc h (by simp only [im_in, hk]; rfl))
theorem E_iload0 {x : Int32} (hc : im_cc i = c) (h : decode c pc = .ok (.iload_n 0, 1)) (hq : q = pc + 1) : Ev X d i pc (some (.int x) :: lt) st M Q = Ev X d i q (some (.int x) :: lt) (.int x :: st) M Q := by
  subst hq
  exact Ev_step (im_step_of hc h (rfl))
theorem E_lload0 {x : Int64} (hc : im_cc i = c) (h : decode c pc = .ok (.lload_n 0, 1)) (hq : q = pc + 1) : Ev X d i pc (some (.long x) :: lt) st M Q = Ev X d i q (some (.long x) :: lt) (.long x :: st) M Q := by
  subst hq
  exact Ev_step (im_step_of hc h (rfl))
theorem E_aload0 {x : Nat} (hc : im_cc i = c) (h : decode c pc = .ok (.aload_n 0, 1)) (hq : q = pc + 1) : Ev X d i pc (some (.ref x) :: lt) st M Q = Ev X d i q (some (.ref x) :: lt) (.ref x :: st) M Q := by
  subst hq
  exact Ev_step (im_step_of hc h (rfl))
theorem E_aloadN0 (hc : im_cc i = c) (h : decode c pc = .ok (.aload_n 0, 1)) (hq : q = pc + 1) : Ev X d i pc (some .null :: lt) st M Q = Ev X d i q (some .null :: lt) (.null :: st) M Q := by
  subst hq
  exact Ev_step (im_step_of hc h (rfl))
theorem E_istore0 {o : Option Value} {x : Int32} (hc : im_cc i = c) (h : decode c pc = .ok (.istore_n 0, 1)) (hq : q = pc + 1) : Ev X d i pc (o :: lt) ((.int x) :: st) M Q = Ev X d i q (some (.int x) :: lt) st M Q := by
  subst hq
  exact Ev_step (im_step_of hc h (by simp only [im_in, im_i1, im_a1, im_s1, im_go]; simp; try (show (3 : Nat) < _; omega)))
theorem E_astore0 {o : Option Value} {x : Nat} (hc : im_cc i = c) (h : decode c pc = .ok (.astore_n 0, 1)) (hq : q = pc + 1) : Ev X d i pc (o :: lt) ((.ref x) :: st) M Q = Ev X d i q (some (.ref x) :: lt) st M Q := by
  subst hq
  exact Ev_step (im_step_of hc h (by simp only [im_in, im_i1, im_a1, im_s1, im_go]; simp; try (show (3 : Nat) < _; omega)))
theorem E_aNstore0 {o : Option Value} (hc : im_cc i = c) (h : decode c pc = .ok (.astore_n 0, 1)) (hq : q = pc + 1) : Ev X d i pc (o :: lt) (.null :: st) M Q = Ev X d i q (some .null :: lt) st M Q := by
  subst hq
  exact Ev_step (im_step_of hc h (by simp only [im_in, im_i1, im_a1, im_s1, im_go]; simp; try (show (3 : Nat) < _; omega)))
theorem E_iinc0 {n : Int} {x : Int32} (hc : im_cc i = c) (h : decode c pc = .ok (.iinc 0 n, 3)) {y : Int32} (hy : x + Int32.ofInt n = y) (hq : q = pc + 3) : Ev X d i pc (some (.int x) :: lt) st M Q = Ev X d i q (some (.int y) :: lt) st M Q := by
  subst hq
  subst hy
  exact Ev_step (im_step_of hc h (by simp only [im_in, im_ldI, im_s1, im_go]; simp))
theorem E_iload1 {a0 : Option Value} {x : Int32} (hc : im_cc i = c) (h : decode c pc = .ok (.iload_n 1, 1)) (hq : q = pc + 1) : Ev X d i pc (a0 :: some (.int x) :: lt) st M Q = Ev X d i q (a0 :: some (.int x) :: lt) (.int x :: st) M Q := by
  subst hq
  exact Ev_step (im_step_of hc h (rfl))
theorem E_lload1 {a0 : Option Value} {x : Int64} (hc : im_cc i = c) (h : decode c pc = .ok (.lload_n 1, 1)) (hq : q = pc + 1) : Ev X d i pc (a0 :: some (.long x) :: lt) st M Q = Ev X d i q (a0 :: some (.long x) :: lt) (.long x :: st) M Q := by
  subst hq
  exact Ev_step (im_step_of hc h (rfl))
theorem E_aload1 {a0 : Option Value} {x : Nat} (hc : im_cc i = c) (h : decode c pc = .ok (.aload_n 1, 1)) (hq : q = pc + 1) : Ev X d i pc (a0 :: some (.ref x) :: lt) st M Q = Ev X d i q (a0 :: some (.ref x) :: lt) (.ref x :: st) M Q := by
  subst hq
  exact Ev_step (im_step_of hc h (rfl))
theorem E_aloadN1 {a0 : Option Value} (hc : im_cc i = c) (h : decode c pc = .ok (.aload_n 1, 1)) (hq : q = pc + 1) : Ev X d i pc (a0 :: some .null :: lt) st M Q = Ev X d i q (a0 :: some .null :: lt) (.null :: st) M Q := by
  subst hq
  exact Ev_step (im_step_of hc h (rfl))
theorem E_istore1 {a0 : Option Value} {o : Option Value} {x : Int32} (hc : im_cc i = c) (h : decode c pc = .ok (.istore_n 1, 1)) (hq : q = pc + 1) : Ev X d i pc (a0 :: o :: lt) ((.int x) :: st) M Q = Ev X d i q (im_cl a0 :: some (.int x) :: lt) st M Q := by
  subst hq
  exact Ev_step (im_step_of hc h (by simp only [im_in, im_i1, im_a1, im_s1, im_go]; simp; try (show (3 : Nat) < _; omega)))
theorem E_astore1 {a0 : Option Value} {o : Option Value} {x : Nat} (hc : im_cc i = c) (h : decode c pc = .ok (.astore_n 1, 1)) (hq : q = pc + 1) : Ev X d i pc (a0 :: o :: lt) ((.ref x) :: st) M Q = Ev X d i q (im_cl a0 :: some (.ref x) :: lt) st M Q := by
  subst hq
  exact Ev_step (im_step_of hc h (by simp only [im_in, im_i1, im_a1, im_s1, im_go]; simp; try (show (3 : Nat) < _; omega)))
theorem E_aNstore1 {a0 : Option Value} {o : Option Value} (hc : im_cc i = c) (h : decode c pc = .ok (.astore_n 1, 1)) (hq : q = pc + 1) : Ev X d i pc (a0 :: o :: lt) (.null :: st) M Q = Ev X d i q (im_cl a0 :: some .null :: lt) st M Q := by
  subst hq
  exact Ev_step (im_step_of hc h (by simp only [im_in, im_i1, im_a1, im_s1, im_go]; simp; try (show (3 : Nat) < _; omega)))
theorem E_iinc1 {a0 : Option Value} {n : Int} {x : Int32} (hc : im_cc i = c) (h : decode c pc = .ok (.iinc 1 n, 3)) {y : Int32} (hy : x + Int32.ofInt n = y) (hq : q = pc + 3) : Ev X d i pc (a0 :: some (.int x) :: lt) st M Q = Ev X d i q (im_cl a0 :: some (.int y) :: lt) st M Q := by
  subst hq
  subst hy
  exact Ev_step (im_step_of hc h (by simp only [im_in, im_ldI, im_s1, im_go]; simp))
theorem E_iload2 {a0 a1 : Option Value} {x : Int32} (hc : im_cc i = c) (h : decode c pc = .ok (.iload_n 2, 1)) (hq : q = pc + 1) : Ev X d i pc (a0 :: a1 :: some (.int x) :: lt) st M Q = Ev X d i q (a0 :: a1 :: some (.int x) :: lt) (.int x :: st) M Q := by
  subst hq
  exact Ev_step (im_step_of hc h (rfl))
theorem E_lload2 {a0 a1 : Option Value} {x : Int64} (hc : im_cc i = c) (h : decode c pc = .ok (.lload_n 2, 1)) (hq : q = pc + 1) : Ev X d i pc (a0 :: a1 :: some (.long x) :: lt) st M Q = Ev X d i q (a0 :: a1 :: some (.long x) :: lt) (.long x :: st) M Q := by
  subst hq
  exact Ev_step (im_step_of hc h (rfl))
theorem E_aload2 {a0 a1 : Option Value} {x : Nat} (hc : im_cc i = c) (h : decode c pc = .ok (.aload_n 2, 1)) (hq : q = pc + 1) : Ev X d i pc (a0 :: a1 :: some (.ref x) :: lt) st M Q = Ev X d i q (a0 :: a1 :: some (.ref x) :: lt) (.ref x :: st) M Q := by
  subst hq
  exact Ev_step (im_step_of hc h (rfl))
theorem E_aloadN2 {a0 a1 : Option Value} (hc : im_cc i = c) (h : decode c pc = .ok (.aload_n 2, 1)) (hq : q = pc + 1) : Ev X d i pc (a0 :: a1 :: some .null :: lt) st M Q = Ev X d i q (a0 :: a1 :: some .null :: lt) (.null :: st) M Q := by
  subst hq
  exact Ev_step (im_step_of hc h (rfl))
theorem E_istore2 {a0 a1 : Option Value} {o : Option Value} {x : Int32} (hc : im_cc i = c) (h : decode c pc = .ok (.istore_n 2, 1)) (hq : q = pc + 1) : Ev X d i pc (a0 :: a1 :: o :: lt) ((.int x) :: st) M Q = Ev X d i q (a0 :: im_cl a1 :: some (.int x) :: lt) st M Q := by
  subst hq
  exact Ev_step (im_step_of hc h (by simp only [im_in, im_i1, im_a1, im_s1, im_go]; simp; try (show (3 : Nat) < _; omega)))
theorem E_astore2 {a0 a1 : Option Value} {o : Option Value} {x : Nat} (hc : im_cc i = c) (h : decode c pc = .ok (.astore_n 2, 1)) (hq : q = pc + 1) : Ev X d i pc (a0 :: a1 :: o :: lt) ((.ref x) :: st) M Q = Ev X d i q (a0 :: im_cl a1 :: some (.ref x) :: lt) st M Q := by
  subst hq
  exact Ev_step (im_step_of hc h (by simp only [im_in, im_i1, im_a1, im_s1, im_go]; simp; try (show (3 : Nat) < _; omega)))
theorem E_aNstore2 {a0 a1 : Option Value} {o : Option Value} (hc : im_cc i = c) (h : decode c pc = .ok (.astore_n 2, 1)) (hq : q = pc + 1) : Ev X d i pc (a0 :: a1 :: o :: lt) (.null :: st) M Q = Ev X d i q (a0 :: im_cl a1 :: some .null :: lt) st M Q := by
  subst hq
  exact Ev_step (im_step_of hc h (by simp only [im_in, im_i1, im_a1, im_s1, im_go]; simp; try (show (3 : Nat) < _; omega)))
theorem E_iinc2 {a0 a1 : Option Value} {n : Int} {x : Int32} (hc : im_cc i = c) (h : decode c pc = .ok (.iinc 2 n, 3)) {y : Int32} (hy : x + Int32.ofInt n = y) (hq : q = pc + 3) : Ev X d i pc (a0 :: a1 :: some (.int x) :: lt) st M Q = Ev X d i q (a0 :: im_cl a1 :: some (.int y) :: lt) st M Q := by
  subst hq
  subst hy
  exact Ev_step (im_step_of hc h (by simp only [im_in, im_ldI, im_s1, im_go]; simp))
theorem E_iload3 {a0 a1 a2 : Option Value} {x : Int32} (hc : im_cc i = c) (h : decode c pc = .ok (.iload_n 3, 1)) (hq : q = pc + 1) : Ev X d i pc (a0 :: a1 :: a2 :: some (.int x) :: lt) st M Q = Ev X d i q (a0 :: a1 :: a2 :: some (.int x) :: lt) (.int x :: st) M Q := by
  subst hq
  exact Ev_step (im_step_of hc h (rfl))
theorem E_lload3 {a0 a1 a2 : Option Value} {x : Int64} (hc : im_cc i = c) (h : decode c pc = .ok (.lload_n 3, 1)) (hq : q = pc + 1) : Ev X d i pc (a0 :: a1 :: a2 :: some (.long x) :: lt) st M Q = Ev X d i q (a0 :: a1 :: a2 :: some (.long x) :: lt) (.long x :: st) M Q := by
  subst hq
  exact Ev_step (im_step_of hc h (rfl))
theorem E_aload3 {a0 a1 a2 : Option Value} {x : Nat} (hc : im_cc i = c) (h : decode c pc = .ok (.aload_n 3, 1)) (hq : q = pc + 1) : Ev X d i pc (a0 :: a1 :: a2 :: some (.ref x) :: lt) st M Q = Ev X d i q (a0 :: a1 :: a2 :: some (.ref x) :: lt) (.ref x :: st) M Q := by
  subst hq
  exact Ev_step (im_step_of hc h (rfl))
theorem E_aloadN3 {a0 a1 a2 : Option Value} (hc : im_cc i = c) (h : decode c pc = .ok (.aload_n 3, 1)) (hq : q = pc + 1) : Ev X d i pc (a0 :: a1 :: a2 :: some .null :: lt) st M Q = Ev X d i q (a0 :: a1 :: a2 :: some .null :: lt) (.null :: st) M Q := by
  subst hq
  exact Ev_step (im_step_of hc h (rfl))
theorem E_istore3 {a0 a1 a2 : Option Value} {o : Option Value} {x : Int32} (hc : im_cc i = c) (h : decode c pc = .ok (.istore_n 3, 1)) (hq : q = pc + 1) : Ev X d i pc (a0 :: a1 :: a2 :: o :: lt) ((.int x) :: st) M Q = Ev X d i q (a0 :: a1 :: im_cl a2 :: some (.int x) :: lt) st M Q := by
  subst hq
  exact Ev_step (im_step_of hc h (by simp only [im_in, im_i1, im_a1, im_s1, im_go]; simp; try (show (3 : Nat) < _; omega)))
theorem E_astore3 {a0 a1 a2 : Option Value} {o : Option Value} {x : Nat} (hc : im_cc i = c) (h : decode c pc = .ok (.astore_n 3, 1)) (hq : q = pc + 1) : Ev X d i pc (a0 :: a1 :: a2 :: o :: lt) ((.ref x) :: st) M Q = Ev X d i q (a0 :: a1 :: im_cl a2 :: some (.ref x) :: lt) st M Q := by
  subst hq
  exact Ev_step (im_step_of hc h (by simp only [im_in, im_i1, im_a1, im_s1, im_go]; simp; try (show (3 : Nat) < _; omega)))
theorem E_aNstore3 {a0 a1 a2 : Option Value} {o : Option Value} (hc : im_cc i = c) (h : decode c pc = .ok (.astore_n 3, 1)) (hq : q = pc + 1) : Ev X d i pc (a0 :: a1 :: a2 :: o :: lt) (.null :: st) M Q = Ev X d i q (a0 :: a1 :: im_cl a2 :: some .null :: lt) st M Q := by
  subst hq
  exact Ev_step (im_step_of hc h (by simp only [im_in, im_i1, im_a1, im_s1, im_go]; simp; try (show (3 : Nat) < _; omega)))
theorem E_iinc3 {a0 a1 a2 : Option Value} {n : Int} {x : Int32} (hc : im_cc i = c) (h : decode c pc = .ok (.iinc 3 n, 3)) {y : Int32} (hy : x + Int32.ofInt n = y) (hq : q = pc + 3) : Ev X d i pc (a0 :: a1 :: a2 :: some (.int x) :: lt) st M Q = Ev X d i q (a0 :: a1 :: im_cl a2 :: some (.int y) :: lt) st M Q := by
  subst hq
  subst hy
  exact Ev_step (im_step_of hc h (by simp only [im_in, im_ldI, im_s1, im_go]; simp))
theorem E_iload4 {a0 a1 a2 a3 : Option Value} {x : Int32} (hc : im_cc i = c) (h : decode c pc = .ok (.iload 4, 2)) (hq : q = pc + 2) : Ev X d i pc (a0 :: a1 :: a2 :: a3 :: some (.int x) :: lt) st M Q = Ev X d i q (a0 :: a1 :: a2 :: a3 :: some (.int x) :: lt) (.int x :: st) M Q := by
  subst hq
  exact Ev_step (im_step_of hc h (rfl))
theorem E_lload4 {a0 a1 a2 a3 : Option Value} {x : Int64} (hc : im_cc i = c) (h : decode c pc = .ok (.lload 4, 2)) (hq : q = pc + 2) : Ev X d i pc (a0 :: a1 :: a2 :: a3 :: some (.long x) :: lt) st M Q = Ev X d i q (a0 :: a1 :: a2 :: a3 :: some (.long x) :: lt) (.long x :: st) M Q := by
  subst hq
  exact Ev_step (im_step_of hc h (rfl))
theorem E_aload4 {a0 a1 a2 a3 : Option Value} {x : Nat} (hc : im_cc i = c) (h : decode c pc = .ok (.aload 4, 2)) (hq : q = pc + 2) : Ev X d i pc (a0 :: a1 :: a2 :: a3 :: some (.ref x) :: lt) st M Q = Ev X d i q (a0 :: a1 :: a2 :: a3 :: some (.ref x) :: lt) (.ref x :: st) M Q := by
  subst hq
  exact Ev_step (im_step_of hc h (rfl))
theorem E_aloadN4 {a0 a1 a2 a3 : Option Value} (hc : im_cc i = c) (h : decode c pc = .ok (.aload 4, 2)) (hq : q = pc + 2) : Ev X d i pc (a0 :: a1 :: a2 :: a3 :: some .null :: lt) st M Q = Ev X d i q (a0 :: a1 :: a2 :: a3 :: some .null :: lt) (.null :: st) M Q := by
  subst hq
  exact Ev_step (im_step_of hc h (rfl))
theorem E_istore4 {a0 a1 a2 a3 : Option Value} {o : Option Value} {x : Int32} (hc : im_cc i = c) (h : decode c pc = .ok (.istore 4, 2)) (hq : q = pc + 2) : Ev X d i pc (a0 :: a1 :: a2 :: a3 :: o :: lt) ((.int x) :: st) M Q = Ev X d i q (a0 :: a1 :: a2 :: im_cl a3 :: some (.int x) :: lt) st M Q := by
  subst hq
  exact Ev_step (im_step_of hc h (by simp only [im_in, im_i1, im_a1, im_s1, im_go]; simp; try (show (3 : Nat) < _; omega)))
theorem E_astore4 {a0 a1 a2 a3 : Option Value} {o : Option Value} {x : Nat} (hc : im_cc i = c) (h : decode c pc = .ok (.astore 4, 2)) (hq : q = pc + 2) : Ev X d i pc (a0 :: a1 :: a2 :: a3 :: o :: lt) ((.ref x) :: st) M Q = Ev X d i q (a0 :: a1 :: a2 :: im_cl a3 :: some (.ref x) :: lt) st M Q := by
  subst hq
  exact Ev_step (im_step_of hc h (by simp only [im_in, im_i1, im_a1, im_s1, im_go]; simp; try (show (3 : Nat) < _; omega)))
theorem E_aNstore4 {a0 a1 a2 a3 : Option Value} {o : Option Value} (hc : im_cc i = c) (h : decode c pc = .ok (.astore 4, 2)) (hq : q = pc + 2) : Ev X d i pc (a0 :: a1 :: a2 :: a3 :: o :: lt) (.null :: st) M Q = Ev X d i q (a0 :: a1 :: a2 :: im_cl a3 :: some .null :: lt) st M Q := by
  subst hq
  exact Ev_step (im_step_of hc h (by simp only [im_in, im_i1, im_a1, im_s1, im_go]; simp; try (show (3 : Nat) < _; omega)))
theorem E_iinc4 {a0 a1 a2 a3 : Option Value} {n : Int} {x : Int32} (hc : im_cc i = c) (h : decode c pc = .ok (.iinc 4 n, 3)) {y : Int32} (hy : x + Int32.ofInt n = y) (hq : q = pc + 3) : Ev X d i pc (a0 :: a1 :: a2 :: a3 :: some (.int x) :: lt) st M Q = Ev X d i q (a0 :: a1 :: a2 :: im_cl a3 :: some (.int y) :: lt) st M Q := by
  subst hq
  subst hy
  exact Ev_step (im_step_of hc h (by simp only [im_in, im_ldI, im_s1, im_go]; simp))
theorem E_iload5 {a0 a1 a2 a3 a4 : Option Value} {x : Int32} (hc : im_cc i = c) (h : decode c pc = .ok (.iload 5, 2)) (hq : q = pc + 2) : Ev X d i pc (a0 :: a1 :: a2 :: a3 :: a4 :: some (.int x) :: lt) st M Q = Ev X d i q (a0 :: a1 :: a2 :: a3 :: a4 :: some (.int x) :: lt) (.int x :: st) M Q := by
  subst hq
  exact Ev_step (im_step_of hc h (rfl))
theorem E_lload5 {a0 a1 a2 a3 a4 : Option Value} {x : Int64} (hc : im_cc i = c) (h : decode c pc = .ok (.lload 5, 2)) (hq : q = pc + 2) : Ev X d i pc (a0 :: a1 :: a2 :: a3 :: a4 :: some (.long x) :: lt) st M Q = Ev X d i q (a0 :: a1 :: a2 :: a3 :: a4 :: some (.long x) :: lt) (.long x :: st) M Q := by
  subst hq
  exact Ev_step (im_step_of hc h (rfl))
theorem E_aload5 {a0 a1 a2 a3 a4 : Option Value} {x : Nat} (hc : im_cc i = c) (h : decode c pc = .ok (.aload 5, 2)) (hq : q = pc + 2) : Ev X d i pc (a0 :: a1 :: a2 :: a3 :: a4 :: some (.ref x) :: lt) st M Q = Ev X d i q (a0 :: a1 :: a2 :: a3 :: a4 :: some (.ref x) :: lt) (.ref x :: st) M Q := by
  subst hq
  exact Ev_step (im_step_of hc h (rfl))
theorem E_aloadN5 {a0 a1 a2 a3 a4 : Option Value} (hc : im_cc i = c) (h : decode c pc = .ok (.aload 5, 2)) (hq : q = pc + 2) : Ev X d i pc (a0 :: a1 :: a2 :: a3 :: a4 :: some .null :: lt) st M Q = Ev X d i q (a0 :: a1 :: a2 :: a3 :: a4 :: some .null :: lt) (.null :: st) M Q := by
  subst hq
  exact Ev_step (im_step_of hc h (rfl))
theorem E_istore5 {a0 a1 a2 a3 a4 : Option Value} {o : Option Value} {x : Int32} (hc : im_cc i = c) (h : decode c pc = .ok (.istore 5, 2)) (hq : q = pc + 2) : Ev X d i pc (a0 :: a1 :: a2 :: a3 :: a4 :: o :: lt) ((.int x) :: st) M Q = Ev X d i q (a0 :: a1 :: a2 :: a3 :: im_cl a4 :: some (.int x) :: lt) st M Q := by
  subst hq
  exact Ev_step (im_step_of hc h (by simp only [im_in, im_i1, im_a1, im_s1, im_go]; simp; try (show (3 : Nat) < _; omega)))
theorem E_astore5 {a0 a1 a2 a3 a4 : Option Value} {o : Option Value} {x : Nat} (hc : im_cc i = c) (h : decode c pc = .ok (.astore 5, 2)) (hq : q = pc + 2) : Ev X d i pc (a0 :: a1 :: a2 :: a3 :: a4 :: o :: lt) ((.ref x) :: st) M Q = Ev X d i q (a0 :: a1 :: a2 :: a3 :: im_cl a4 :: some (.ref x) :: lt) st M Q := by
  subst hq
  exact Ev_step (im_step_of hc h (by simp only [im_in, im_i1, im_a1, im_s1, im_go]; simp; try (show (3 : Nat) < _; omega)))
theorem E_aNstore5 {a0 a1 a2 a3 a4 : Option Value} {o : Option Value} (hc : im_cc i = c) (h : decode c pc = .ok (.astore 5, 2)) (hq : q = pc + 2) : Ev X d i pc (a0 :: a1 :: a2 :: a3 :: a4 :: o :: lt) (.null :: st) M Q = Ev X d i q (a0 :: a1 :: a2 :: a3 :: im_cl a4 :: some .null :: lt) st M Q := by
  subst hq
  exact Ev_step (im_step_of hc h (by simp only [im_in, im_i1, im_a1, im_s1, im_go]; simp; try (show (3 : Nat) < _; omega)))
theorem E_iinc5 {a0 a1 a2 a3 a4 : Option Value} {n : Int} {x : Int32} (hc : im_cc i = c) (h : decode c pc = .ok (.iinc 5 n, 3)) {y : Int32} (hy : x + Int32.ofInt n = y) (hq : q = pc + 3) : Ev X d i pc (a0 :: a1 :: a2 :: a3 :: a4 :: some (.int x) :: lt) st M Q = Ev X d i q (a0 :: a1 :: a2 :: a3 :: im_cl a4 :: some (.int y) :: lt) st M Q := by
  subst hq
  subst hy
  exact Ev_step (im_step_of hc h (by simp only [im_in, im_ldI, im_s1, im_go]; simp))
theorem E_iload6 {a0 a1 a2 a3 a4 a5 : Option Value} {x : Int32} (hc : im_cc i = c) (h : decode c pc = .ok (.iload 6, 2)) (hq : q = pc + 2) : Ev X d i pc (a0 :: a1 :: a2 :: a3 :: a4 :: a5 :: some (.int x) :: lt) st M Q = Ev X d i q (a0 :: a1 :: a2 :: a3 :: a4 :: a5 :: some (.int x) :: lt) (.int x :: st) M Q := by
  subst hq
  exact Ev_step (im_step_of hc h (rfl))
theorem E_lload6 {a0 a1 a2 a3 a4 a5 : Option Value} {x : Int64} (hc : im_cc i = c) (h : decode c pc = .ok (.lload 6, 2)) (hq : q = pc + 2) : Ev X d i pc (a0 :: a1 :: a2 :: a3 :: a4 :: a5 :: some (.long x) :: lt) st M Q = Ev X d i q (a0 :: a1 :: a2 :: a3 :: a4 :: a5 :: some (.long x) :: lt) (.long x :: st) M Q := by
  subst hq
  exact Ev_step (im_step_of hc h (rfl))
theorem E_aload6 {a0 a1 a2 a3 a4 a5 : Option Value} {x : Nat} (hc : im_cc i = c) (h : decode c pc = .ok (.aload 6, 2)) (hq : q = pc + 2) : Ev X d i pc (a0 :: a1 :: a2 :: a3 :: a4 :: a5 :: some (.ref x) :: lt) st M Q = Ev X d i q (a0 :: a1 :: a2 :: a3 :: a4 :: a5 :: some (.ref x) :: lt) (.ref x :: st) M Q := by
  subst hq
  exact Ev_step (im_step_of hc h (rfl))
theorem E_aloadN6 {a0 a1 a2 a3 a4 a5 : Option Value} (hc : im_cc i = c) (h : decode c pc = .ok (.aload 6, 2)) (hq : q = pc + 2) : Ev X d i pc (a0 :: a1 :: a2 :: a3 :: a4 :: a5 :: some .null :: lt) st M Q = Ev X d i q (a0 :: a1 :: a2 :: a3 :: a4 :: a5 :: some .null :: lt) (.null :: st) M Q := by
  subst hq
  exact Ev_step (im_step_of hc h (rfl))
theorem E_istore6 {a0 a1 a2 a3 a4 a5 : Option Value} {o : Option Value} {x : Int32} (hc : im_cc i = c) (h : decode c pc = .ok (.istore 6, 2)) (hq : q = pc + 2) : Ev X d i pc (a0 :: a1 :: a2 :: a3 :: a4 :: a5 :: o :: lt) ((.int x) :: st) M Q = Ev X d i q (a0 :: a1 :: a2 :: a3 :: a4 :: im_cl a5 :: some (.int x) :: lt) st M Q := by
  subst hq
  exact Ev_step (im_step_of hc h (by simp only [im_in, im_i1, im_a1, im_s1, im_go]; simp; try (show (3 : Nat) < _; omega)))
theorem E_astore6 {a0 a1 a2 a3 a4 a5 : Option Value} {o : Option Value} {x : Nat} (hc : im_cc i = c) (h : decode c pc = .ok (.astore 6, 2)) (hq : q = pc + 2) : Ev X d i pc (a0 :: a1 :: a2 :: a3 :: a4 :: a5 :: o :: lt) ((.ref x) :: st) M Q = Ev X d i q (a0 :: a1 :: a2 :: a3 :: a4 :: im_cl a5 :: some (.ref x) :: lt) st M Q := by
  subst hq
  exact Ev_step (im_step_of hc h (by simp only [im_in, im_i1, im_a1, im_s1, im_go]; simp; try (show (3 : Nat) < _; omega)))
theorem E_aNstore6 {a0 a1 a2 a3 a4 a5 : Option Value} {o : Option Value} (hc : im_cc i = c) (h : decode c pc = .ok (.astore 6, 2)) (hq : q = pc + 2) : Ev X d i pc (a0 :: a1 :: a2 :: a3 :: a4 :: a5 :: o :: lt) (.null :: st) M Q = Ev X d i q (a0 :: a1 :: a2 :: a3 :: a4 :: im_cl a5 :: some .null :: lt) st M Q := by
  subst hq
  exact Ev_step (im_step_of hc h (by simp only [im_in, im_i1, im_a1, im_s1, im_go]; simp; try (show (3 : Nat) < _; omega)))
theorem E_iinc6 {a0 a1 a2 a3 a4 a5 : Option Value} {n : Int} {x : Int32} (hc : im_cc i = c) (h : decode c pc = .ok (.iinc 6 n, 3)) {y : Int32} (hy : x + Int32.ofInt n = y) (hq : q = pc + 3) : Ev X d i pc (a0 :: a1 :: a2 :: a3 :: a4 :: a5 :: some (.int x) :: lt) st M Q = Ev X d i q (a0 :: a1 :: a2 :: a3 :: a4 :: im_cl a5 :: some (.int y) :: lt) st M Q := by
  subst hq
  subst hy
  exact Ev_step (im_step_of hc h (by simp only [im_in, im_ldI, im_s1, im_go]; simp))
theorem E_iload7 {a0 a1 a2 a3 a4 a5 a6 : Option Value} {x : Int32} (hc : im_cc i = c) (h : decode c pc = .ok (.iload 7, 2)) (hq : q = pc + 2) : Ev X d i pc (a0 :: a1 :: a2 :: a3 :: a4 :: a5 :: a6 :: some (.int x) :: lt) st M Q = Ev X d i q (a0 :: a1 :: a2 :: a3 :: a4 :: a5 :: a6 :: some (.int x) :: lt) (.int x :: st) M Q := by
  subst hq
  exact Ev_step (im_step_of hc h (rfl))
theorem E_lload7 {a0 a1 a2 a3 a4 a5 a6 : Option Value} {x : Int64} (hc : im_cc i = c) (h : decode c pc = .ok (.lload 7, 2)) (hq : q = pc + 2) : Ev X d i pc (a0 :: a1 :: a2 :: a3 :: a4 :: a5 :: a6 :: some (.long x) :: lt) st M Q = Ev X d i q (a0 :: a1 :: a2 :: a3 :: a4 :: a5 :: a6 :: some (.long x) :: lt) (.long x :: st) M Q := by
  subst hq
  exact Ev_step (im_step_of hc h (rfl))
theorem E_aload7 {a0 a1 a2 a3 a4 a5 a6 : Option Value} {x : Nat} (hc : im_cc i = c) (h : decode c pc = .ok (.aload 7, 2)) (hq : q = pc + 2) : Ev X d i pc (a0 :: a1 :: a2 :: a3 :: a4 :: a5 :: a6 :: some (.ref x) :: lt) st M Q = Ev X d i q (a0 :: a1 :: a2 :: a3 :: a4 :: a5 :: a6 :: some (.ref x) :: lt) (.ref x :: st) M Q := by
  subst hq
  exact Ev_step (im_step_of hc h (rfl))
theorem E_aloadN7 {a0 a1 a2 a3 a4 a5 a6 : Option Value} (hc : im_cc i = c) (h : decode c pc = .ok (.aload 7, 2)) (hq : q = pc + 2) : Ev X d i pc (a0 :: a1 :: a2 :: a3 :: a4 :: a5 :: a6 :: some .null :: lt) st M Q = Ev X d i q (a0 :: a1 :: a2 :: a3 :: a4 :: a5 :: a6 :: some .null :: lt) (.null :: st) M Q := by
  subst hq
  exact Ev_step (im_step_of hc h (rfl))
theorem E_istore7 {a0 a1 a2 a3 a4 a5 a6 : Option Value} {o : Option Value} {x : Int32} (hc : im_cc i = c) (h : decode c pc = .ok (.istore 7, 2)) (hq : q = pc + 2) : Ev X d i pc (a0 :: a1 :: a2 :: a3 :: a4 :: a5 :: a6 :: o :: lt) ((.int x) :: st) M Q = Ev X d i q (a0 :: a1 :: a2 :: a3 :: a4 :: a5 :: im_cl a6 :: some (.int x) :: lt) st M Q := by
  subst hq
  exact Ev_step (im_step_of hc h (by simp only [im_in, im_i1, im_a1, im_s1, im_go]; simp; try (show (3 : Nat) < _; omega)))
theorem E_astore7 {a0 a1 a2 a3 a4 a5 a6 : Option Value} {o : Option Value} {x : Nat} (hc : im_cc i = c) (h : decode c pc = .ok (.astore 7, 2)) (hq : q = pc + 2) : Ev X d i pc (a0 :: a1 :: a2 :: a3 :: a4 :: a5 :: a6 :: o :: lt) ((.ref x) :: st) M Q = Ev X d i q (a0 :: a1 :: a2 :: a3 :: a4 :: a5 :: im_cl a6 :: some (.ref x) :: lt) st M Q := by
  subst hq
  exact Ev_step (im_step_of hc h (by simp only [im_in, im_i1, im_a1, im_s1, im_go]; simp; try (show (3 : Nat) < _; omega)))
theorem E_aNstore7 {a0 a1 a2 a3 a4 a5 a6 : Option Value} {o : Option Value} (hc : im_cc i = c) (h : decode c pc = .ok (.astore 7, 2)) (hq : q = pc + 2) : Ev X d i pc (a0 :: a1 :: a2 :: a3 :: a4 :: a5 :: a6 :: o :: lt) (.null :: st) M Q = Ev X d i q (a0 :: a1 :: a2 :: a3 :: a4 :: a5 :: im_cl a6 :: some .null :: lt) st M Q := by
  subst hq
  exact Ev_step (im_step_of hc h (by simp only [im_in, im_i1, im_a1, im_s1, im_go]; simp; try (show (3 : Nat) < _; omega)))
theorem E_iinc7 {a0 a1 a2 a3 a4 a5 a6 : Option Value} {n : Int} {x : Int32} (hc : im_cc i = c) (h : decode c pc = .ok (.iinc 7 n, 3)) {y : Int32} (hy : x + Int32.ofInt n = y) (hq : q = pc + 3) : Ev X d i pc (a0 :: a1 :: a2 :: a3 :: a4 :: a5 :: a6 :: some (.int x) :: lt) st M Q = Ev X d i q (a0 :: a1 :: a2 :: a3 :: a4 :: a5 :: im_cl a6 :: some (.int y) :: lt) st M Q := by
  subst hq
  subst hy
  exact Ev_step (im_step_of hc h (by simp only [im_in, im_ldI, im_s1, im_go]; simp))
theorem E_iload8 {a0 a1 a2 a3 a4 a5 a6 a7 : Option Value} {x : Int32} (hc : im_cc i = c) (h : decode c pc = .ok (.iload 8, 2)) (hq : q = pc + 2) : Ev X d i pc (a0 :: a1 :: a2 :: a3 :: a4 :: a5 :: a6 :: a7 :: some (.int x) :: lt) st M Q = Ev X d i q (a0 :: a1 :: a2 :: a3 :: a4 :: a5 :: a6 :: a7 :: some (.int x) :: lt) (.int x :: st) M Q := by
  subst hq
  exact Ev_step (im_step_of hc h (rfl))
theorem E_lload8 {a0 a1 a2 a3 a4 a5 a6 a7 : Option Value} {x : Int64} (hc : im_cc i = c) (h : decode c pc = .ok (.lload 8, 2)) (hq : q = pc + 2) : Ev X d i pc (a0 :: a1 :: a2 :: a3 :: a4 :: a5 :: a6 :: a7 :: some (.long x) :: lt) st M Q = Ev X d i q (a0 :: a1 :: a2 :: a3 :: a4 :: a5 :: a6 :: a7 :: some (.long x) :: lt) (.long x :: st) M Q := by
  subst hq
  exact Ev_step (im_step_of hc h (rfl))
theorem E_aload8 {a0 a1 a2 a3 a4 a5 a6 a7 : Option Value} {x : Nat} (hc : im_cc i = c) (h : decode c pc = .ok (.aload 8, 2)) (hq : q = pc + 2) : Ev X d i pc (a0 :: a1 :: a2 :: a3 :: a4 :: a5 :: a6 :: a7 :: some (.ref x) :: lt) st M Q = Ev X d i q (a0 :: a1 :: a2 :: a3 :: a4 :: a5 :: a6 :: a7 :: some (.ref x) :: lt) (.ref x :: st) M Q := by
  subst hq
  exact Ev_step (im_step_of hc h (rfl))
theorem E_aloadN8 {a0 a1 a2 a3 a4 a5 a6 a7 : Option Value} (hc : im_cc i = c) (h : decode c pc = .ok (.aload 8, 2)) (hq : q = pc + 2) : Ev X d i pc (a0 :: a1 :: a2 :: a3 :: a4 :: a5 :: a6 :: a7 :: some .null :: lt) st M Q = Ev X d i q (a0 :: a1 :: a2 :: a3 :: a4 :: a5 :: a6 :: a7 :: some .null :: lt) (.null :: st) M Q := by
  subst hq
  exact Ev_step (im_step_of hc h (rfl))
theorem E_istore8 {a0 a1 a2 a3 a4 a5 a6 a7 : Option Value} {o : Option Value} {x : Int32} (hc : im_cc i = c) (h : decode c pc = .ok (.istore 8, 2)) (hq : q = pc + 2) : Ev X d i pc (a0 :: a1 :: a2 :: a3 :: a4 :: a5 :: a6 :: a7 :: o :: lt) ((.int x) :: st) M Q = Ev X d i q (a0 :: a1 :: a2 :: a3 :: a4 :: a5 :: a6 :: im_cl a7 :: some (.int x) :: lt) st M Q := by
  subst hq
  exact Ev_step (im_step_of hc h (by simp only [im_in, im_i1, im_a1, im_s1, im_go]; simp; try (show (3 : Nat) < _; omega)))
theorem E_astore8 {a0 a1 a2 a3 a4 a5 a6 a7 : Option Value} {o : Option Value} {x : Nat} (hc : im_cc i = c) (h : decode c pc = .ok (.astore 8, 2)) (hq : q = pc + 2) : Ev X d i pc (a0 :: a1 :: a2 :: a3 :: a4 :: a5 :: a6 :: a7 :: o :: lt) ((.ref x) :: st) M Q = Ev X d i q (a0 :: a1 :: a2 :: a3 :: a4 :: a5 :: a6 :: im_cl a7 :: some (.ref x) :: lt) st M Q := by
  subst hq
  exact Ev_step (im_step_of hc h (by simp only [im_in, im_i1, im_a1, im_s1, im_go]; simp; try (show (3 : Nat) < _; omega)))
theorem E_aNstore8 {a0 a1 a2 a3 a4 a5 a6 a7 : Option Value} {o : Option Value} (hc : im_cc i = c) (h : decode c pc = .ok (.astore 8, 2)) (hq : q = pc + 2) : Ev X d i pc (a0 :: a1 :: a2 :: a3 :: a4 :: a5 :: a6 :: a7 :: o :: lt) (.null :: st) M Q = Ev X d i q (a0 :: a1 :: a2 :: a3 :: a4 :: a5 :: a6 :: im_cl a7 :: some .null :: lt) st M Q := by
  subst hq
  exact Ev_step (im_step_of hc h (by simp only [im_in, im_i1, im_a1, im_s1, im_go]; simp; try (show (3 : Nat) < _; omega)))
theorem E_iinc8 {a0 a1 a2 a3 a4 a5 a6 a7 : Option Value} {n : Int} {x : Int32} (hc : im_cc i = c) (h : decode c pc = .ok (.iinc 8 n, 3)) {y : Int32} (hy : x + Int32.ofInt n = y) (hq : q = pc + 3) : Ev X d i pc (a0 :: a1 :: a2 :: a3 :: a4 :: a5 :: a6 :: a7 :: some (.int x) :: lt) st M Q = Ev X d i q (a0 :: a1 :: a2 :: a3 :: a4 :: a5 :: a6 :: im_cl a7 :: some (.int y) :: lt) st M Q := by
  subst hq
  subst hy
  exact Ev_step (im_step_of hc h (by simp only [im_in, im_ldI, im_s1, im_go]; simp))
theorem E_iadd {x y : Int32} (hc : im_cc i = c) (h : decode c pc = .ok (.iadd, 1)) (hq : q = pc + 1) : Ev X d i pc ls (.int y :: .int x :: st) M Q = Ev X d i q ls (.int (x + y) :: st) M Q := by
  subst hq
  exact Ev_step (im_step_of hc h (rfl))
theorem E_isub {x y : Int32} (hc : im_cc i = c) (h : decode c pc = .ok (.isub, 1)) (hq : q = pc + 1) : Ev X d i pc ls (.int y :: .int x :: st) M Q = Ev X d i q ls (.int (x - y) :: st) M Q := by
  subst hq
  exact Ev_step (im_step_of hc h (rfl))
theorem E_imul {x y : Int32} (hc : im_cc i = c) (h : decode c pc = .ok (.imul, 1)) (hq : q = pc + 1) : Ev X d i pc ls (.int y :: .int x :: st) M Q = Ev X d i q ls (.int (x * y) :: st) M Q := by
  subst hq
  exact Ev_step (im_step_of hc h (rfl))
theorem E_iand {x y : Int32} (hc : im_cc i = c) (h : decode c pc = .ok (.iand, 1)) (hq : q = pc + 1) : Ev X d i pc ls (.int y :: .int x :: st) M Q = Ev X d i q ls (.int (x &&& y) :: st) M Q := by
  subst hq
  exact Ev_step (im_step_of hc h (rfl))
theorem E_ior {x y : Int32} (hc : im_cc i = c) (h : decode c pc = .ok (.ior, 1)) (hq : q = pc + 1) : Ev X d i pc ls (.int y :: .int x :: st) M Q = Ev X d i q ls (.int (x ||| y) :: st) M Q := by
  subst hq
  exact Ev_step (im_step_of hc h (rfl))
theorem E_ixor {x y : Int32} (hc : im_cc i = c) (h : decode c pc = .ok (.ixor, 1)) (hq : q = pc + 1) : Ev X d i pc ls (.int y :: .int x :: st) M Q = Ev X d i q ls (.int (x ^^^ y) :: st) M Q := by
  subst hq
  exact Ev_step (im_step_of hc h (rfl))
theorem E_ishl {x y : Int32} (hc : im_cc i = c) (h : decode c pc = .ok (.ishl, 1)) (hq : q = pc + 1) : Ev X d i pc ls (.int y :: .int x :: st) M Q = Ev X d i q ls (.int (x <<< (y &&& 31)) :: st) M Q := by
  subst hq
  exact Ev_step (im_step_of hc h (rfl))
theorem E_ishr {x y : Int32} (hc : im_cc i = c) (h : decode c pc = .ok (.ishr, 1)) (hq : q = pc + 1) : Ev X d i pc ls (.int y :: .int x :: st) M Q = Ev X d i q ls (.int (x >>> (y &&& 31)) :: st) M Q := by
  subst hq
  exact Ev_step (im_step_of hc h (rfl))
theorem E_iushr {x y : Int32} (hc : im_cc i = c) (h : decode c pc = .ok (.iushr, 1)) (hq : q = pc + 1) : Ev X d i pc ls (.int y :: .int x :: st) M Q = Ev X d i q ls (.int ((x.toUInt32 >>> (y.toUInt32 &&& Int32.toUInt32 31)).toInt32) :: st) M Q := by
  subst hq
  exact Ev_step (im_step_of hc h (rfl))
theorem E_idiv {x y : Int32} (hc : im_cc i = c) (h : decode c pc = .ok (.idiv, 1)) (hy : ¬ y = 0) (hq : q = pc + 1) : Ev X d i pc ls (.int y :: .int x :: st) M Q = Ev X d i q ls (.int (x / y) :: st) M Q := by
  subst hq
  exact Ev_step (im_step_of hc h (by simp only [im_in, im_i2]; rw [if_neg hy]; rfl))
theorem E_irem {x y : Int32} (hc : im_cc i = c) (h : decode c pc = .ok (.irem, 1)) (hy : ¬ y = 0) (hq : q = pc + 1) : Ev X d i pc ls (.int y :: .int x :: st) M Q = Ev X d i q ls (.int (x - x / y * y) :: st) M Q := by
  subst hq
  exact Ev_step (im_step_of hc h (by simp only [im_in, im_i2]; rw [if_neg hy]; rfl))
theorem E_ineg {x : Int32} (hc : im_cc i = c) (h : decode c pc = .ok (.ineg, 1)) (hq : q = pc + 1) : Ev X d i pc ls (.int x :: st) M Q = Ev X d i q ls (.int (-x) :: st) M Q := by
  subst hq
  exact Ev_step (im_step_of hc h (rfl))
theorem E_i2l {x : Int32} (hc : im_cc i = c) (h : decode c pc = .ok (.i2l, 1)) (hq : q = pc + 1) : Ev X d i pc ls (.int x :: st) M Q = Ev X d i q ls (.long x.toInt64 :: st) M Q := by
  subst hq
  exact Ev_step (im_step_of hc h (rfl))
theorem E_i2b {x : Int32} (hc : im_cc i = c) (h : decode c pc = .ok (.i2b, 1)) (hq : q = pc + 1) : Ev X d i pc ls (.int x :: st) M Q = Ev X d i q ls (.int x.toInt8.toInt32 :: st) M Q := by
  subst hq
  exact Ev_step (im_step_of hc h (rfl))
theorem E_i2s {x : Int32} (hc : im_cc i = c) (h : decode c pc = .ok (.i2s, 1)) (hq : q = pc + 1) : Ev X d i pc ls (.int x :: st) M Q = Ev X d i q ls (.int x.toInt16.toInt32 :: st) M Q := by
  subst hq
  exact Ev_step (im_step_of hc h (rfl))
theorem E_i2c {x : Int32} (hc : im_cc i = c) (h : decode c pc = .ok (.i2c, 1)) (hq : q = pc + 1) : Ev X d i pc ls (.int x :: st) M Q = Ev X d i q ls (.int (x.toUInt32 % 65536).toInt32 :: st) M Q := by
  subst hq
  exact Ev_step (im_step_of hc h (rfl))
theorem E_l2i {x : Int64} (hc : im_cc i = c) (h : decode c pc = .ok (.l2i, 1)) (hq : q = pc + 1) : Ev X d i pc ls (.long x :: st) M Q = Ev X d i q ls (.int x.toInt32 :: st) M Q := by
  subst hq
  exact Ev_step (im_step_of hc h (rfl))
theorem E_land {x y : Int64} (hc : im_cc i = c) (h : decode c pc = .ok (.land, 1)) (hq : q = pc + 1) : Ev X d i pc ls (.long y :: .long x :: st) M Q = Ev X d i q ls (.long (x &&& y) :: st) M Q := by
  subst hq
  exact Ev_step (im_step_of hc h (rfl))
theorem E_lor {x y : Int64} (hc : im_cc i = c) (h : decode c pc = .ok (.lor, 1)) (hq : q = pc + 1) : Ev X d i pc ls (.long y :: .long x :: st) M Q = Ev X d i q ls (.long (x ||| y) :: st) M Q := by
  subst hq
  exact Ev_step (im_step_of hc h (rfl))
theorem E_lcmp {x y : Int64} (hc : im_cc i = c) (h : decode c pc = .ok (.lcmp, 1)) (hq : q = pc + 1) : Ev X d i pc ls (.long y :: .long x :: st) M Q = Ev X d i q ls (.int (lg_cmp x y) :: st) M Q := by
  subst hq
  exact Ev_step (im_step_of hc h (rfl))
theorem E_lshl {x : Int64} {y : Int32} (hc : im_cc i = c) (h : decode c pc = .ok (.lshl, 1)) (hq : q = pc + 1) : Ev X d i pc ls (.int y :: .long x :: st) M Q = Ev X d i q ls (.long (x <<< (y.toInt64 &&& 63)) :: st) M Q := by
  subst hq
  exact Ev_step (im_step_of hc h (rfl))
theorem E_lshr {x : Int64} {y : Int32} (hc : im_cc i = c) (h : decode c pc = .ok (.lshr, 1)) (hq : q = pc + 1) : Ev X d i pc ls (.int y :: .long x :: st) M Q = Ev X d i q ls (.long (x >>> (y.toInt64 &&& 63)) :: st) M Q := by
  subst hq
  exact Ev_step (im_step_of hc h (rfl))
theorem E_lushr {x : Int64} {y : Int32} (hc : im_cc i = c) (h : decode c pc = .ok (.lushr, 1)) (hq : q = pc + 1) : Ev X d i pc ls (.int y :: .long x :: st) M Q = Ev X d i q ls (.long ((x.toUInt64 >>> (y.toInt64.toUInt64 &&& Int64.toUInt64 63)).toInt64) :: st) M Q := by
  subst hq
  exact Ev_step (im_step_of hc h (rfl))
theorem E_dup {v : Value} (hc : im_cc i = c) (h : decode c pc = .ok (.dup, 1)) (hv : v.category = 1) (hq : q = pc + 1) : Ev X d i pc ls (v :: st) M Q = Ev X d i q ls (v :: v :: st) M Q := by
  subst hq
  exact Ev_step (im_step_of hc h (by simp only [im_in, im_go]; simp [hv]))
theorem E_dup2 {v u : Value} (hc : im_cc i = c) (h : decode c pc = .ok (.dup2, 1)) (hv : v.category = 1) (hu : u.category = 1) (hq : q = pc + 1) : Ev X d i pc ls (v :: u :: st) M Q = Ev X d i q ls (v :: u :: v :: u :: st) M Q := by
  subst hq
  exact Ev_step (im_step_of hc h (by simp only [im_in, im_go]; simp [hv, hu]))
theorem E_pop {v : Value} (hc : im_cc i = c) (h : decode c pc = .ok (.pop, 1)) (hv : v.category = 1) (hq : q = pc + 1) : Ev X d i pc ls (v :: st) M Q = Ev X d i q ls st M Q := by
  subst hq
  exact Ev_step (im_step_of hc h (by simp only [im_in, im_go]; simp [hv]))
theorem E_if_eq {x : Int32} {off : Int} (hc : im_cc i = c) (h : decode c pc = .ok (.ifCond .eq off, 3)) (hq : q = pc + 3) (ht : (pc : Int) + off = (t : Int)) : Ev X d i pc ls (.int x :: st) M Q = if x = 0 then Ev X d i t ls st M Q else Ev X d i q ls st M Q := by
  subst hq
  split
  · rename_i hx
    exact Ev_step (im_step_of hc h (by simp only [im_in, im_i1, im_jmp]; rw [if_pos (by omega), if_pos (by simpa [im_cmp] using hx)]; simp [im_go, ht]))
  · rename_i hx
    exact Ev_step (im_step_of hc h (by simp only [im_in, im_i1, im_jmp]; rw [if_pos (by omega), if_neg (by simpa [im_cmp] using hx)]; simp [im_go]))
theorem E_icmp_eq {x y : Int32} {off : Int} (hc : im_cc i = c) (h : decode c pc = .ok (.if_icmp .eq off, 3)) (hq : q = pc + 3) (ht : (pc : Int) + off = (t : Int)) : Ev X d i pc ls (.int y :: .int x :: st) M Q = if x = y then Ev X d i t ls st M Q else Ev X d i q ls st M Q := by
  subst hq
  split
  · rename_i hx
    exact Ev_step (im_step_of hc h (by simp only [im_in, im_i2, im_jmp]; rw [if_pos (by omega), if_pos (by simpa [im_cmp] using hx)]; simp [im_go, ht]))
  · rename_i hx
    exact Ev_step (im_step_of hc h (by simp only [im_in, im_i2, im_jmp]; rw [if_pos (by omega), if_neg (by simpa [im_cmp] using hx)]; simp [im_go]))
theorem E_if_ne {x : Int32} {off : Int} (hc : im_cc i = c) (h : decode c pc = .ok (.ifCond .ne off, 3)) (hq : q = pc + 3) (ht : (pc : Int) + off = (t : Int)) : Ev X d i pc ls (.int x :: st) M Q = if ¬ x = 0 then Ev X d i t ls st M Q else Ev X d i q ls st M Q := by
  subst hq
  split
  · rename_i hx
    exact Ev_step (im_step_of hc h (by simp only [im_in, im_i1, im_jmp]; rw [if_pos (by omega), if_pos (by simpa [im_cmp] using hx)]; simp [im_go, ht]))
  · rename_i hx
    exact Ev_step (im_step_of hc h (by simp only [im_in, im_i1, im_jmp]; rw [if_pos (by omega), if_neg (by simpa [im_cmp] using hx)]; simp [im_go]))
theorem E_icmp_ne {x y : Int32} {off : Int} (hc : im_cc i = c) (h : decode c pc = .ok (.if_icmp .ne off, 3)) (hq : q = pc + 3) (ht : (pc : Int) + off = (t : Int)) : Ev X d i pc ls (.int y :: .int x :: st) M Q = if ¬ x = y then Ev X d i t ls st M Q else Ev X d i q ls st M Q := by
  subst hq
  split
  · rename_i hx
    exact Ev_step (im_step_of hc h (by simp only [im_in, im_i2, im_jmp]; rw [if_pos (by omega), if_pos (by simpa [im_cmp] using hx)]; simp [im_go, ht]))
  · rename_i hx
    exact Ev_step (im_step_of hc h (by simp only [im_in, im_i2, im_jmp]; rw [if_pos (by omega), if_neg (by simpa [im_cmp] using hx)]; simp [im_go]))
theorem E_if_lt {x : Int32} {off : Int} (hc : im_cc i = c) (h : decode c pc = .ok (.ifCond .lt off, 3)) (hq : q = pc + 3) (ht : (pc : Int) + off = (t : Int)) : Ev X d i pc ls (.int x :: st) M Q = if x < 0 then Ev X d i t ls st M Q else Ev X d i q ls st M Q := by
  subst hq
  split
  · rename_i hx
    exact Ev_step (im_step_of hc h (by simp only [im_in, im_i1, im_jmp]; rw [if_pos (by omega), if_pos (by simpa [im_cmp] using hx)]; simp [im_go, ht]))
  · rename_i hx
    exact Ev_step (im_step_of hc h (by simp only [im_in, im_i1, im_jmp]; rw [if_pos (by omega), if_neg (by simpa [im_cmp] using hx)]; simp [im_go]))
theorem E_icmp_lt {x y : Int32} {off : Int} (hc : im_cc i = c) (h : decode c pc = .ok (.if_icmp .lt off, 3)) (hq : q = pc + 3) (ht : (pc : Int) + off = (t : Int)) : Ev X d i pc ls (.int y :: .int x :: st) M Q = if x < y then Ev X d i t ls st M Q else Ev X d i q ls st M Q := by
  subst hq
  split
  · rename_i hx
    exact Ev_step (im_step_of hc h (by simp only [im_in, im_i2, im_jmp]; rw [if_pos (by omega), if_pos (by simpa [im_cmp] using hx)]; simp [im_go, ht]))
  · rename_i hx
    exact Ev_step (im_step_of hc h (by simp only [im_in, im_i2, im_jmp]; rw [if_pos (by omega), if_neg (by simpa [im_cmp] using hx)]; simp [im_go]))
theorem E_if_ge {x : Int32} {off : Int} (hc : im_cc i = c) (h : decode c pc = .ok (.ifCond .ge off, 3)) (hq : q = pc + 3) (ht : (pc : Int) + off = (t : Int)) : Ev X d i pc ls (.int x :: st) M Q = if 0 ≤ x then Ev X d i t ls st M Q else Ev X d i q ls st M Q := by
  subst hq
  split
  · rename_i hx
    exact Ev_step (im_step_of hc h (by simp only [im_in, im_i1, im_jmp]; rw [if_pos (by omega), if_pos (by simpa [im_cmp] using hx)]; simp [im_go, ht]))
  · rename_i hx
    exact Ev_step (im_step_of hc h (by simp only [im_in, im_i1, im_jmp]; rw [if_pos (by omega), if_neg (by simpa [im_cmp] using hx)]; simp [im_go]))
theorem E_icmp_ge {x y : Int32} {off : Int} (hc : im_cc i = c) (h : decode c pc = .ok (.if_icmp .ge off, 3)) (hq : q = pc + 3) (ht : (pc : Int) + off = (t : Int)) : Ev X d i pc ls (.int y :: .int x :: st) M Q = if y ≤ x then Ev X d i t ls st M Q else Ev X d i q ls st M Q := by
  subst hq
  split
  · rename_i hx
    exact Ev_step (im_step_of hc h (by simp only [im_in, im_i2, im_jmp]; rw [if_pos (by omega), if_pos (by simpa [im_cmp] using hx)]; simp [im_go, ht]))
  · rename_i hx
    exact Ev_step (im_step_of hc h (by simp only [im_in, im_i2, im_jmp]; rw [if_pos (by omega), if_neg (by simpa [im_cmp] using hx)]; simp [im_go]))
theorem E_if_gt {x : Int32} {off : Int} (hc : im_cc i = c) (h : decode c pc = .ok (.ifCond .gt off, 3)) (hq : q = pc + 3) (ht : (pc : Int) + off = (t : Int)) : Ev X d i pc ls (.int x :: st) M Q = if 0 < x then Ev X d i t ls st M Q else Ev X d i q ls st M Q := by
  subst hq
  split
  · rename_i hx
    exact Ev_step (im_step_of hc h (by simp only [im_in, im_i1, im_jmp]; rw [if_pos (by omega), if_pos (by simpa [im_cmp] using hx)]; simp [im_go, ht]))
  · rename_i hx
    exact Ev_step (im_step_of hc h (by simp only [im_in, im_i1, im_jmp]; rw [if_pos (by omega), if_neg (by simpa [im_cmp] using hx)]; simp [im_go]))
theorem E_icmp_gt {x y : Int32} {off : Int} (hc : im_cc i = c) (h : decode c pc = .ok (.if_icmp .gt off, 3)) (hq : q = pc + 3) (ht : (pc : Int) + off = (t : Int)) : Ev X d i pc ls (.int y :: .int x :: st) M Q = if y < x then Ev X d i t ls st M Q else Ev X d i q ls st M Q := by
  subst hq
  split
  · rename_i hx
    exact Ev_step (im_step_of hc h (by simp only [im_in, im_i2, im_jmp]; rw [if_pos (by omega), if_pos (by simpa [im_cmp] using hx)]; simp [im_go, ht]))
  · rename_i hx
    exact Ev_step (im_step_of hc h (by simp only [im_in, im_i2, im_jmp]; rw [if_pos (by omega), if_neg (by simpa [im_cmp] using hx)]; simp [im_go]))
theorem E_if_le {x : Int32} {off : Int} (hc : im_cc i = c) (h : decode c pc = .ok (.ifCond .le off, 3)) (hq : q = pc + 3) (ht : (pc : Int) + off = (t : Int)) : Ev X d i pc ls (.int x :: st) M Q = if x ≤ 0 then Ev X d i t ls st M Q else Ev X d i q ls st M Q := by
  subst hq
  split
  · rename_i hx
    exact Ev_step (im_step_of hc h (by simp only [im_in, im_i1, im_jmp]; rw [if_pos (by omega), if_pos (by simpa [im_cmp] using hx)]; simp [im_go, ht]))
  · rename_i hx
    exact Ev_step (im_step_of hc h (by simp only [im_in, im_i1, im_jmp]; rw [if_pos (by omega), if_neg (by simpa [im_cmp] using hx)]; simp [im_go]))
theorem E_icmp_le {x y : Int32} {off : Int} (hc : im_cc i = c) (h : decode c pc = .ok (.if_icmp .le off, 3)) (hq : q = pc + 3) (ht : (pc : Int) + off = (t : Int)) : Ev X d i pc ls (.int y :: .int x :: st) M Q = if x ≤ y then Ev X d i t ls st M Q else Ev X d i q ls st M Q := by
  subst hq
  split
  · rename_i hx
    exact Ev_step (im_step_of hc h (by simp only [im_in, im_i2, im_jmp]; rw [if_pos (by omega), if_pos (by simpa [im_cmp] using hx)]; simp [im_go, ht]))
  · rename_i hx
    exact Ev_step (im_step_of hc h (by simp only [im_in, im_i2, im_jmp]; rw [if_pos (by omega), if_neg (by simpa [im_cmp] using hx)]; simp [im_go]))
theorem E_goto {off : Int} (hc : im_cc i = c) (h : decode c pc = .ok (.goto off, 3)) (ht : (pc : Int) + off = (t : Int)) : Ev X d i pc ls st M Q = Ev X d i t ls st M Q :=
  Ev_step (im_step_of hc h (by simp only [im_in, im_jmp]; rw [if_pos (by omega)]; simp [im_go, ht]))
theorem E_ifnullN {off : Int} (hc : im_cc i = c) (h : decode c pc = .ok (.ifnull off, 3)) (ht : (pc : Int) + off = (t : Int)) : Ev X d i pc ls (.null :: st) M Q = Ev X d i t ls st M Q :=
  Ev_step (im_step_of hc h (by simp only [im_in, im_a1, im_jmp]; rw [if_pos (by omega)]; simp [im_go, ht]))
theorem E_ifnull {off : Int} {a : Nat} (hc : im_cc i = c) (h : decode c pc = .ok (.ifnull off, 3)) (hq : q = pc + 3) (ht : (pc : Int) + off = (t : Int)) : Ev X d i pc ls (.ref a :: st) M Q = Ev X d i q ls st M Q := by
  subst hq
  exact Ev_step (im_step_of hc h (by simp only [im_in, im_a1, im_jmp]; rw [if_pos (by omega)]; simp [im_go]))
theorem E_ifnonnullN {off : Int} (hc : im_cc i = c) (h : decode c pc = .ok (.ifnonnull off, 3)) (hq : q = pc + 3) (ht : (pc : Int) + off = (t : Int)) : Ev X d i pc ls (.null :: st) M Q = Ev X d i q ls st M Q := by
  subst hq
  exact Ev_step (im_step_of hc h (by simp only [im_in, im_a1, im_jmp]; rw [if_pos (by omega)]; simp [im_go]))
theorem E_ifnonnull {off : Int} {a : Nat} (hc : im_cc i = c) (h : decode c pc = .ok (.ifnonnull off, 3)) (ht : (pc : Int) + off = (t : Int)) : Ev X d i pc ls (.ref a :: st) M Q = Ev X d i t ls st M Q :=
  Ev_step (im_step_of hc h (by simp only [im_in, im_a1, im_jmp]; rw [if_pos (by omega)]; simp [im_go, ht]))
theorem E_tsw {dd lo hi : Int} {offs : Array Int} {len : Nat} {x : Int32} {off : Int} (hc : im_cc i = c) (h : decode c pc = .ok (.tableswitch dd lo hi offs, len)) (ho : (if x.toInt < lo ∨ hi < x.toInt then some dd else offs[(x.toInt - lo).toNat]?) = some off) (ht : (pc : Int) + off = (t : Int)) : Ev X d i pc ls (.int x :: st) M Q = Ev X d i t ls st M Q := by
  refine Ev_step (im_step_of hc h ?_)
  simp only [im_in, im_i1]
  split at ho
  · rename_i hx
    cases ho
    rw [if_pos hx]
    simp only [im_jmp]
    rw [if_pos (by omega)]
    simp [im_go, ht]
  · rename_i hx
    rw [if_neg hx, ho]
    simp only [im_jmp]
    rw [if_pos (by omega)]
    simp [im_go, ht]
theorem E_lsw {dd : Int} {ps : Array (Int × Int)} {len : Nat} {x : Int32} {off : Int} (hc : im_cc i = c) (h : decode c pc = .ok (.lookupswitch dd ps, len)) (hs : (ps.toList.zip (ps.toList.drop 1)).all (fun (a, next) => a.1 < next.1) = true) (ho : Op.lookupswitch.offset ps.toList dd x.toInt = off) (ht : (pc : Int) + off = (t : Int)) : Ev X d i pc ls (.int x :: st) M Q = Ev X d i t ls st M Q := by
  refine Ev_step (im_step_of hc h ?_)
  simp only [im_in, im_i1]
  rw [if_pos hs, ho]
  simp only [im_jmp]
  rw [if_pos (by omega)]
  simp [im_go, ht]
theorem E_ireturn {x : Int32} (hc : im_cc i = c) (h : decode c pc = .ok (.ireturn, 1)) (hr : im_rt i = some .int) : Ev X d i pc ls [.int x] M Q = Q (some (.int x)) M :=
  Ev_ret (im_step_of hc h (by simp only [im_in, im_ret1, hr]; simp [narrow]))
theorem E_zreturn {x : Int32} {ty : FieldType} (hc : im_cc i = c) (h : decode c pc = .ok (.ireturn, 1)) (hr : im_rt i = some ty) (hty : ty = .boolean ∨ ty = .byte ∨ ty = .char) (hn : narrow ty (.int x) = .int x) : Ev X d i pc ls [.int x] M Q = Q (some (.int x)) M :=
  Ev_ret (im_step_of hc h (by simp only [im_in, im_ret1, hr]; rw [if_pos ⟨trivial, Or.inr hty, hn⟩]))
theorem E_lreturn {x : Int64} (hc : im_cc i = c) (h : decode c pc = .ok (.lreturn, 1)) (hr : im_rt i = some .long) : Ev X d i pc ls [.long x] M Q = Q (some (.long x)) M :=
  Ev_ret (im_step_of hc h (by simp only [im_in]; rw [if_pos ⟨trivial, hr⟩]))
theorem E_areturn {a : Nat} (hc : im_cc i = c) (h : decode c pc = .ok (.areturn, 1)) (hr : im_rt i = some (.object RX0) ∨ im_rt i = some (.object RX4)) : Ev X d i pc ls [.ref a] M Q = Q (some (.ref a)) M :=
  Ev_ret (im_step_of hc h (by simp only [im_in, im_reta]; rw [if_pos ⟨trivial, hr⟩]))
theorem E_areturnN (hc : im_cc i = c) (h : decode c pc = .ok (.areturn, 1)) (hr : im_rt i = some (.object RX0) ∨ im_rt i = some (.object RX4)) : Ev X d i pc ls [.null] M Q = Q (some .null) M :=
  Ev_ret (im_step_of hc h (by simp only [im_in, im_reta]; rw [if_pos ⟨trivial, hr⟩]))
theorem E_return (hc : im_cc i = c) (h : decode c pc = .ok (.return_, 1)) (hr : im_rt i = none) : Ev X d i pc ls [] M Q = Q none M :=
  Ev_ret (im_step_of hc h (by simp only [im_in]; rw [if_pos ⟨trivial, hr⟩]))
theorem E_gs0 {x : Nat} (hc : im_cc i = c) (h : decode c pc = .ok (.getstatic x, 3)) (hq : q = pc + 3) (hg : im_gs (im_ow i) x = some 0) : Ev X d i pc ls st M Q = Ev X d i q ls (.ref im_RB :: st) M Q := by
  subst hq
  exact Ev_step (im_step_of hc h (by simp only [im_in, hg]; rfl))
theorem E_gs1 {x : Nat} (hc : im_cc i = c) (h : decode c pc = .ok (.getstatic x, 3)) (hq : q = pc + 3) (hg : im_gs (im_ow i) x = some 1) : Ev X d i pc ls st M Q = Ev X d i q ls (.ref (im_RB + 1) :: st) M Q := by
  subst hq
  exact Ev_step (im_step_of hc h (by simp only [im_in, hg]; rfl))
theorem E_gs2 {x : Nat} (hc : im_cc i = c) (h : decode c pc = .ok (.getstatic x, 3)) (hq : q = pc + 3) (hg : im_gs (im_ow i) x = some 2) : Ev X d i pc ls st M Q = Ev X d i q ls (.int 1 :: st) M Q := by
  subst hq
  exact Ev_step (im_step_of hc h (by simp only [im_in, hg]; rfl))
theorem E_callS0 {x k j mx : Nat} (hc : im_cc i = c) (h : decode c pc = .ok (.invokestatic x, 3)) (hq : q = pc + 3) (hl : im_lk (im_ow i) x = some (k, j, 0)) (hk : k = 0 ∨ k = 3) (hj : j < 238) (hm : im_ml j = mx) (hs : im_csum st ≤ 8) (ha : (im_al []).length ≤ mx) : Ev X (d + 1) i pc ls (st) M Q = Ev X d j 0 (im_ent mx []) [] M (fun v M2 => Ev X (d + 1) i q ls (v.toList ++ st) M2 Q) := by
  subst hq; subst hm
  refine Ev_call (im_step_of hc h ?_) (by omega) ha
  simp only [im_in, im_call, hl]
  rw [if_pos trivial, if_pos hk, if_pos ⟨by simp; try omega, by simpa using hs⟩]
  simp
theorem E_callV0 {x j mx a ci : Nat} (hc : im_cc i = c) (h : decode c pc = .ok (.invokevirtual x, 3)) (hq : q = pc + 3) (hl : im_lk (im_ow i) x = some (1, j, 0)) (hj : j < 238) (hm : im_ml j = mx) (ho : im_ow j = ci) (hs : im_csum st ≤ 8) (ha : (im_al []).length + 1 ≤ mx) (hr : (a < M.1 ∧ M.1 ≤ im_RB ∧ (M.2.2.1 a).1 < 11 ∧ ci = (M.2.2.1 a).1) ∨ (im_RB + 6 ≤ a ∧ a < im_RB + 9 ∧ ci = 13)) : Ev X (d + 1) i pc ls (.ref a :: st) M Q = Ev X d j 0 (im_ent mx [.ref a]) [] M (fun v M2 => Ev X (d + 1) i q ls (v.toList ++ st) M2 Q) := by
  subst hq; subst hm; subst ho
  refine Ev_call (im_step_of hc h ?_) (by omega) (by show (some (Value.ref a) :: im_al _).length ≤ _; simpa using ha)
  simp only [im_in, im_vcall, hl]
  rw [if_pos trivial, if_pos ⟨trivial, by simp; try omega, by simpa using hs⟩]
  simp only [List.drop_succ_cons, List.drop_zero]
  rw [if_pos hr]
  simp
theorem E_callS1 {v0 : Value} {x k j mx : Nat} (hc : im_cc i = c) (h : decode c pc = .ok (.invokestatic x, 3)) (hq : q = pc + 3) (hl : im_lk (im_ow i) x = some (k, j, 1)) (hk : k = 0 ∨ k = 3) (hj : j < 238) (hm : im_ml j = mx) (hs : im_csum st ≤ 8) (ha : (im_al [v0]).length ≤ mx) : Ev X (d + 1) i pc ls (v0 :: st) M Q = Ev X d j 0 (im_ent mx [v0]) [] M (fun v M2 => Ev X (d + 1) i q ls (v.toList ++ st) M2 Q) := by
  subst hq; subst hm
  refine Ev_call (im_step_of hc h ?_) (by omega) ha
  simp only [im_in, im_call, hl]
  rw [if_pos trivial, if_pos hk, if_pos ⟨by simp; try omega, by simpa using hs⟩]
  simp
theorem E_callV1 {v0 : Value} {x j mx a ci : Nat} (hc : im_cc i = c) (h : decode c pc = .ok (.invokevirtual x, 3)) (hq : q = pc + 3) (hl : im_lk (im_ow i) x = some (1, j, 1)) (hj : j < 238) (hm : im_ml j = mx) (ho : im_ow j = ci) (hs : im_csum st ≤ 8) (ha : (im_al [v0]).length + 1 ≤ mx) (hr : (a < M.1 ∧ M.1 ≤ im_RB ∧ (M.2.2.1 a).1 < 11 ∧ ci = (M.2.2.1 a).1) ∨ (im_RB + 6 ≤ a ∧ a < im_RB + 9 ∧ ci = 13)) : Ev X (d + 1) i pc ls (v0 :: .ref a :: st) M Q = Ev X d j 0 (im_ent mx [.ref a, v0]) [] M (fun v M2 => Ev X (d + 1) i q ls (v.toList ++ st) M2 Q) := by
  subst hq; subst hm; subst ho
  refine Ev_call (im_step_of hc h ?_) (by omega) (by show (some (Value.ref a) :: im_al _).length ≤ _; simpa using ha)
  simp only [im_in, im_vcall, hl]
  rw [if_pos trivial, if_pos ⟨trivial, by simp; try omega, by simpa using hs⟩]
  simp only [List.drop_succ_cons, List.drop_zero]
  rw [if_pos hr]
  simp
theorem E_callS2 {v0 v1 : Value} {x k j mx : Nat} (hc : im_cc i = c) (h : decode c pc = .ok (.invokestatic x, 3)) (hq : q = pc + 3) (hl : im_lk (im_ow i) x = some (k, j, 2)) (hk : k = 0 ∨ k = 3) (hj : j < 238) (hm : im_ml j = mx) (hs : im_csum st ≤ 8) (ha : (im_al [v0, v1]).length ≤ mx) : Ev X (d + 1) i pc ls (v1 :: v0 :: st) M Q = Ev X d j 0 (im_ent mx [v0, v1]) [] M (fun v M2 => Ev X (d + 1) i q ls (v.toList ++ st) M2 Q) := by
  subst hq; subst hm
  refine Ev_call (im_step_of hc h ?_) (by omega) ha
  simp only [im_in, im_call, hl]
  rw [if_pos trivial, if_pos hk, if_pos ⟨by simp; try omega, by simpa using hs⟩]
  simp
theorem E_callV2 {v0 v1 : Value} {x j mx a ci : Nat} (hc : im_cc i = c) (h : decode c pc = .ok (.invokevirtual x, 3)) (hq : q = pc + 3) (hl : im_lk (im_ow i) x = some (1, j, 2)) (hj : j < 238) (hm : im_ml j = mx) (ho : im_ow j = ci) (hs : im_csum st ≤ 8) (ha : (im_al [v0, v1]).length + 1 ≤ mx) (hr : (a < M.1 ∧ M.1 ≤ im_RB ∧ (M.2.2.1 a).1 < 11 ∧ ci = (M.2.2.1 a).1) ∨ (im_RB + 6 ≤ a ∧ a < im_RB + 9 ∧ ci = 13)) : Ev X (d + 1) i pc ls (v1 :: v0 :: .ref a :: st) M Q = Ev X d j 0 (im_ent mx [.ref a, v0, v1]) [] M (fun v M2 => Ev X (d + 1) i q ls (v.toList ++ st) M2 Q) := by
  subst hq; subst hm; subst ho
  refine Ev_call (im_step_of hc h ?_) (by omega) (by show (some (Value.ref a) :: im_al _).length ≤ _; simpa using ha)
  simp only [im_in, im_vcall, hl]
  rw [if_pos trivial, if_pos ⟨trivial, by simp; try omega, by simpa using hs⟩]
  simp only [List.drop_succ_cons, List.drop_zero]
  rw [if_pos hr]
  simp
theorem E_callS3 {v0 v1 v2 : Value} {x k j mx : Nat} (hc : im_cc i = c) (h : decode c pc = .ok (.invokestatic x, 3)) (hq : q = pc + 3) (hl : im_lk (im_ow i) x = some (k, j, 3)) (hk : k = 0 ∨ k = 3) (hj : j < 238) (hm : im_ml j = mx) (hs : im_csum st ≤ 8) (ha : (im_al [v0, v1, v2]).length ≤ mx) : Ev X (d + 1) i pc ls (v2 :: v1 :: v0 :: st) M Q = Ev X d j 0 (im_ent mx [v0, v1, v2]) [] M (fun v M2 => Ev X (d + 1) i q ls (v.toList ++ st) M2 Q) := by
  subst hq; subst hm
  refine Ev_call (im_step_of hc h ?_) (by omega) ha
  simp only [im_in, im_call, hl]
  rw [if_pos trivial, if_pos hk, if_pos ⟨by simp; try omega, by simpa using hs⟩]
  simp
theorem E_callV3 {v0 v1 v2 : Value} {x j mx a ci : Nat} (hc : im_cc i = c) (h : decode c pc = .ok (.invokevirtual x, 3)) (hq : q = pc + 3) (hl : im_lk (im_ow i) x = some (1, j, 3)) (hj : j < 238) (hm : im_ml j = mx) (ho : im_ow j = ci) (hs : im_csum st ≤ 8) (ha : (im_al [v0, v1, v2]).length + 1 ≤ mx) (hr : (a < M.1 ∧ M.1 ≤ im_RB ∧ (M.2.2.1 a).1 < 11 ∧ ci = (M.2.2.1 a).1) ∨ (im_RB + 6 ≤ a ∧ a < im_RB + 9 ∧ ci = 13)) : Ev X (d + 1) i pc ls (v2 :: v1 :: v0 :: .ref a :: st) M Q = Ev X d j 0 (im_ent mx [.ref a, v0, v1, v2]) [] M (fun v M2 => Ev X (d + 1) i q ls (v.toList ++ st) M2 Q) := by
  subst hq; subst hm; subst ho
  refine Ev_call (im_step_of hc h ?_) (by omega) (by show (some (Value.ref a) :: im_al _).length ≤ _; simpa using ha)
  simp only [im_in, im_vcall, hl]
  rw [if_pos trivial, if_pos ⟨trivial, by simp; try omega, by simpa using hs⟩]
  simp only [List.drop_succ_cons, List.drop_zero]
  rw [if_pos hr]
  simp
theorem E_callS4 {v0 v1 v2 v3 : Value} {x k j mx : Nat} (hc : im_cc i = c) (h : decode c pc = .ok (.invokestatic x, 3)) (hq : q = pc + 3) (hl : im_lk (im_ow i) x = some (k, j, 4)) (hk : k = 0 ∨ k = 3) (hj : j < 238) (hm : im_ml j = mx) (hs : im_csum st ≤ 8) (ha : (im_al [v0, v1, v2, v3]).length ≤ mx) : Ev X (d + 1) i pc ls (v3 :: v2 :: v1 :: v0 :: st) M Q = Ev X d j 0 (im_ent mx [v0, v1, v2, v3]) [] M (fun v M2 => Ev X (d + 1) i q ls (v.toList ++ st) M2 Q) := by
  subst hq; subst hm
  refine Ev_call (im_step_of hc h ?_) (by omega) ha
  simp only [im_in, im_call, hl]
  rw [if_pos trivial, if_pos hk, if_pos ⟨by simp; try omega, by simpa using hs⟩]
  simp
theorem E_callV4 {v0 v1 v2 v3 : Value} {x j mx a ci : Nat} (hc : im_cc i = c) (h : decode c pc = .ok (.invokevirtual x, 3)) (hq : q = pc + 3) (hl : im_lk (im_ow i) x = some (1, j, 4)) (hj : j < 238) (hm : im_ml j = mx) (ho : im_ow j = ci) (hs : im_csum st ≤ 8) (ha : (im_al [v0, v1, v2, v3]).length + 1 ≤ mx) (hr : (a < M.1 ∧ M.1 ≤ im_RB ∧ (M.2.2.1 a).1 < 11 ∧ ci = (M.2.2.1 a).1) ∨ (im_RB + 6 ≤ a ∧ a < im_RB + 9 ∧ ci = 13)) : Ev X (d + 1) i pc ls (v3 :: v2 :: v1 :: v0 :: .ref a :: st) M Q = Ev X d j 0 (im_ent mx [.ref a, v0, v1, v2, v3]) [] M (fun v M2 => Ev X (d + 1) i q ls (v.toList ++ st) M2 Q) := by
  subst hq; subst hm; subst ho
  refine Ev_call (im_step_of hc h ?_) (by omega) (by show (some (Value.ref a) :: im_al _).length ≤ _; simpa using ha)
  simp only [im_in, im_vcall, hl]
  rw [if_pos trivial, if_pos ⟨trivial, by simp; try omega, by simpa using hs⟩]
  simp only [List.drop_succ_cons, List.drop_zero]
  rw [if_pos hr]
  simp
theorem E_callS5 {v0 v1 v2 v3 v4 : Value} {x k j mx : Nat} (hc : im_cc i = c) (h : decode c pc = .ok (.invokestatic x, 3)) (hq : q = pc + 3) (hl : im_lk (im_ow i) x = some (k, j, 5)) (hk : k = 0 ∨ k = 3) (hj : j < 238) (hm : im_ml j = mx) (hs : im_csum st ≤ 8) (ha : (im_al [v0, v1, v2, v3, v4]).length ≤ mx) : Ev X (d + 1) i pc ls (v4 :: v3 :: v2 :: v1 :: v0 :: st) M Q = Ev X d j 0 (im_ent mx [v0, v1, v2, v3, v4]) [] M (fun v M2 => Ev X (d + 1) i q ls (v.toList ++ st) M2 Q) := by
  subst hq; subst hm
  refine Ev_call (im_step_of hc h ?_) (by omega) ha
  simp only [im_in, im_call, hl]
  rw [if_pos trivial, if_pos hk, if_pos ⟨by simp; try omega, by simpa using hs⟩]
  simp
theorem E_callV5 {v0 v1 v2 v3 v4 : Value} {x j mx a ci : Nat} (hc : im_cc i = c) (h : decode c pc = .ok (.invokevirtual x, 3)) (hq : q = pc + 3) (hl : im_lk (im_ow i) x = some (1, j, 5)) (hj : j < 238) (hm : im_ml j = mx) (ho : im_ow j = ci) (hs : im_csum st ≤ 8) (ha : (im_al [v0, v1, v2, v3, v4]).length + 1 ≤ mx) (hr : (a < M.1 ∧ M.1 ≤ im_RB ∧ (M.2.2.1 a).1 < 11 ∧ ci = (M.2.2.1 a).1) ∨ (im_RB + 6 ≤ a ∧ a < im_RB + 9 ∧ ci = 13)) : Ev X (d + 1) i pc ls (v4 :: v3 :: v2 :: v1 :: v0 :: .ref a :: st) M Q = Ev X d j 0 (im_ent mx [.ref a, v0, v1, v2, v3, v4]) [] M (fun v M2 => Ev X (d + 1) i q ls (v.toList ++ st) M2 Q) := by
  subst hq; subst hm; subst ho
  refine Ev_call (im_step_of hc h ?_) (by omega) (by show (some (Value.ref a) :: im_al _).length ≤ _; simpa using ha)
  simp only [im_in, im_vcall, hl]
  rw [if_pos trivial, if_pos ⟨trivial, by simp; try omega, by simpa using hs⟩]
  simp only [List.drop_succ_cons, List.drop_zero]
  rw [if_pos hr]
  simp
end EV
