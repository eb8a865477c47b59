/-! WHAT A CALL GIVES BACK -/
theorem go_l {b : Bool} {c : im_C} {z : Option Value × im_M} : im_go b c ≠ some (.inr (.inl z)) := by
  unfold im_go
  split <;> simp
theorem jmp_l {pc : Nat} {off : Int} {f : Nat → Option im_R} {z : Option Value × im_M} (h : ∀ t, f t ≠ some (.inr (.inl z))) : im_jmp pc off f ≠ some (.inr (.inl z)) := by
  unfold im_jmp
  split
  · exact h _
  · simp
set_option maxRecDepth 100000 in
set_option maxHeartbeats 2000000 in
theorem in_retI {X : im_E} {i pc len : Nat} {ins : Instr} {ls : List (Option Value)} {st : List Value} {M M' : im_M} {r : Option Value} (h : im_in X i pc ins len ls st M = some (.inr (.inl (r, M')))) (hr : im_rt i = some .int) : ∃ x, r = some (.int x) := by
  unfold im_in at h
  split at h
  all_goals first
    | exact absurd h go_l
    | (simp only [im_ldI, im_ldL, im_ldA, im_i1, im_i2, im_a1, im_l1, im_l2, im_li, im_getf, im_putf, im_ald, im_alen, im_call, im_vcall, im_scall, im_ret1, im_reta] at h
       repeat' (first | (exact absurd h go_l) | (exact absurd h (jmp_l (fun _ => go_l))) | (cases h; done) | split at h))
    | skip
  all_goals first
    | (cases h; done)
    | exact absurd h (jmp_l (fun _ => go_l))
    | (cases h; exact ⟨_, rfl⟩)
    | (cases h; exact ⟨_, rfl⟩)
    | (exfalso; rename_i hh; rw [hr] at hh; rcases hh.2 with y | y <;> cases y)
    | (exfalso; rename_i hh; rw [hr] at hh; cases hh.2)
    | (split at h <;> first | exact absurd h go_l | (cases h; done) | (split at h <;> first | exact absurd h go_l | (cases h; done) | (cases h; exact ⟨_, rfl⟩)))
    | (split at h <;> first | (exact absurd h go_l) | skip)
    | skip
  all_goals first
    | (cases h; done)
    | (split at h <;> first | (cases h; done) | (exfalso; rename_i hh; rw [hr] at hh; cases hh.2))
theorem run_retI {X : im_E} : ∀ (n d i : Nat) (c : im_C) (r : Option Value) (M' : im_M), im_run X n d i c = some (r, M') → im_rt i = some .int → ∃ x, r = some (.int x)
  | 0, d, i, c, r, M', h, _ => by simp [im_run] at h
  | n + 1, d, i, c, r, M', h, hr => by
    unfold im_run at h
    split at h
    · exact run_retI n d i _ r M' h hr
    · rename_i z hs
      cases h
      unfold im_step at hs
      split at hs
      · exact in_retI hs hr
      · cases hs
    · split at h
      · cases h
      · split at h
        · exact run_retI n _ i _ r M' h hr
        · split at h
          · split at h
            · exact run_retI n _ i _ r M' h hr
            · cases h
          · cases h
    · cases h
theorem OP_int {X : im_E} {e i mx : Nat} {args : List Value} {σ τ : Nat → Nat → Int32} {v : Value} (h : OP X e i mx args σ τ v) (hr : im_rt i = some .int) : ∃ x, v = .int x := by
  have a := h (fun r M => r = some v)
  have b : Ev X e i 0 (im_ent mx args) [] (mem σ) (fun r M => r = some v) := by rw [a]
  obtain ⟨n, r, M', h1, h2⟩ := b
  obtain ⟨x, c⟩ := run_retI n e i _ r M' h1 hr
  rw [h2] at c
  exact ⟨x, by cases c; rfl⟩
set_option maxRecDepth 100000 in
set_option maxHeartbeats 2000000 in
theorem in_retL {X : im_E} {i pc len : Nat} {ins : Instr} {ls : List (Option Value)} {st : List Value} {M M' : im_M} {r : Option Value} (h : im_in X i pc ins len ls st M = some (.inr (.inl (r, M')))) (hr : im_rt i = some .long) : ∃ x, r = some (.long x) := by
  unfold im_in at h
  split at h
  all_goals first
    | exact absurd h go_l
    | (simp only [im_ldI, im_ldL, im_ldA, im_i1, im_i2, im_a1, im_l1, im_l2, im_li, im_getf, im_putf, im_ald, im_alen, im_call, im_vcall, im_scall, im_ret1, im_reta] at h
       repeat' (first | (exact absurd h go_l) | (exact absurd h (jmp_l (fun _ => go_l))) | (cases h; done) | split at h))
    | skip
  all_goals first
    | (exfalso; rename_i hq hh; rw [hr] at hq; cases hq; rcases hh.2.1 with y | y | y | y <;> cases y)
    | (cases h; done)
    | exact absurd h (jmp_l (fun _ => go_l))
    | (cases h; exact ⟨_, rfl⟩)
    | (cases h; exact ⟨_, rfl⟩)
    | (exfalso; rename_i hh; rw [hr] at hh; rcases hh.2 with y | y <;> cases y)
    | (exfalso; rename_i hh; rw [hr] at hh; cases hh.2)
    | (split at h <;> first | exact absurd h go_l | (cases h; done) | (split at h <;> first | exact absurd h go_l | (cases h; done) | (cases h; exact ⟨_, rfl⟩)))
    | (split at h <;> first | (exact absurd h go_l) | skip)
    | skip
  all_goals first
    | (cases h; done)
    | (split at h <;> first | (cases h; done) | (exfalso; rename_i hh; rw [hr] at hh; cases hh.2))
theorem run_retL {X : im_E} : ∀ (n d i : Nat) (c : im_C) (r : Option Value) (M' : im_M), im_run X n d i c = some (r, M') → im_rt i = some .long → ∃ x, r = some (.long x)
  | 0, d, i, c, r, M', h, _ => by simp [im_run] at h
  | n + 1, d, i, c, r, M', h, hr => by
    unfold im_run at h
    split at h
    · exact run_retL n d i _ r M' h hr
    · rename_i z hs
      cases h
      unfold im_step at hs
      split at hs
      · exact in_retL hs hr
      · cases hs
    · split at h
      · cases h
      · split at h
        · exact run_retL n _ i _ r M' h hr
        · split at h
          · split at h
            · exact run_retL n _ i _ r M' h hr
            · cases h
          · cases h
    · cases h
theorem OP_long {X : im_E} {e i mx : Nat} {args : List Value} {σ τ : Nat → Nat → Int32} {v : Value} (h : OP X e i mx args σ τ v) (hr : im_rt i = some .long) : ∃ x, v = .long x := by
  have a := h (fun r M => r = some v)
  have b : Ev X e i 0 (im_ent mx args) [] (mem σ) (fun r M => r = some v) := by rw [a]
  obtain ⟨n, r, M', h1, h2⟩ := b
  obtain ⟨x, c⟩ := run_retL n e i _ r M' h1 hr
  rw [h2] at c
  exact ⟨x, by cases c; rfl⟩
