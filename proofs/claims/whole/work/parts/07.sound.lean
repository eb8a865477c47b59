/-! CALLS, ENDS, AND THE WHOLE: what the abstract machine comes to, the machine comes to -/
/-- an instruction that is no call and no end: it goes on, and makes no cell less -/
def im_nice (M : im_M) (z : Option im_R) : Prop := (∀ q, z ≠ some (.inr q)) ∧ ∀ c' : im_C, z = some (.inl c') → M.1 ≤ c'.2.2.2.1 ∧ M.2.1 ≤ c'.2.2.2.2.1
theorem im_nice_none {M : im_M} : im_nice M none := ⟨fun _ h => (by cases h), fun _ h => by cases h⟩
theorem im_nice_go {M : im_M} {b : Bool} {c : im_C} (h : M.1 ≤ c.2.2.2.1 ∧ M.2.1 ≤ c.2.2.2.2.1) : im_nice M (im_go b c) := by
  unfold im_go
  split
  · exact ⟨fun _ h => (by cases h), fun c' h1 => by cases h1; exact h⟩
  · exact im_nice_none
theorem im_nice_in {M M' : im_M} {pc : Nat} {ls : List (Option Value)} {st : List Value} (h : M.1 ≤ M'.1 ∧ M.2.1 ≤ M'.2.1) : im_nice M (some (.inl (pc, ls, st, M'))) := ⟨fun _ h => (by cases h), fun c' h1 => by cases h1; exact h⟩
theorem im_nice_i2 {M : im_M} {st : List Value} {f : Int32 → Int32 → List Value → Option im_R} (h : ∀ x y r, im_nice M (f x y r)) : im_nice M (im_i2 st f) := by
  unfold im_i2; split; exact h _ _ _; exact im_nice_none
theorem im_nice_i1 {M : im_M} {st : List Value} {f : Int32 → List Value → Option im_R} (h : ∀ x r, im_nice M (f x r)) : im_nice M (im_i1 st f) := by
  unfold im_i1; split; exact h _ _; exact im_nice_none
theorem im_nice_l2 {M : im_M} {st : List Value} {f : Int64 → Int64 → List Value → Option im_R} (h : ∀ x y r, im_nice M (f x y r)) : im_nice M (im_l2 st f) := by
  unfold im_l2; split; exact h _ _ _; exact im_nice_none
theorem im_nice_l1 {M : im_M} {st : List Value} {f : Int64 → List Value → Option im_R} (h : ∀ x r, im_nice M (f x r)) : im_nice M (im_l1 st f) := by
  unfold im_l1; split; exact h _ _; exact im_nice_none
theorem im_nice_li {M : im_M} {st : List Value} {f : Int64 → Int32 → List Value → Option im_R} (h : ∀ x y r, im_nice M (f x y r)) : im_nice M (im_li st f) := by
  unfold im_li; split; exact h _ _ _; exact im_nice_none
theorem im_nice_a1 {M : im_M} {st : List Value} {f : Value → List Value → Option im_R} (h : ∀ x r, im_nice M (f x r)) : im_nice M (im_a1 st f) := by
  unfold im_a1; split; exact h _ _; exact h _ _; exact im_nice_none
theorem im_nice_ldI {M : im_M} {ls : List (Option Value)} {k : Nat} {f : Int32 → Option im_R} (h : ∀ x, im_nice M (f x)) : im_nice M (im_ldI ls k f) := by
  unfold im_ldI; split; exact h _; exact im_nice_none
theorem im_nice_ldL {M : im_M} {ls : List (Option Value)} {k : Nat} {f : Int64 → Option im_R} (h : ∀ x, im_nice M (f x)) : im_nice M (im_ldL ls k f) := by
  unfold im_ldL; split; exact h _; exact im_nice_none
theorem im_nice_ldA {M : im_M} {ls : List (Option Value)} {k : Nat} {f : Value → Option im_R} (h : ∀ x, im_nice M (f x)) : im_nice M (im_ldA ls k f) := by
  unfold im_ldA; split; exact h _; exact h _; exact im_nice_none
theorem im_nice_jmp {M : im_M} {pc : Nat} {off : Int} {f : Nat → Option im_R} (h : ∀ t, im_nice M (f t)) : im_nice M (im_jmp pc off f) := by
  unfold im_jmp; split; exact h _; exact im_nice_none
def im_ctl (ins : Instr) : Bool := match ins with
  | .invokestatic _ | .invokevirtual _ | .invokespecial _ | .ireturn | .lreturn | .areturn | .return_ => true
  | _ => false
theorem im_in_nice {X : im_E} {i pc len : Nat} {ls : List (Option Value)} {st : List Value} {M : im_M} (ins : Instr) (hc : im_ctl ins = false) : im_nice M (im_in X i pc ins len ls st M) := by
  cases ins <;> first | (cases hc; done) | skip
  all_goals (dsimp only [im_in])
  all_goals (repeat' first
    | with_reducible exact im_nice_none
    | (with_reducible refine im_nice_go ?_; first | exact ⟨Nat.le_refl _, Nat.le_refl _⟩ | exact ⟨Nat.le_succ _, Nat.le_add_right _ _⟩)
    | with_reducible refine im_nice_i2 fun _ _ _ => ?_
    | with_reducible refine im_nice_i1 fun _ _ => ?_
    | with_reducible refine im_nice_l2 fun _ _ _ => ?_
    | with_reducible refine im_nice_l1 fun _ _ => ?_
    | with_reducible refine im_nice_li fun _ _ _ => ?_
    | with_reducible refine im_nice_a1 fun _ _ => ?_
    | with_reducible refine im_nice_ldI fun _ => ?_
    | with_reducible refine im_nice_ldL fun _ => ?_
    | with_reducible refine im_nice_ldA fun _ => ?_
    | with_reducible refine im_nice_jmp fun _ => ?_
    | unfold im_getf
    | unfold im_putf
    | unfold im_ald
    | unfold im_alen
    | split)
theorem im_ret1_no {i len : Nat} {ls : List (Option Value)} {st : List Value} {M : im_M} {c' : im_C} : im_ret1 i len ls st M ≠ some (.inl c') := by
  unfold im_ret1; (repeat' split) <;> simp
theorem im_reta_no {i len : Nat} {st : List Value} {M : im_M} {c' : im_C} : im_reta i len st M ≠ some (.inl c') := by
  unfold im_reta; (repeat' split) <;> simp
theorem im_vcall_no {i pc x : Nat} {ls : List (Option Value)} {st : List Value} {M : im_M} {c' : im_C} : im_vcall i pc x ls st M ≠ some (.inl c') := by
  unfold im_vcall; (repeat' split) <;> simp
theorem im_scall_no {i pc x : Nat} {ls : List (Option Value)} {st : List Value} {M : im_M} {c' : im_C} : im_scall i pc x ls st M ≠ some (.inl c') := by
  unfold im_scall; (repeat' split) <;> simp
theorem im_call_nor {i pc x : Nat} {ls : List (Option Value)} {st : List Value} {M : im_M} {q : Option Value × im_M} : im_call i pc x ls st M ≠ some (.inr (.inl q)) := by
  unfold im_call; (repeat' split) <;> simp
theorem im_vcall_nor {i pc x : Nat} {ls : List (Option Value)} {st : List Value} {M : im_M} {q : Option Value × im_M} : im_vcall i pc x ls st M ≠ some (.inr (.inl q)) := by
  unfold im_vcall; (repeat' split) <;> simp
theorem im_scall_nor {i pc x : Nat} {ls : List (Option Value)} {st : List Value} {M : im_M} {q : Option Value × im_M} : im_scall i pc x ls st M ≠ some (.inr (.inl q)) := by
  unfold im_scall; (repeat' split) <;> simp
theorem im_ret1_noc {i len : Nat} {ls : List (Option Value)} {st : List Value} {M : im_M} {q : Nat × List Value × im_C} : im_ret1 i len ls st M ≠ some (.inr (.inr q)) := by
  unfold im_ret1; (repeat' split) <;> simp
theorem im_reta_noc {i len : Nat} {st : List Value} {M : im_M} {q : Nat × List Value × im_C} : im_reta i len st M ≠ some (.inr (.inr q)) := by
  unfold im_reta; (repeat' split) <;> simp
theorem im_step_mono {X : im_E} {i : Nat} {c c' : im_C} (h : im_step X i c = some (.inl c')) : c.2.2.2.1 ≤ c'.2.2.2.1 ∧ c.2.2.2.2.1 ≤ c'.2.2.2.2.1 := by
  obtain ⟨pc, ls, st, M⟩ := c
  unfold im_step at h
  dsimp only at h
  split at h
  · rename_i ins len hd
    by_cases hc : im_ctl ins = false
    · exact (im_in_nice ins hc).2 c' h
    · cases ins <;> first | exact absurd rfl hc | skip
      case invokestatic x =>
        dsimp only [im_in] at h
        split at h
        · unfold im_call at h
          split at h
          · cases h
          · split at h
            · split at h <;> cases h
            · split at h
              · split at h
                · split at h
                  · cases h; exact ⟨Nat.le_refl _, Nat.le_refl _⟩
                  · cases h
                · cases h
              · cases h
        · cases h
      case invokevirtual x =>
        dsimp only [im_in] at h
        split at h
        · exact absurd h im_vcall_no
        · cases h
      case invokespecial x =>
        dsimp only [im_in] at h
        split at h
        · exact absurd h im_scall_no
        · cases h
      case ireturn => exact absurd h (im_ret1_no (ls := ls))
      case areturn => exact absurd h im_reta_no
      case lreturn =>
        dsimp only [im_in] at h
        split at h
        · split at h <;> cases h
        · cases h
      case return_ =>
        dsimp only [im_in] at h
        split at h
        · split at h <;> cases h
        · cases h
  · cases h
theorem im_step_ret {X : im_E} {i pc : Nat} {ls : List (Option Value)} {st : List Value} {M M' : im_M} {r : Option Value} (h : im_step X i (pc, ls, st, M) = some (.inr (.inl (r, M')))) : ∃ ins len, decode (im_cc i) pc = .ok (ins, len) ∧ im_in X i pc ins len ls st M = some (.inr (.inl (r, M'))) := by
  unfold im_step at h
  dsimp only at h
  split at h
  · rename_i ins len hd
    exact ⟨ins, len, hd, h⟩
  · cases h
def im_Rt (i pc : Nat) (r : Option Value) : Prop := match r with
  | none => decode (im_cc i) pc = .ok (.return_, 1) ∧ im_rt i = none
  | some (.int x) => decode (im_cc i) pc = .ok (.ireturn, 1) ∧ ∃ ty, im_rt i = some ty ∧ narrow ty (.int x) = .int x
  | some (.long _) => decode (im_cc i) pc = .ok (.lreturn, 1) ∧ im_rt i = some .long
  | some (.ref _) => decode (im_cc i) pc = .ok (.areturn, 1) ∧ (im_rt i = some (.object RX0) ∨ im_rt i = some (.object RX4))
  | some .null => decode (im_cc i) pc = .ok (.areturn, 1) ∧ (im_rt i = some (.object RX0) ∨ im_rt i = some (.object RX4))
  | _ => False
theorem im_retW {X : im_E} {i pc : Nat} {ls : List (Option Value)} {st : List Value} {M M' : im_M} {r : Option Value} (h : im_step X i (pc, ls, st, M) = some (.inr (.inl (r, M')))) : M' = M ∧ st = r.toList ∧ im_Rt i pc r := by
  obtain ⟨ins, len, hd, h⟩ := im_step_ret h
  cases ins
  case ireturn =>
    dsimp only [im_in, im_ret1] at h
    split at h
    · split at h
      · rename_i ty hty
        split at h
        · rename_i hq
          cases h
          obtain ⟨rfl, -, hn⟩ := hq
          exact ⟨rfl, rfl, hd, ty, hty, hn⟩
        · cases h
      · cases h
    · cases h
  case lreturn =>
    dsimp only [im_in] at h
    split at h
    · split at h
      · rename_i hq
        cases h
        obtain ⟨rfl, hn⟩ := hq
        exact ⟨rfl, rfl, hd, hn⟩
      · cases h
    · cases h
  case areturn =>
    dsimp only [im_in, im_reta] at h
    split at h
    · split at h
      · rename_i hq
        cases h
        obtain ⟨rfl, hn⟩ := hq
        exact ⟨rfl, rfl, hd, hn⟩
      · cases h
    · split at h
      · rename_i hq
        cases h
        obtain ⟨rfl, hn⟩ := hq
        exact ⟨rfl, rfl, hd, hn⟩
      · cases h
    · cases h
  case return_ =>
    dsimp only [im_in] at h
    split at h
    · split at h
      · rename_i hq
        cases h
        obtain ⟨rfl, hn⟩ := hq
        exact ⟨rfl, rfl, hd, hn⟩
      · cases h
    · cases h
  case invokestatic x =>
    dsimp only [im_in] at h
    split at h
    · exact absurd h im_call_nor
    · cases h
  case invokevirtual x =>
    dsimp only [im_in] at h
    split at h
    · exact absurd h im_vcall_nor
    · cases h
  case invokespecial x =>
    dsimp only [im_in] at h
    split at h
    · exact absurd h im_scall_nor
    · cases h
  all_goals exact absurd h ((im_in_nice _ rfl).1 _)
/-- what a call is -/
def im_Cl (i pc j : Nat) (as st rest : List Value) (M : im_M) : Prop := im_csum rest ≤ 8 ∧
  ((∃ (x a b c : Nat), decode (im_cc i) pc = .ok (.invokespecial x, 3) ∧ j = 1000 ∧ im_lk (im_ow i) x = some (5, b, c) ∧ st = .ref a :: rest) ∨
   (∃ (x k n : Nat), decode (im_cc i) pc = .ok (.invokestatic x, 3) ∧ (k = 0 ∨ k = 3) ∧ im_lk (im_ow i) x = some (k, j, n) ∧ st = as.reverse ++ rest ∧ as.length = n) ∨
   (∃ (x n a : Nat) (as' : List Value), decode (im_cc i) pc = .ok (.invokevirtual x, 3) ∧ im_lk (im_ow i) x = some (1, j, n) ∧ as = .ref a :: as' ∧ st = as'.reverse ++ .ref a :: rest ∧ as'.length = n ∧ ((a < M.1 ∧ (M.2.2.1 a).1 < 11 ∧ im_ow j = (M.2.2.1 a).1) ∨ (im_RB + 6 ≤ a ∧ a < im_RB + 9 ∧ im_ow j = 13))) ∨
   (∃ (x k n a : Nat) (as' : List Value), decode (im_cc i) pc = .ok (.invokespecial x, 3) ∧ (k = 2 ∨ k = 4) ∧ im_lk (im_ow i) x = some (k, j, n) ∧ as = .ref a :: as' ∧ st = as'.reverse ++ .ref a :: rest ∧ as'.length = n))
theorem im_callI {X : im_E} {i pc j : Nat} {ls : List (Option Value)} {st as : List Value} {M : im_M} {c' : im_C} (h : im_step X i (pc, ls, st, M) = some (.inr (.inr (j, as, c')))) : ∃ rest, c' = (pc + 3, ls, rest, M) ∧ im_Cl i pc j as st rest M := by
  unfold im_step at h
  dsimp only at h
  split at h
  · rename_i ins len hd
    cases ins
    case invokestatic x =>
      dsimp only [im_in] at h
      split at h
      · rename_i hl3
        subst hl3
        unfold im_call at h
        split at h
        · cases h
        · rename_i k j' n hf
          split at h
          · rename_i hk
            split at h
            · rename_i hq
              cases h
              refine ⟨_, rfl, hq.2, Or.inr (Or.inl ⟨x, k, n, hd, hk, hf, ?_, ?_⟩)⟩
              · rw [List.reverse_reverse, List.take_append_drop]
              · rw [List.length_reverse, List.length_take]; omega
            · cases h
          · split at h
            · split at h
              · split at h <;> cases h
              · cases h
            · cases h
      · cases h
    case invokevirtual x =>
      dsimp only [im_in] at h
      split at h
      · rename_i hl3
        subst hl3
        unfold im_vcall at h
        split at h
        · cases h
        · rename_i k j' n hf
          split at h
          · rename_i hq
            obtain ⟨rfl, hn, hc⟩ := hq
            split at h
            · rename_i a r hdr
              split at h
              · rename_i hrc
                cases h
                have hr : st.drop (n + 1) = r := by rw [← List.drop_drop, hdr]; rfl
                rw [hr] at hc
                refine ⟨_, rfl, hc, Or.inr (Or.inr (Or.inl ⟨x, n, a, _, hd, hf, rfl, ?_, ?_, ?_⟩))⟩
                · rw [List.reverse_reverse, ← hdr, List.take_append_drop]
                · rw [List.length_reverse, List.length_take]; omega
                · rcases hrc with ⟨q1, -, q2, q3⟩ | q
                  · exact Or.inl ⟨q1, q2, q3⟩
                  · exact Or.inr q
              · cases h
            · cases h
          · cases h
      · cases h
    case invokespecial x =>
      dsimp only [im_in] at h
      split at h
      · rename_i hl3
        subst hl3
        unfold im_scall at h
        split at h
        · cases h
        · rename_i k j' n hf
          split at h
          · rename_i hk
            subst hk
            split at h
            · rename_i a r
              split at h
              · rename_i hq
                cases h
                exact ⟨_, rfl, hq, Or.inl ⟨x, a, _, _, hd, rfl, hf, rfl⟩⟩
              · cases h
            · cases h
          · split at h
            · rename_i hq
              obtain ⟨hk, hn, hc⟩ := hq
              split at h
              · rename_i a r hdr
                cases h
                have hr : st.drop (n + 1) = r := by rw [← List.drop_drop, hdr]; rfl
                rw [hr] at hc
                refine ⟨_, rfl, hc, Or.inr (Or.inr (Or.inr ⟨x, k, n, a, _, hd, hk, hf, rfl, ?_, ?_⟩))⟩
                · rw [List.reverse_reverse, ← hdr, List.take_append_drop]
                · rw [List.length_reverse, List.length_take]; omega
              · cases h
            · cases h
      · cases h
    case ireturn => exact absurd h (im_ret1_noc (ls := ls))
    case areturn => exact absurd h im_reta_noc
    case lreturn =>
      dsimp only [im_in] at h
      split at h
      · split at h <;> cases h
      · cases h
    case return_ =>
      dsimp only [im_in] at h
      split at h
      · split at h <;> cases h
      · cases h
    all_goals exact absurd h ((im_in_nice _ rfl).1 _)
  · cases h
theorem im_run_mono {X : im_E} : ∀ (n d i : Nat) (c : im_C) (r : Option Value) (M' : im_M), im_run X n d i c = some (r, M') → c.2.2.2.1 ≤ M'.1 ∧ c.2.2.2.2.1 ≤ M'.2.1
  | 0, d, i, c, r, M', h => by simp [im_run] at h
  | n + 1, d, i, c, r, M', h => by
    unfold im_run at h
    split at h
    · rename_i c' hs
      have h1 := im_step_mono hs
      have h2 := im_run_mono n d i c' r M' h
      omega
    · rename_i q hs
      cases h
      obtain ⟨pc, ls, st, M⟩ := c
      obtain ⟨h1, -, -⟩ := im_retW hs
      subst h1
      exact ⟨Nat.le_refl _, Nat.le_refl _⟩
    · rename_i j as pc' ls' rest M1 hs
      obtain ⟨pc, ls, st, M⟩ := c
      obtain ⟨rest', e1, -⟩ := im_callI hs
      cases e1
      split at h
      · cases h
      · split at h
        · have h1 := im_run_mono n _ i _ r M' h
          exact h1
        · split at h
          · split at h
            · rename_i v M2 hq
              have h1 := im_run_mono n _ j _ _ _ hq
              have h2 := im_run_mono n _ i _ r M' h
              dsimp only at h1 h2 ⊢
              omega
            · cases h
          · cases h
    · cases h
