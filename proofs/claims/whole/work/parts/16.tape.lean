/-! THE READER'S FIELDS THAT ARE NO INTS, AND A STRING'S -/
section E16
variable {X : im_E} {d i pc q t : Nat} {ls lt : List (Option Value)} {st : List Value} {M : im_M} {σ : Nat → Nat → Int32} {Q : Option Value → im_M → Prop} {c : ByteArray}
theorem im_szs3 : im_szs.getD 3 0 = 5 := by decide
theorem vals_tape {a : Nat} (h : okc a 3 = true) : vals σ a 1 = if σ a 1 = 0 then .null else .ref 14 := by
  obtain ⟨h1, h2, h3⟩ := okc_of h
  unfold vals
  rw [if_pos ⟨h3, rfl⟩]
theorem vals_names {a : Nat} (h : okc a 3 = true) : vals σ a 2 = .ref (im_RB + 6 + (σ a 2).toNatClampNeg) := by
  obtain ⟨h1, h2, h3⟩ := okc_of h
  unfold vals
  rw [if_neg (fun q => by cases q.2), if_pos ⟨h3, rfl⟩]
theorem E_tape {a x : Nat} {b : Bool} (hc : im_cc i = c) (h : decode c pc = .ok (.getfield x, 3)) (hq : q = pc + 3) (hf : im_fl (im_ow i) x = some (3, 1, b)) (hw : im_ow i = 3) (ho : okc a 3 = true) (hz : ¬ σ a 1 = 0) : Ev X d i pc ls (.ref a :: st) (mem σ) Q = Ev X d i q ls (.ref 14 :: st) (mem σ) Q := by
  subst hq
  refine Ev_step (im_step_of hc h ?_)
  simp only [im_in, im_getf, hf]
  rw [if_neg (by rw [hw]; decide), im_obj_mem ho (by rw [im_szs3]; decide)]
  have e := vals_tape (σ := σ) ho
  rw [if_neg hz] at e
  show im_go (true && true) (pc + 3, ls, vals σ a 1 :: st, mem σ) = _
  rw [e]; rfl
theorem E_names {a x : Nat} {b : Bool} (hc : im_cc i = c) (h : decode c pc = .ok (.getfield x, 3)) (hq : q = pc + 3) (hf : im_fl (im_ow i) x = some (3, 2, b)) (hw : im_ow i = 3) (ho : okc a 3 = true) : Ev X d i pc ls (.ref a :: st) (mem σ) Q = Ev X d i q ls (.ref (im_RB + 6 + (σ a 2).toNatClampNeg) :: st) (mem σ) Q := by
  subst hq
  refine Ev_step (im_step_of hc h ?_)
  simp only [im_in, im_getf, hf]
  rw [if_neg (by rw [hw]; decide), im_obj_mem ho (by rw [im_szs3]; decide)]
  have e := vals_names (σ := σ) ho
  show im_go (true && true) (pc + 3, ls, vals σ a 2 :: st, mem σ) = _
  rw [e]; rfl
theorem vals_up1 {a : Nat} {v : Int32} (h : okc a 3 = true) (hv : ¬ v = 0) : im_up (vals σ) a 1 (.ref 14) = vals (up σ a 1 v) := by
  obtain ⟨h1, h2, h3⟩ := okc_of h
  funext a' k'
  unfold im_up
  by_cases ha : a' = a
  · subst ha
    rw [if_pos rfl]
    by_cases hk : k' = 1
    · subst hk
      rw [if_pos rfl, vals_tape h, up_s, if_neg hv]
    · rw [if_neg hk]
      unfold vals
      have e : ∀ j, j ≠ 1 → up σ a' 1 v a' j = σ a' j := fun j hj => by simp [up, hj]
      simp only [hk, and_false, if_false, e 2 (by decide), e k' hk]
  · rw [if_neg ha]
    unfold vals
    have e : ∀ j, up σ a 1 v a' j = σ a' j := fun j => by simp [up, ha]
    rw [e, e, e]
theorem vals_up2 {a : Nat} {v : Int32} (h : okc a 3 = true) : im_up (vals σ) a 2 (.ref (im_RB + 6 + v.toNatClampNeg)) = vals (up σ a 2 v) := by
  obtain ⟨h1, h2, h3⟩ := okc_of h
  funext a' k'
  unfold im_up
  by_cases ha : a' = a
  · subst ha
    rw [if_pos rfl]
    by_cases hk : k' = 2
    · subst hk
      rw [if_pos rfl, vals_names h, up_s]
    · rw [if_neg hk]
      unfold vals
      have e : ∀ j, j ≠ 2 → up σ a' 2 v a' j = σ a' j := fun j hj => by simp [up, hj]
      simp only [hk, and_false, if_false, e 1 (by decide), e k' hk]
  · rw [if_neg ha]
    unfold vals
    have e : ∀ j, up σ a 2 v a' j = σ a' j := fun j => by simp [up, ha]
    rw [e, e, e]
theorem E_tapeP {a x : Nat} (hc : im_cc i = c) (h : decode c pc = .ok (.putfield x, 3)) (hq : q = pc + 3) (hf : im_fl (im_ow i) x = some (3, 1, false)) (ho : okc a 3 = true) : Ev X d i pc ls (.ref 14 :: .ref a :: st) (mem σ) Q = Ev X d i q ls st (mem (up σ a 1 1)) Q := by
  subst hq
  refine Ev_step (im_step_of hc h ?_)
  simp only [im_in, im_putf, hf]
  have hp : im_putv (im_ty 3 1) (.ref 14) = true := by decide
  rw [im_obj_mem ho (by rw [im_szs3]; decide), hp]
  have e : im_set (mem σ) a 1 (.ref 14) = mem (up σ a 1 1) := by
    show (106, 3016, kd0, im_up (vals σ) a 1 (.ref 14)) = (106, 3016, kd0, vals (up σ a 1 1))
    rw [vals_up1 (v := 1) ho (by decide)]
  rw [e]
  rfl
theorem E_namesP {a x r : Nat} (hc : im_cc i = c) (h : decode c pc = .ok (.putfield x, 3)) (hq : q = pc + 3) (hf : im_fl (im_ow i) x = some (3, 2, false)) (ho : okc a 3 = true) (h1 : 1006 ≤ r) (h2 : r < 1009) : Ev X d i pc ls (.ref r :: .ref a :: st) (mem σ) Q = Ev X d i q ls st (mem (up σ a 2 (Int32.ofNat (r - 1006)))) Q := by
  subst hq
  refine Ev_step (im_step_of hc h ?_)
  simp only [im_in, im_putf, hf]
  have hp : im_putv (im_ty 3 2) (.ref r) = true := rfl
  rw [im_obj_mem ho (by rw [im_szs3]; decide), hp]
  have e0 : r = im_RB + 6 + (Int32.ofNat (r - 1006)).toNatClampNeg := by
    rcases (show r = 1006 ∨ r = 1007 ∨ r = 1008 by omega) with rfl | rfl | rfl <;> decide
  have e : im_set (mem σ) a 2 (.ref r) = mem (up σ a 2 (Int32.ofNat (r - 1006))) := by
    show (106, 3016, kd0, im_up (vals σ) a 2 (.ref r)) = (106, 3016, kd0, vals (up σ a 2 (Int32.ofNat (r - 1006))))
    rw [← vals_up2 ho, ← e0]
  rw [e]
  rfl
theorem E_strV {a : Nat} (hc : im_cc i = c) (h : decode c pc = .ok (.getfield 9, 3)) (hq : q = pc + 3) (hw : im_ow i = 13) (h1 : 1006 ≤ a) (h2 : a < 1009) : Ev X d i pc ls (.ref a :: st) M Q = Ev X d i q ls (.ref (a - 3) :: st) M Q := by
  subst hq
  refine Ev_step (im_step_of hc h ?_)
  simp only [im_in, im_getf]
  rw [if_pos hw, if_pos ⟨trivial, h1, h2⟩]
  rfl
theorem E_strC {a : Nat} (hc : im_cc i = c) (h : decode c pc = .ok (.getfield 15, 3)) (hq : q = pc + 3) (hw : im_ow i = 13) (h1 : 1006 ≤ a) (h2 : a < 1009) : Ev X d i pc ls (.ref a :: st) M Q = Ev X d i q ls (.int 0 :: st) M Q := by
  subst hq
  refine Ev_step (im_step_of hc h ?_)
  simp only [im_in, im_getf]
  rw [if_pos hw, if_neg (fun q => absurd q.1 (by decide)), if_pos ⟨trivial, h1, h2⟩]
  rfl
end E16
/-! the same words, but not by rfl: simp's discharger needs that -/
theorem cz_nil : im_csum [] = 0 := by simp [im_csum]
theorem az_nil : (im_al []).length = 0 := by simp [im_al]
theorem az_i {x : Int32} {st : List Value} : (im_al (.int x :: st)).length = (im_al st).length + 1 := by rw [al_i]
theorem az_r {x : Nat} {st : List Value} : (im_al (.ref x :: st)).length = (im_al st).length + 1 := by rw [al_r]
theorem az_n {st : List Value} : (im_al (.null :: st)).length = (im_al st).length + 1 := by rw [al_n]
theorem az_l {x : Int64} {st : List Value} : (im_al (.long x :: st)).length = (im_al st).length + 2 := by rw [al_l]
