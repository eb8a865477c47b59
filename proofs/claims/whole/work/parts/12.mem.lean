/-! THE MEMORY BEHIND THE CONSTRUCTORS: what each cell is, ints in σ -/
def kdL : List (Nat × Nat) := [(9, 8), (8, 19), (5, 2), (11, 3), (11, 72), (2, 3), (11, 10), (11, 10), (1, 3), (11, 50), (11, 50), (1, 3), (11, 50), (11, 50), (6, 2), (11, 50), (12, 8), (11, 6), (11, 20), (0, 6), (0, 6), (0, 6), (0, 6), (0, 6), (0, 6), (0, 6), (0, 6), (8, 19), (5, 2), (11, 3), (11, 72), (2, 3), (11, 10), (11, 10), (1, 3), (11, 50), (11, 50), (1, 3), (11, 50), (11, 50), (6, 2), (11, 50), (12, 8), (11, 6), (11, 20), (0, 6), (0, 6), (0, 6), (0, 6), (0, 6), (0, 6), (0, 6), (0, 6), (8, 19), (5, 2), (11, 3), (11, 72), (2, 3), (11, 10), (11, 10), (1, 3), (11, 50), (11, 50), (1, 3), (11, 50), (11, 50), (6, 2), (11, 50), (12, 8), (11, 6), (11, 20), (0, 6), (0, 6), (0, 6), (0, 6), (0, 6), (0, 6), (0, 6), (0, 6), (3, 5), (1, 3), (11, 50), (11, 50), (7, 5), (11, 40), (13, 4), (11, 6), (4, 3), (11, 40), (4, 3), (11, 40), (4, 3), (11, 40), (4, 3), (11, 40), (10, 19), (11, 340), (11, 340), (11, 340), (11, 6), (11, 3), (11, 40), (11, 4), (11, 4), (11, 160), (11, 40)]
def kd0 (k : Nat) : Nat × Nat := kdL.getD k (0, 0)
def offL : List (List (Option Nat)) := [[none, none, none, none, none, none], [some 1, some 2, none], [some 1, some 2, none], [some 1, none, none, none, none], [some 1, none, none], [some 1, some 2], [some 1, none], [some 1, none, none, none, none], [some 1, some 4, some 7, some 10, some 13, some 15, none, some 16, some 17, none, none, none, none, none, none, none, none, none, none], [some 1, some 27, some 53, some 79, some 83, some 85, some 86, none], [some 1, some 2, some 3, none, some 4, none, none, none, none, none, none, some 5, some 6, none, none, some 7, some 8, some 9, some 10]]
/-- where a reference field points, from its own cell on -/
def offT (ci k : Nat) : Option Nat := (offL.getD ci []).getD k none
def pt0 (a k : Nat) : Option Nat := if (kd0 a).1 < 11 then (offT (kd0 a).1 k).map (fun o => a + o) else if (kd0 a).1 = 12 then some (a + 3 + k) else if (kd0 a).1 = 13 then some (a + 2 + 2 * k) else none
def vals (σ : Nat → Nat → Int32) (a k : Nat) : Value := if (kd0 a).1 = 3 ∧ k = 1 then (if σ a 1 = 0 then .null else .ref 14) else if (kd0 a).1 = 3 ∧ k = 2 then .ref (im_RB + 6 + (σ a 2).toNatClampNeg) else match pt0 a k with
  | some q => .ref q
  | none => .int (σ a k)
def mem (σ : Nat → Nat → Int32) : im_M := (106, 3016, kd0, vals σ)
def up (σ : Nat → Nat → Int32) (a k : Nat) (v : Int32) : Nat → Nat → Int32 := fun a' k' => if a' = a ∧ k' = k then v else σ a' k'
def cp (σ : Nat → Nat → Int32) (a b sp dp n : Nat) : Nat → Nat → Int32 := fun a' k' => if a' = b then va_cpy (σ a) (σ b) sp dp n k' else σ a' k'
/-- an object of the class; ints; how many -/
def okc (a ci : Nat) : Bool := decide (a < 106) && decide (ci < 11) && (kd0 a).1 == ci
def oka (a n : Nat) : Bool := decide (a < 106) && decide (kd0 a = (11, n))
def isI (ci k : Nat) : Bool := decide (k < im_szs.getD ci 0) && decide (offT ci k = none) && !(ci == 3 && (k == 1 || k == 2))
def inb (j : Int32) (n : Nat) : Prop := ¬ j < 0 ∧ j.toNatClampNeg < n
theorem kd_sz : ∀ a, a < 106 → (kd0 a).1 < 11 → (kd0 a).2 = im_szs.getD (kd0 a).1 0 := by
  have h : ∀ a : Fin 106, (kd0 a).1 < 11 → (kd0 a).2 = im_szs.getD (kd0 a).1 0 := by decide +kernel
  exact fun a ha => h ⟨a, ha⟩
theorem okc_of {a ci : Nat} (h : okc a ci = true) : a < 106 ∧ ci < 11 ∧ (kd0 a).1 = ci := by
  simp only [okc, Bool.and_eq_true, decide_eq_true_eq, beq_iff_eq] at h
  exact ⟨h.1.1, h.1.2, h.2⟩
theorem oka_of {a n : Nat} (h : oka a n = true) : a < 106 ∧ kd0 a = (11, n) := by
  simpa only [oka, Bool.and_eq_true, decide_eq_true_eq] using h
theorem isI_of {ci k : Nat} (h : isI ci k = true) : k < im_szs.getD ci 0 ∧ offT ci k = none ∧ ¬ (ci = 3 ∧ (k = 1 ∨ k = 2)) := by
  simp only [isI, Bool.and_eq_true, decide_eq_true_eq, Bool.not_eq_true', Bool.and_eq_false_iff, Bool.or_eq_false_iff, beq_eq_false_iff_ne] at h
  refine ⟨h.1.1, h.1.2, fun q => ?_⟩
  rcases h.2 with z | z
  · exact z q.1
  · rcases q.2 with y | y
    · exact z.1 y
    · exact z.2 y
theorem im_obj_mem {σ : Nat → Nat → Int32} {a ci k : Nat} (h : okc a ci = true) (hk : k < im_szs.getD ci 0) : im_obj (mem σ) a ci k = true := by
  obtain ⟨h1, h2, h3⟩ := okc_of h
  have h4 := kd_sz a h1 (by omega)
  show (decide (a < 106) && decide (106 ≤ im_RB) && (kd0 a).1 == ci && decide (k < (kd0 a).2)) = true
  simp only [Bool.and_eq_true, decide_eq_true_eq, beq_iff_eq]
  exact ⟨⟨⟨h1, by decide⟩, h3⟩, by rw [h4, h3]; exact hk⟩
theorem vals_I {σ : Nat → Nat → Int32} {a ci k : Nat} (h : okc a ci = true) (hk : isI ci k = true) : vals σ a k = .int (σ a k) := by
  obtain ⟨h1, h2, h3⟩ := okc_of h
  obtain ⟨g1, g2, g3⟩ := isI_of hk
  have hp : pt0 a k = none := by unfold pt0; rw [if_pos (by omega), h3, g2]; rfl
  unfold vals
  rw [if_neg (fun q => g3 ⟨h3 ▸ q.1, Or.inl q.2⟩), if_neg (fun q => g3 ⟨h3 ▸ q.1, Or.inr q.2⟩), hp]
theorem vals_P {σ : Nat → Nat → Int32} {a ci k o : Nat} (h : okc a ci = true) (hk : offT ci k = some o) : vals σ a k = .ref (a + o) := by
  obtain ⟨h1, h2, h3⟩ := okc_of h
  have hp : pt0 a k = some (a + o) := by unfold pt0; rw [if_pos (by omega), h3, hk]; rfl
  have h31 : offT 3 1 = none := by decide
  have h32 : offT 3 2 = none := by decide
  unfold vals
  rw [if_neg (fun q => by rw [← h3, q.1, q.2, h31] at hk; cases hk), if_neg (fun q => by rw [← h3, q.1, q.2, h32] at hk; cases hk), hp]
theorem vals_arr {σ : Nat → Nat → Int32} {a n k : Nat} (h : oka a n = true) : vals σ a k = .int (σ a k) := by
  obtain ⟨h1, h2⟩ := oka_of h
  have hp : pt0 a k = none := by unfold pt0; rw [h2]; rfl
  unfold vals
  rw [if_neg (fun q => by rw [h2] at q; exact absurd q.1 (show ¬ (11 : Nat) = 3 by decide)), if_neg (fun q => by rw [h2] at q; exact absurd q.1 (show ¬ (11 : Nat) = 3 by decide)), hp]
/-- a store of an int where ints are -/
theorem vals_up {σ : Nat → Nat → Int32} {a k : Nat} {v : Int32} (hp : pt0 a k = none) (hr : ¬ ((kd0 a).1 = 3 ∧ (k = 1 ∨ k = 2))) : im_up (vals σ) a k (.int v) = vals (up σ a k v) := by
  funext a' k'
  have e0 : im_up (vals σ) a k (.int v) a' k' = if a' = a ∧ k' = k then .int v else vals σ a' k' := by
    unfold im_up
    by_cases h1 : a' = a
    · subst h1
      simp
    · simp [h1]
  rw [e0]
  by_cases h : a' = a ∧ k' = k
  · rw [if_pos h]
    obtain ⟨rfl, rfl⟩ := h
    unfold vals
    rw [if_neg (fun q => hr ⟨q.1, Or.inl q.2⟩), if_neg (fun q => hr ⟨q.1, Or.inr q.2⟩), hp]
    simp [up]
  · rw [if_neg h]
    unfold vals
    by_cases ha : a' = a
    · subst ha
      have hk : k' ≠ k := fun q => h ⟨rfl, q⟩
      have e : ∀ j, j ≠ k → up σ a' k v a' j = σ a' j := fun j hj => by simp [up, hj]
      by_cases h3 : (kd0 a').1 = 3
      · have k1 : k ≠ 1 := fun q => hr ⟨h3, Or.inl q⟩
        have k2 : k ≠ 2 := fun q => hr ⟨h3, Or.inr q⟩
        rw [e 1 k1.symm, e 2 k2.symm, e k' hk]
      · rw [if_neg (fun q => h3 q.1), if_neg (fun q => h3 q.1), if_neg (fun q => h3 q.1), if_neg (fun q => h3 q.1), e k' hk]
    · have e : ∀ j, up σ a k v a' j = σ a' j := fun j => by simp [up, ha]
      rw [e, e, e]
theorem mem_upI {σ : Nat → Nat → Int32} {a ci k : Nat} {v : Int32} (h : okc a ci = true) (hk : isI ci k = true) : im_set (mem σ) a k (.int v) = mem (up σ a k v) := by
  obtain ⟨h1, h2, h3⟩ := okc_of h
  obtain ⟨g1, g2, g3⟩ := isI_of hk
  have hp : pt0 a k = none := by unfold pt0; rw [if_pos (by omega), h3, g2]; rfl
  show (106, 3016, kd0, im_up (vals σ) a k (.int v)) = (106, 3016, kd0, vals (up σ a k v))
  rw [vals_up hp (fun q => g3 ⟨h3 ▸ q.1, q.2⟩)]
theorem mem_upA {σ : Nat → Nat → Int32} {a n k : Nat} {v : Int32} (h : oka a n = true) : im_set (mem σ) a k (.int v) = mem (up σ a k v) := by
  obtain ⟨h1, h2⟩ := oka_of h
  have hp : pt0 a k = none := by unfold pt0; rw [h2]; rfl
  show (106, 3016, kd0, im_up (vals σ) a k (.int v)) = (106, 3016, kd0, vals (up σ a k v))
  rw [vals_up hp (fun q => by rw [h2] at q; exact absurd q.1 (show ¬ (11 : Nat) = 3 by decide))]
theorem mem_cp {σ : Nat → Nat → Int32} {a b n0 n1 sp dp n : Nat} (ha : oka a n0 = true) (hb : oka b n1 = true) : im_cpy (vals σ) a b sp dp n = vals (cp σ a b sp dp n) := by
  have e1 : (fun j => im_int (vals σ a j)) = σ a := funext fun j => by rw [vals_arr ha]; rfl
  have e2 : (fun j => im_int (vals σ b j)) = σ b := funext fun j => by rw [vals_arr hb]; rfl
  funext a' k'
  unfold im_cpy
  rw [e1, e2]
  by_cases h : a' = b
  · subst h
    rw [if_pos rfl, vals_arr hb]
    simp [cp]
  · rw [if_neg h]
    unfold vals
    have e : ∀ j, cp σ a b sp dp n a' j = σ a' j := fun j => by simp [cp, h]
    rw [e, e, e]
section EM
variable {X : im_E} {d i pc q t : Nat} {ls lt : List (Option Value)} {st : List Value} {σ : Nat → Nat → Int32} {Q : Option Value → im_M → Prop} {c : ByteArray}
theorem E_getI {a x ci k : Nat} {b : Bool} (hc : im_cc i = c) (h : decode c pc = .ok (.getfield x, 3)) (hq : q = pc + 3) (hw : im_ow i ≠ 13) (hf : im_fl (im_ow i) x = some (ci, k, b)) (hk : isI ci k = true) (ho : okc a ci = true) : Ev X d i pc ls (.ref a :: st) (mem σ) Q = Ev X d i q ls (.int (σ a k) :: st) (mem σ) Q := by
  subst hq
  refine Ev_step (im_step_of hc h ?_)
  simp only [im_in, im_getf, hf]
  rw [if_neg hw, im_obj_mem ho (isI_of hk).1]
  have e := vals_I (σ := σ) ho hk
  show im_go (true && true) (pc + 3, ls, vals σ a k :: st, mem σ) = _
  rw [e]; rfl
theorem E_getP {a x ci k o : Nat} {b : Bool} (hc : im_cc i = c) (h : decode c pc = .ok (.getfield x, 3)) (hq : q = pc + 3) (hw : im_ow i ≠ 13) (hf : im_fl (im_ow i) x = some (ci, k, b)) (hz : k < im_szs.getD ci 0) (hk : offT ci k = some o) (ho : okc a ci = true) : Ev X d i pc ls (.ref a :: st) (mem σ) Q = Ev X d i q ls (.ref (a + o) :: st) (mem σ) Q := by
  subst hq
  refine Ev_step (im_step_of hc h ?_)
  simp only [im_in, im_getf, hf]
  rw [if_neg hw, im_obj_mem ho hz]
  have e := vals_P (σ := σ) ho hk
  show im_go (true && true) (pc + 3, ls, vals σ a k :: st, mem σ) = _
  rw [e]; rfl
theorem E_putI {a x ci k : Nat} {v : Int32} (hc : im_cc i = c) (h : decode c pc = .ok (.putfield x, 3)) (hq : q = pc + 3) (hf : im_fl (im_ow i) x = some (ci, k, false)) (hk : isI ci k = true) (hv : im_ty ci k = .int ∨ (im_ty ci k = .boolean ∧ (v = 0 ∨ v = 1))) (ho : okc a ci = true) : Ev X d i pc ls (.int v :: .ref a :: st) (mem σ) Q = Ev X d i q ls st (mem (up σ a k v)) Q := by
  subst hq
  refine Ev_step (im_step_of hc h ?_)
  simp only [im_in, im_putf, hf]
  rw [im_obj_mem ho (isI_of hk).1, mem_upI ho hk]
  have hp : im_putv (im_ty ci k) (.int v) = true := by
    rcases hv with hv | ⟨hv, rfl | rfl⟩ <;> rw [hv] <;> first | rfl | simp [im_putv, narrow, fits]
  rw [hp]
  rfl
theorem inb_arr {a n : Nat} {j : Int32} (ho : oka a n = true) (hj : inb j n) : im_arr (mem σ) a 11 j = true := by
  obtain ⟨h1, h2⟩ := oka_of ho
  show (decide (a < 106) && decide (106 ≤ im_RB) && (kd0 a).1 == 11 && !(decide (j < 0)) && decide (j.toNatClampNeg < (kd0 a).2)) = true
  rw [h2]
  simp only [Bool.and_eq_true, decide_eq_true_eq, beq_iff_eq, Bool.not_eq_true', decide_eq_false_iff_not]
  exact ⟨⟨⟨⟨h1, by decide⟩, trivial⟩, hj.1⟩, hj.2⟩
theorem E_ald {a n : Nat} {j : Int32} (hc : im_cc i = c) (h : decode c pc = .ok (.iaload, 1)) (hq : q = pc + 1) (ho : oka a n = true) (hj : inb j n) : Ev X d i pc ls (.int j :: .ref a :: st) (mem σ) Q = Ev X d i q ls (.int (σ a j.toNatClampNeg) :: st) (mem σ) Q := by
  subst hq
  have h1 := (oka_of ho).1
  refine Ev_step (im_step_of hc h ?_)
  simp only [im_in, im_ald]
  have hRB : (106 : Nat) < im_RB := by decide
  have hlt : a < im_RB := by omega
  rw [if_pos (by first | exact ⟨trivial, hlt⟩ | exact ⟨rfl, hlt⟩ | exact hlt), inb_arr ho hj]
  have e := vals_arr (σ := σ) (k := j.toNatClampNeg) ho
  show im_go (true && true) (pc + 1, ls, .int (im_int (vals σ a j.toNatClampNeg)) :: st, mem σ) = _
  rw [e]; rfl
theorem E_ast {a n : Nat} {j v : Int32} (hc : im_cc i = c) (h : decode c pc = .ok (.iastore, 1)) (hq : q = pc + 1) (ho : oka a n = true) (hj : inb j n) : Ev X d i pc ls (.int v :: .int j :: .ref a :: st) (mem σ) Q = Ev X d i q ls st (mem (up σ a j.toNatClampNeg v)) Q := by
  subst hq
  refine Ev_step (im_step_of hc h ?_)
  simp only [im_in]
  rw [inb_arr ho hj, mem_upA ho]
  rfl
theorem E_alen {a n : Nat} (hc : im_cc i = c) (h : decode c pc = .ok (.arraylength, 1)) (hq : q = pc + 1) (ho : oka a n = true) : Ev X d i pc ls (.ref a :: st) (mem σ) Q = Ev X d i q ls (.int (Int32.ofNat n) :: st) (mem σ) Q := by
  subst hq
  obtain ⟨h1, h2⟩ := oka_of ho
  refine Ev_step (im_step_of hc h ?_)
  simp only [im_in, im_alen]
  have hRB : (106 : Nat) < im_RB := by decide
  have hlt : a < im_RB := by omega
  rw [if_pos hlt]
  have e : (mem σ).2.2.1 a = (11, n) := h2
  rw [e]
  have e2 : decide (a < (mem σ).1) = true := decide_eq_true h1
  rw [e2]
  rfl
theorem E_aald12 {a : Nat} {j : Int32} (hc : im_cc i = c) (h : decode c pc = .ok (.aaload, 1)) (hq : q = pc + 1) (h1 : a < 106) (h2 : kd0 a = (12, 8)) (hj : inb j 8) : Ev X d i pc ls (.int j :: .ref a :: st) (mem σ) Q = Ev X d i q ls (.ref (a + 3 + j.toNatClampNeg) :: st) (mem σ) Q := by
  subst hq
  refine Ev_step (im_step_of hc h ?_)
  simp only [im_in]
  have e : im_arr (mem σ) a 12 j = true := by
    show (decide (a < 106) && decide (106 ≤ im_RB) && (kd0 a).1 == 12 && !(decide (j < 0)) && decide (j.toNatClampNeg < (kd0 a).2)) = true
    rw [h2]
    simp only [Bool.and_eq_true, decide_eq_true_eq, beq_iff_eq, Bool.not_eq_true', decide_eq_false_iff_not]
    exact ⟨⟨⟨⟨h1, by decide⟩, trivial⟩, hj.1⟩, hj.2⟩
  have hp : pt0 a j.toNatClampNeg = some (a + 3 + j.toNatClampNeg) := by unfold pt0; rw [h2]; rfl
  have e2 : vals σ a j.toNatClampNeg = .ref (a + 3 + j.toNatClampNeg) := by
    unfold vals
    rw [if_neg (fun q => by rw [h2] at q; exact absurd q.1 (show ¬ (12 : Nat) = 3 by decide)), if_neg (fun q => by rw [h2] at q; exact absurd q.1 (show ¬ (12 : Nat) = 3 by decide)), hp]
  rw [e]
  show im_go (true && (true || _)) (pc + 1, ls, im_rf (vals σ a j.toNatClampNeg) :: st, mem σ) = _
  rw [e2]; rfl
theorem E_aald13 {a : Nat} {j : Int32} (hc : im_cc i = c) (h : decode c pc = .ok (.aaload, 1)) (hq : q = pc + 1) (h1 : a < 106) (h2 : kd0 a = (13, 4)) (hj : inb j 4) : Ev X d i pc ls (.int j :: .ref a :: st) (mem σ) Q = Ev X d i q ls (.ref (a + 2 + 2 * j.toNatClampNeg) :: st) (mem σ) Q := by
  subst hq
  refine Ev_step (im_step_of hc h ?_)
  simp only [im_in]
  have e : im_arr (mem σ) a 13 j = true := by
    show (decide (a < 106) && decide (106 ≤ im_RB) && (kd0 a).1 == 13 && !(decide (j < 0)) && decide (j.toNatClampNeg < (kd0 a).2)) = true
    rw [h2]
    simp only [Bool.and_eq_true, decide_eq_true_eq, beq_iff_eq, Bool.not_eq_true', decide_eq_false_iff_not]
    exact ⟨⟨⟨⟨h1, by decide⟩, trivial⟩, hj.1⟩, hj.2⟩
  have hp : pt0 a j.toNatClampNeg = some (a + 2 + 2 * j.toNatClampNeg) := by unfold pt0; rw [h2]; rfl
  have e2 : vals σ a j.toNatClampNeg = .ref (a + 2 + 2 * j.toNatClampNeg) := by
    unfold vals
    rw [if_neg (fun q => by rw [h2] at q; exact absurd q.1 (show ¬ (13 : Nat) = 3 by decide)), if_neg (fun q => by rw [h2] at q; exact absurd q.1 (show ¬ (13 : Nat) = 3 by decide)), hp]
  rw [e, Bool.or_true]
  show im_go (true && true) (pc + 1, ls, im_rf (vals σ a j.toNatClampNeg) :: st, mem σ) = _
  rw [e2]; rfl
theorem E_ro {a n : Nat} {f : Nat → Int32} {j : Int32} (hc : im_cc i = c) (h : decode c pc = .ok (.iaload, 1)) (hq : q = pc + 1) (hle : im_RB ≤ a) (hro : im_ro X (a - im_RB) = some (0, n, f)) (hj : inb j n) {M : im_M} : Ev X d i pc ls (.int j :: .ref a :: st) M Q = Ev X d i q ls (.int (f j.toNatClampNeg) :: st) M Q := by
  subst hq
  refine Ev_step (im_step_of hc h ?_)
  simp only [im_in, im_ald]
  have hlt : ¬ a < im_RB := Nat.not_lt.mpr hle
  rw [if_neg (by first | exact hlt | exact fun q => hlt q.2)]
  have e : im_roA X a 0 j = some (f j.toNatClampNeg) := by
    unfold im_roA
    rw [if_pos hle, hro]
    dsimp only
    rw [if_pos ⟨rfl, hj.1, hj.2⟩]
  rw [e]
  rfl
theorem E_rob {a n : Nat} {f : Nat → Int32} {j : Int32} (hc : im_cc i = c) (h : decode c pc = .ok (.baload, 1)) (hq : q = pc + 1) (hle : im_RB ≤ a) (hro : im_ro X (a - im_RB) = some (1, n, f)) (hj : inb j n) {M : im_M} : Ev X d i pc ls (.int j :: .ref a :: st) M Q = Ev X d i q ls (.int (f j.toNatClampNeg) :: st) M Q := by
  subst hq
  refine Ev_step (im_step_of hc h ?_)
  simp only [im_in, im_ald]
  have hlt : ¬ a < im_RB := Nat.not_lt.mpr hle
  rw [if_neg (by first | exact hlt | exact fun q => hlt q.2)]
  have e : im_roA X a 1 j = some (f j.toNatClampNeg) := by
    unfold im_roA
    rw [if_pos hle, hro]
    dsimp only
    rw [if_pos ⟨rfl, hj.1, hj.2⟩]
  rw [e]
  rfl
theorem E_rolen {a n kd : Nat} {f : Nat → Int32} (hc : im_cc i = c) (h : decode c pc = .ok (.arraylength, 1)) (hq : q = pc + 1) (hle : im_RB ≤ a) (hro : im_ro X (a - im_RB) = some (kd, n, f)) {M : im_M} : Ev X d i pc ls (.ref a :: st) M Q = Ev X d i q ls (.int (Int32.ofNat n) :: st) M Q := by
  subst hq
  refine Ev_step (im_step_of hc h ?_)
  simp only [im_in, im_alen]
  have hlt : ¬ a < im_RB := Nat.not_lt.mpr hle
  rw [if_neg hlt, hro]
  rfl
theorem E_copy {a b n0 n1 x k j : Nat} {sp dp n : Int32} (hc : im_cc i = c) (h : decode c pc = .ok (.invokestatic x, 3)) (hq : q = pc + 3) (hl : im_lk (im_ow i) x = some (6, k, j)) (ha : oka a n0 = true) (hb : oka b n1 = true) (h1 : ¬ sp < 0) (h2 : ¬ dp < 0) (h3 : ¬ n < 0) (h4 : sp.toNatClampNeg + n.toNatClampNeg ≤ n0) (h5 : dp.toNatClampNeg + n.toNatClampNeg ≤ n1) (hs : im_csum st ≤ 8) : Ev X d i pc ls (.int n :: .int dp :: .ref b :: .int sp :: .ref a :: st) (mem σ) Q = Ev X d i q ls st (mem (cp σ a b sp.toNatClampNeg dp.toNatClampNeg n.toNatClampNeg)) Q := by
  subst hq
  obtain ⟨a1, a2⟩ := oka_of ha
  obtain ⟨b1, b2⟩ := oka_of hb
  refine Ev_step (im_step_of hc h ?_)
  simp only [im_in, im_call, hl]
  rw [if_pos trivial, if_neg (by omega), if_pos trivial]
  have ea : (mem σ).2.2.1 a = (11, n0) := a2
  have eb : (mem σ).2.2.1 b = (11, n1) := b2
  rw [if_pos ⟨hs, by show 106 ≤ im_RB; decide, a1, b1, by rw [ea], by rw [eb], h1, h2, h3, by rw [ea]; exact h4, by rw [eb]; exact h5⟩]
  have e := mem_cp (σ := σ) (sp := sp.toNatClampNeg) (dp := dp.toNatClampNeg) (n := n.toNatClampNeg) ha hb
  show some (Sum.inl (pc + 3, ls, st, (106, 3016, kd0, im_cpy (vals σ) a b sp.toNatClampNeg dp.toNatClampNeg n.toNatClampNeg))) = _
  rw [e]
  rfl
theorem E_cV0 {x j mx a ci : Nat} (hc : im_cc i = c) (h : decode c pc = .ok (.invokevirtual x, 3)) (hq : q = pc + 3) (hl : im_lk (im_ow i) x = some (1, j, 0)) (hj : j < 238) (hm : im_ml j = mx) (ho : im_ow j = ci) (ha : (im_al []).length + 1 ≤ mx) (hr : okc a ci = true) (hs : im_csum st ≤ 8) : Ev X (d + 1) i pc ls (.ref a :: st) (mem σ) Q = Ev X d j 0 (im_ent mx [.ref a]) [] (mem σ) (fun v M2 => Ev X (d + 1) i q ls (v.toList ++ st) M2 Q) := by
  obtain ⟨h1, h2, h3⟩ := okc_of hr
  exact E_callV0 hc h hq hl hj hm ho hs ha (Or.inl ⟨h1, by show 106 ≤ im_RB; decide, by show (kd0 a).1 < 11; omega, h3.symm⟩)
theorem E_cV1 {v0 : Value} {x j mx a ci : Nat} (hc : im_cc i = c) (h : decode c pc = .ok (.invokevirtual x, 3)) (hq : q = pc + 3) (hl : im_lk (im_ow i) x = some (1, j, 1)) (hj : j < 238) (hm : im_ml j = mx) (ho : im_ow j = ci) (ha : (im_al [v0]).length + 1 ≤ mx) (hr : okc a ci = true) (hs : im_csum st ≤ 8) : Ev X (d + 1) i pc ls (v0 :: .ref a :: st) (mem σ) Q = Ev X d j 0 (im_ent mx [.ref a, v0]) [] (mem σ) (fun v M2 => Ev X (d + 1) i q ls (v.toList ++ st) M2 Q) := by
  obtain ⟨h1, h2, h3⟩ := okc_of hr
  exact E_callV1 hc h hq hl hj hm ho hs ha (Or.inl ⟨h1, by show 106 ≤ im_RB; decide, by show (kd0 a).1 < 11; omega, h3.symm⟩)
theorem E_cV2 {v0 v1 : Value} {x j mx a ci : Nat} (hc : im_cc i = c) (h : decode c pc = .ok (.invokevirtual x, 3)) (hq : q = pc + 3) (hl : im_lk (im_ow i) x = some (1, j, 2)) (hj : j < 238) (hm : im_ml j = mx) (ho : im_ow j = ci) (ha : (im_al [v0, v1]).length + 1 ≤ mx) (hr : okc a ci = true) (hs : im_csum st ≤ 8) : Ev X (d + 1) i pc ls (v1 :: v0 :: .ref a :: st) (mem σ) Q = Ev X d j 0 (im_ent mx [.ref a, v0, v1]) [] (mem σ) (fun v M2 => Ev X (d + 1) i q ls (v.toList ++ st) M2 Q) := by
  obtain ⟨h1, h2, h3⟩ := okc_of hr
  exact E_callV2 hc h hq hl hj hm ho hs ha (Or.inl ⟨h1, by show 106 ≤ im_RB; decide, by show (kd0 a).1 < 11; omega, h3.symm⟩)
theorem E_cV3 {v0 v1 v2 : Value} {x j mx a ci : Nat} (hc : im_cc i = c) (h : decode c pc = .ok (.invokevirtual x, 3)) (hq : q = pc + 3) (hl : im_lk (im_ow i) x = some (1, j, 3)) (hj : j < 238) (hm : im_ml j = mx) (ho : im_ow j = ci) (ha : (im_al [v0, v1, v2]).length + 1 ≤ mx) (hr : okc a ci = true) (hs : im_csum st ≤ 8) : Ev X (d + 1) i pc ls (v2 :: v1 :: v0 :: .ref a :: st) (mem σ) Q = Ev X d j 0 (im_ent mx [.ref a, v0, v1, v2]) [] (mem σ) (fun v M2 => Ev X (d + 1) i q ls (v.toList ++ st) M2 Q) := by
  obtain ⟨h1, h2, h3⟩ := okc_of hr
  exact E_callV3 hc h hq hl hj hm ho hs ha (Or.inl ⟨h1, by show 106 ≤ im_RB; decide, by show (kd0 a).1 < 11; omega, h3.symm⟩)
theorem E_cV4 {v0 v1 v2 v3 : Value} {x j mx a ci : Nat} (hc : im_cc i = c) (h : decode c pc = .ok (.invokevirtual x, 3)) (hq : q = pc + 3) (hl : im_lk (im_ow i) x = some (1, j, 4)) (hj : j < 238) (hm : im_ml j = mx) (ho : im_ow j = ci) (ha : (im_al [v0, v1, v2, v3]).length + 1 ≤ mx) (hr : okc a ci = true) (hs : im_csum st ≤ 8) : Ev X (d + 1) i pc ls (v3 :: v2 :: v1 :: v0 :: .ref a :: st) (mem σ) Q = Ev X d j 0 (im_ent mx [.ref a, v0, v1, v2, v3]) [] (mem σ) (fun v M2 => Ev X (d + 1) i q ls (v.toList ++ st) M2 Q) := by
  obtain ⟨h1, h2, h3⟩ := okc_of hr
  exact E_callV4 hc h hq hl hj hm ho hs ha (Or.inl ⟨h1, by show 106 ≤ im_RB; decide, by show (kd0 a).1 < 11; omega, h3.symm⟩)
theorem E_cV5 {v0 v1 v2 v3 v4 : Value} {x j mx a ci : Nat} (hc : im_cc i = c) (h : decode c pc = .ok (.invokevirtual x, 3)) (hq : q = pc + 3) (hl : im_lk (im_ow i) x = some (1, j, 5)) (hj : j < 238) (hm : im_ml j = mx) (ho : im_ow j = ci) (ha : (im_al [v0, v1, v2, v3, v4]).length + 1 ≤ mx) (hr : okc a ci = true) (hs : im_csum st ≤ 8) : Ev X (d + 1) i pc ls (v4 :: v3 :: v2 :: v1 :: v0 :: .ref a :: st) (mem σ) Q = Ev X d j 0 (im_ent mx [.ref a, v0, v1, v2, v3, v4]) [] (mem σ) (fun v M2 => Ev X (d + 1) i q ls (v.toList ++ st) M2 Q) := by
  obtain ⟨h1, h2, h3⟩ := okc_of hr
  exact E_callV5 hc h hq hl hj hm ho hs ha (Or.inl ⟨h1, by show 106 ≤ im_RB; decide, by show (kd0 a).1 < 11; omega, h3.symm⟩)
end EM
