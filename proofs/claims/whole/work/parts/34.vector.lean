/-! WORLDS AND THE MODEL'S VECTOR -/
def ud (D : Nat → Int32) (k : Nat) (v : Int32) : Nat → Int32 := fun j => if j = k then v else D j
theorem ud_s {D : Nat → Int32} {k : Nat} {v : Int32} : ud D k v k = v := if_pos rfl
theorem ud_o {D : Nat → Int32} {k j : Nat} {v : Int32} (h : j ≠ k) : ud D k v j = D j := if_neg h
theorem up_ud {σ : Nat → Nat → Int32} {a k : Nat} {v : Int32} : up σ a k v a = ud (σ a) k v := by
  funext j
  unfold up ud
  by_cases h : j = k <;> simp [h]
/-- where an entry of the vector lies in a world -/
def loc (k : Nat) : Nat × Nat := if k < 3 then (2, k) else if k < 16 then (([(0, 11), (0, 12), (0, 14), (0, 15), (0, 17), (0, 16), (0, 13), (4, 2), (0, 10), (0, 6), (0, 18), (13, 1), (0, 9)] : List (Nat × Nat)).getD (k - 3) (0, 0)) else if k < 88 then (3, k - 16) else if k < 108 then (5 + (k - 88) % 2, (k - 88) / 2) else if k < 114 then (16, k - 108) else if k < 162 then (18 + (k - 114) / 6, (k - 114) % 6) else if k < 184 then (17, k - 164) else (14, k - 284)
def lkd (k : Nat) : Prop := k < 162 ∨ (164 ≤ k ∧ k < 184) ∨ (284 ≤ k ∧ k < 334)
def linv (q : Nat × Nat) : Nat := if q.1 = 2 then q.2 else if q.1 = 0 then (([0, 0, 0, 0, 0, 0, 12, 0, 0, 15, 11, 3, 4, 9, 5, 6, 8, 7, 13] : List Nat).getD q.2 0) else if q.1 = 4 then 10 else if q.1 = 13 then 14 else if q.1 = 3 then 16 + q.2 else if q.1 = 5 then 88 + 2 * q.2 else if q.1 = 6 then 89 + 2 * q.2 else if q.1 = 16 then 108 + q.2 else if q.1 = 17 then 164 + q.2 else if q.1 = 14 then 284 + q.2 else 114 + 6 * (q.1 - 18) + q.2
theorem linv_loc : ∀ k, k < 334 → lkd k → linv (loc k) = k := by
  have h : ∀ k : Fin 334, (k.1 < 162 ∨ (164 ≤ k.1 ∧ k.1 < 184) ∨ (284 ≤ k.1 ∧ k.1 < 334)) → linv (loc k.1) = k.1 := by decide +kernel
  exact fun k hk hl => h ⟨k, hk⟩ hl
theorem lkd_lt {k : Nat} (h : lkd k) : k < 334 := by unfold lkd at h; omega
theorem loc_inj {j k : Nat} (hj : lkd j) (hk : lkd k) (h : loc j = loc k) : j = k := by
  rw [← linv_loc j (lkd_lt hj) hj, ← linv_loc k (lkd_lt hk) hk, h]
theorem loc_off : ∀ k, lkd k → (loc k).1 ∈ [0, 2, 3, 4, 5, 6, 13, 14, 16, 17, 18, 19, 20, 21, 22, 23, 24, 25] := by
  have h : ∀ k : Fin 334, (k.1 < 162 ∨ (164 ≤ k.1 ∧ k.1 < 184) ∨ (284 ≤ k.1 ∧ k.1 < 334)) → (loc k.1).1 ∈ [0, 2, 3, 4, 5, 6, 13, 14, 16, 17, 18, 19, 20, 21, 22, 23, 24, 25] := by decide +kernel
  exact fun k hk => h ⟨k, lkd_lt hk⟩ hk
/-- a world holds a vector -/
def Rw (σ : Nat → Nat → Int32) (b : Nat) (D : Nat → Int32) : Prop := ∀ k, lkd k → σ (b + (loc k).1) (loc k).2 = D k
theorem Rw_up {σ : Nat → Nat → Int32} {b : Nat} {D : Nat → Int32} (h : Rw σ b D) (k : Nat) (hk : lkd k) (v : Int32) {a s : Nat} (ha : a = b + (loc k).1) (hs : s = (loc k).2) : Rw (up σ a s v) b (ud D k v) := by
  subst ha; subst hs
  intro j hj
  by_cases e : j = k
  · subst e
    rw [up_s, ud_s]
  · rw [ud_o e]
    have n : ¬ ((loc j).1 = (loc k).1 ∧ (loc j).2 = (loc k).2) := fun q => e (loc_inj hj hk (Prod.ext q.1 q.2))
    by_cases q : (loc j).1 = (loc k).1
    · rw [up_k (fun z => n ⟨q, z⟩)]; exact h j hj
    · rw [up_o (by omega)]; exact h j hj
theorem Rw_of {σ τ : Nat → Nat → Int32} {b : Nat} {D : Nat → Int32} (h : Rw σ b D) (e : ∀ a, b ≤ a → a ≤ b + 25 → a ≠ b + 1 → a ≠ b + 7 → a ≠ b + 8 → a ≠ b + 9 → a ≠ b + 10 → a ≠ b + 11 → a ≠ b + 12 → τ a = σ a) : Rw τ b D := by
  intro k hk
  have m := loc_off k hk
  rw [e _ (by omega) ?_ ?_ ?_ ?_ ?_ ?_ ?_ ?_]
  · exact h k hk
  all_goals
    simp only [List.mem_cons, List.not_mem_nil, or_false] at m
    omega
/-- bounds -/
def rg (x : Int32) (q : Int × Int) : Prop := q.1 ≤ x.toInt ∧ x.toInt ≤ q.2
def all32 : Int × Int := (-2147483648, 2147483647)
theorem rg_all (x : Int32) : rg x all32 := ⟨Int32.le_toInt x, by have := Int32.toInt_lt x; show x.toInt ≤ 2147483647; omega⟩
def bnd (H : Int) (k : Nat) : Int × Int := if k < 3 then (1, 5) else if k < 16 then (([all32, all32, (0, 90), (0, 1), all32, all32, all32, (0, 9), (0, H), (0, 8), all32, (0, 50), (0, 20)] : List (Int × Int)).getD (k - 3) all32) else if k < 88 then (0, 9) else if k < 108 then (0, 9999) else if k < 114 then all32 else if k < 162 then (([(0, 6), (0, 9), (0, 99), (0, 9999), (0, 9999), (0, 1)] : List (Int × Int)).getD ((k - 114) % 6) all32) else if k < 164 then (0, 50) else if k < 284 then all32 else if k < 334 then (0, 255) else all32
/-- a text of the vector: none, or good with a code -/
def VT (D : Nat → Int32) (u : Nat) (code : List Int32) : Prop := (code = [] ∧ D (162 + u) = 0) ∨ (code ≠ [] ∧ code.length ≤ 50 ∧ ∃ n : Nat, 0 < n ∧ n ≤ 50 ∧ D (162 + u) = Int32.ofNat n ∧ ∃ f : Nat, TXm (fun j => D (184 + 50 * u + j)) n u true f code)
def V (H : Int) (D : Nat → Int32) (r l : List Int32) : Prop := (∀ k, rg (D k) (bnd H k)) ∧ VT D 0 r ∧ VT D 1 l
theorem VT_ud {D : Nat → Int32} {u : Nat} {code : List Int32} (h : VT D u code) {k : Nat} {v : Int32} (hu : u = 0 ∨ u = 1) (hk : k < 162 ∨ (164 ≤ k ∧ k < 184) ∨ 284 ≤ k) : VT (ud D k v) u code := by
  have e1 : ud D k v (162 + u) = D (162 + u) := ud_o (by omega)
  rcases h with ⟨h1, h2⟩ | ⟨h1, h2, n, h3, h4, h5, f, h6⟩
  · exact Or.inl ⟨h1, by rw [e1]; exact h2⟩
  · refine Or.inr ⟨h1, h2, n, h3, h4, by rw [e1]; exact h5, f, ?_⟩
    intro X e σ base he hb hB
    exact h6 X e σ base he hb (fun j hj => by rw [hB j hj]; exact ud_o (by omega))
theorem V_ud {H : Int} {D : Nat → Int32} {r l : List Int32} (h : V H D r l) {k : Nat} {v : Int32} (hk : k < 162 ∨ (164 ≤ k ∧ k < 184) ∨ 284 ≤ k) (hv : rg v (bnd H k)) : V H (ud D k v) r l := by
  refine ⟨fun j => ?_, VT_ud h.2.1 (Or.inl rfl) hk, VT_ud h.2.2 (Or.inr rfl) hk⟩
  by_cases e : j = k
  · subst e; rw [ud_s]; exact hv
  · rw [ud_o e]; exact h.1 j
theorem pf_tot {B : Nat → Int32} {n u f : Nat} {code : List Int32} (h : TXm B n u true f code) (a b c : Int32) : ∃ v, pf a b c code [] = some [v] := by
  obtain ⟨τ, v, h1, h2, h3, h4⟩ := h (0, fun _ => 0) 41 (fun x k => if x = 96 then B k else if k = 0 then a else if k = 1 then b else c) 0 (Nat.le_refl _) (by decide) (fun j hj => by simp)
  exact ⟨v, h4 rfl⟩
theorem VT_tot {D : Nat → Int32} {u : Nat} {code : List Int32} (h : VT D u code) : code = [] ∨ ∀ a b c, ∃ v, pf a b c code [] = some [v] := by
  rcases h with ⟨h1, h2⟩ | ⟨h1, h2, n, h3, h4, h5, f, h6⟩
  · exact Or.inl h1
  · exact Or.inr (pf_tot h6)
/-! arithmetic -/
theorem ti_div {x y : Int32} (hx : 0 ≤ x.toInt) (hy : 0 < y.toInt) : (x / y).toInt = x.toInt / y.toInt := by
  have h1 := Int32.toInt_lt x
  have h2 : 0 ≤ x.toInt / y.toInt := Int.ediv_nonneg hx (by omega)
  have h3 : x.toInt / y.toInt ≤ x.toInt := Int.ediv_le_self _ hx
  rw [Int32.toInt_div, Int.tdiv_eq_ediv_of_nonneg hx]
  exact Int.bmod_eq_of_le (by omega) (by omega)
theorem ti_rm {x y : Int32} (hx : 0 ≤ x.toInt) (hy : 0 < y.toInt) : (rm x y).toInt = x.toInt % y.toInt := by
  have h1 := Int32.toInt_lt x
  have e := ti_div hx hy
  have h2 : 0 ≤ x.toInt / y.toInt * y.toInt := Int.mul_nonneg (Int.ediv_nonneg hx (by omega)) (by omega)
  have h3 : x.toInt / y.toInt * y.toInt ≤ x.toInt := Int.ediv_mul_le _ (by omega)
  have e2 : (x / y * y).toInt = x.toInt / y.toInt * y.toInt := by rw [ti_mul (by rw [e]; omega) (by rw [e]; omega), e]
  unfold rm
  rw [ti_sub (by rw [e2]; omega) (by rw [e2]; omega), e2, Int.emod_def, Int.mul_comm]
theorem i_ext {x y : Int32} (h : x.toInt = y.toInt) : x = y := Int32.toInt_inj.mp h
theorem i_nat {x : Int32} {m : Nat} (h : x.toInt = m) (hm : m < 2147483648) : x = Int32.ofNat m := i_ext (by rw [h, ofN hm])
