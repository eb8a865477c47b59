/-! HOW THE ABSTRACT MACHINE'S CELLS LIE IN THE HEAP -/
/-- the heap's size at the law's entry; where the read-only cells lie; the classes of the objects and of the arrays -/
abbrev im_G : Type := Nat × (Nat → Nat) × va_G × (Nat → ClassId)
def im_ad (g : im_G) (k : Nat) : Nat := if k < im_RB then g.1 + k else g.2.1 (k - im_RB)
def im_v (g : im_G) (v : Value) : Value := match v with
  | .ref k => .ref (im_ad g k)
  | w => w
def im_opt (g : im_G) (v : Value) : Option Nat := match v with
  | .ref k => some (im_ad g k)
  | _ => none
def im_A (g : im_G) : Nat → Prop := fun q => g.1 ≤ q
def im_cell (g : im_G) (kn : Nat × Nat) (f : Nat → Value) : va_E :=
  if kn.1 < 11 then .inr (kn.1, (List.range kn.2).map fun i => im_v g (f i))
  else if kn.1 = 11 then .inl (g.2.2.2 0, (kn.2, .inl (fun i => im_int (f i))))
  else .inl (g.2.2.2 (kn.1 - 11), (kn.2, .inr (.inr (.inr (.inr fun i => im_opt g (f i))))))
def im_P (g : im_G) (M : im_M) (H : Heap) : Prop := H.size = g.1 + M.1 ∧ M.1 ≤ im_RB ∧ ∀ k, k < M.1 → ((M.2.2.1 k).1 < 11 → (M.2.2.1 k).2 = im_szs.getD (M.2.2.1 k).1 0) ∧ va_at g.2.2.1 vwCl (g.1 + k, im_cell g (M.2.2.1 k) (M.2.2.2 k)) H
def im_nst : List (Nat × Nat × Nat) := (im_lks.filter (fun e => e.2.2.1 == 3 || e.2.2.1 == 4)).map (fun e => (e.1, e.2.1, e.2.2.2.1))
def im_gsn (k : Nat) : String := ["KIND_ABOVE", "BODIES"].getD k ""
def im_gsf : List (Nat × Nat × Nat) := im_gss.filter (fun e => e.2.2 == 0 || e.2.2 == 1)
def im_txs : List String := ["", "csl", "lfg"]
def im_byt : List (List Int32) := [im_SB 0, im_SB 1, im_SB 2]
def im_W : List Cond := lw_tbl.filter goodWord
def im_Env (X : im_E) (g : im_G) (U : State) (H : Heap) : Prop :=
  va_K g.2.2.1 vwCl [(g.2.2.2 0, .int), (g.2.2.2 1, .object RX0), (g.2.2.2 2, .object RX4)] U ∧
  (∀ q ∈ im_nst, va_Nw (.methodLinkNest (im_cn q.1) q.2.1 (im_y q.2.2) RX9) U) ∧
  (∀ q ∈ im_gsf, va_Nw (.fieldLinkNest (im_cn q.1) q.2.1 RX9 (im_gsn q.2.2) "[I" RX9) U) ∧
  (∀ k, k < 2 → va_Z RX9 (im_gsn k) "[I" (.ref (im_ad g (im_RB + k))) (im_A g) U H) ∧
  va_Z "java/lang/String" "COMPACT_STRINGS" "Z" (.int 1) (im_A g) U H ∧
  (∀ j n f, im_ro X j = some (0, n, f) → va_T .int (im_ad g (im_RB + j)) n (fun i => .int (f i)) (im_A g) U H) ∧
  vk_S 3 [0, 3, 3] im_byt (fun i => im_ad g (im_RB + 6 + i)) (fun i => im_ad g (im_RB + 3 + i)) (im_A g) U H ∧
  (∀ q ∈ im_kss, vk_R (im_cn q.1) q.2.1 (im_txs.getD q.2.2 "") (im_ad g (im_RB + 6 + q.2.2)) U) ∧
  va_AO RX0 U ∧ va_AO RX4 U
theorem im_Env.go {X : im_E} {g : im_G} {s U : State} {H0 H : Heap} (h : im_Env X g s H0) (hW : s.WarmedH U.vm) (hk : ∀ q : Nat, q < H0.size → ¬ im_A g q → H[q]? = H0[q]?) : im_Env X g U H := by
  have hvm := hW.alike
  obtain ⟨h1, h2, h3, h4, h5, h6, h7, h8, h9, h10⟩ := h
  refine ⟨va_K.moved hvm h1, fun q hq => va_Nw.warmM hW (h2 q hq), fun q hq => va_Nw.warmF hW (h3 q hq), fun k hk' => (va_Z.moved hvm (h4 k hk')).kept hk, (va_Z.moved hvm h5).kept hk, fun j n f hj => (va_T.moved hvm (h6 j n f hj)).kept hk, (vk_S.moved hvm h7).kept hk, fun q hq => vk_R.warm hW (h8 q hq), va_AO.moved hvm h9, va_AO.moved hvm h10⟩
/-- the locals -/
def im_L (g : im_G) (lsC : Array Slot) (ls : List (Option Value)) : Prop := lsC.size = ls.length ∧ lv_wf lsC ∧ ∀ (i : Nat) (v : Value), ls[i]? = some (some v) → lsC[i]? = some (.val (im_v g v))
def im_lvs (g : im_G) (ls : List (Option Value)) : List (Nat × Value) := (List.range ls.length).filterMap fun i => (ls[i]?).bind fun o => o.map fun v => (i, im_v g v)
theorem im_lvs_mem {g : im_G} {ls : List (Option Value)} {i : Nat} {v : Value} (h : ls[i]? = some (some v)) : (i, im_v g v) ∈ im_lvs g ls := by
  unfold im_lvs
  rw [List.mem_filterMap]
  exact ⟨i, List.mem_range.mpr (List.getElem?_eq_some_iff.mp h).1, by simp [h]⟩
theorem im_lvs_of {g : im_G} {ls : List (Option Value)} {q : Nat × Value} (h : q ∈ im_lvs g ls) : ∃ v, ls[q.1]? = some (some v) ∧ q.2 = im_v g v := by
  unfold im_lvs at h
  rw [List.mem_filterMap] at h
  obtain ⟨i, -, h⟩ := h
  cases hi : ls[i]? with
  | none => simp [hi] at h
  | some o =>
    cases o with
    | none => simp [hi] at h
    | some v => simp [hi] at h; subst h; exact ⟨v, hi, rfl⟩
theorem im_L.has {g : im_G} {lsC : Array Slot} {ls : List (Option Value)} (h : im_L g lsC ls) : lv_has lsC ls.length (im_lvs g ls) := by
  refine ⟨h.1, h.2.1, fun q hq => ?_⟩
  obtain ⟨v, h1, h2⟩ := im_lvs_of hq
  rw [h2]
  exact h.2.2 _ _ h1
theorem im_v_cat (g : im_G) (v : Value) : (im_v g v).category = v.category := by cases v <;> rfl
theorem im_s1_len (ls : List (Option Value)) (k : Nat) (v : Value) : (im_s1 ls k v).length = ls.length := by
  cases k <;> simp [im_s1]
theorem im_cl_some {o : Option Value} {w : Value} (h : im_cl o = some w) : o = some w ∧ ¬ w.category = 2 := by
  cases o with
  | none => simp [im_cl] at h
  | some u =>
    simp only [im_cl] at h
    split at h
    · cases h
    · cases h; exact ⟨rfl, by assumption⟩
theorem im_s1_get {ls : List (Option Value)} {k j : Nat} {v w : Value} (h : (im_s1 ls k v)[j]? = some (some w)) : (j = k ∧ w = v) ∨ (j ≠ k ∧ ls[j]? = some (some w) ∧ ¬ (j + 1 = k ∧ w.category = 2)) := by
  by_cases hj : j = k
  · subst hj
    left
    refine ⟨rfl, ?_⟩
    have hl : j < (im_s1 ls j v).length := (List.getElem?_eq_some_iff.mp h).1
    rw [im_s1_len] at hl
    cases j with
    | zero => simp [im_s1, List.getElem?_set, hl] at h; exact h.symm
    | succ j => simp [im_s1, List.getElem?_set, hl] at h; exact h.symm
  · right
    refine ⟨hj, ?_⟩
    cases k with
    | zero =>
      simp only [im_s1] at h
      rw [List.getElem?_set_ne (Ne.symm hj)] at h
      exact ⟨h, fun q => by omega⟩
    | succ k =>
      simp only [im_s1] at h
      rw [List.getElem?_set_ne (Ne.symm hj)] at h
      by_cases hk : k = j
      · subst hk
        by_cases hl : k < ls.length
        · rw [List.getElem?_set_self hl] at h
          have h1 := Option.some.inj h
          cases hg : ls[k]? with
          | none => rw [hg] at h1; cases h1
          | some o =>
            rw [hg] at h1
            obtain ⟨h2, h3⟩ := im_cl_some h1
            exact ⟨by rw [h2], fun q => h3 q.2⟩
        · rw [List.getElem?_eq_none (by simp; omega)] at h
          cases h
      · rw [List.getElem?_set_ne hk] at h
        exact ⟨h, fun q => hk (by omega)⟩
theorem im_L.st1 {g : im_G} {lsC' : Array Slot} {ls : List (Option Value)} {i : Nat} {v : Value} (h : lv_has lsC' ls.length ((i, im_v g v) :: (im_lvs g ls).filter (fun q => !(q.1 == i) && !(q.1 + 1 == i && q.2.category == 2)))) : im_L g lsC' (im_s1 ls i v) := by
  refine ⟨by rw [im_s1_len]; exact h.1, h.2.1, fun j w hj => ?_⟩
  rcases im_s1_get hj with ⟨rfl, rfl⟩ | ⟨h1, h2, h3⟩
  · exact h.2.2 _ List.mem_cons_self
  · refine h.2.2 (j, im_v g w) (List.mem_cons_of_mem _ (List.mem_filter.mpr ⟨im_lvs_mem h2, ?_⟩))
    simp only [im_v_cat, Bool.and_eq_true, Bool.not_eq_true', beq_eq_false_iff_ne, ne_eq, Bool.and_eq_false_iff]
    refine ⟨h1, ?_⟩
    by_cases q : j + 1 = i
    · right; intro z; exact h3 ⟨q, z⟩
    · left; exact q
/-- the locals at a method's entry -/
theorem im_al_args (g : im_G) : ∀ (as : List Value) (n i : Nat) (v : Value), (im_al as)[i]? = some (some v) → (n + i, im_v g v) ∈ lv_args n (as.map (im_v g))
  | [], n, i, v, h => by simp [im_al] at h
  | a :: as, n, i, v, h => by
    simp only [im_al] at h
    simp only [List.map, lv_args, im_v_cat]
    by_cases hc : a.category = 2
    · rw [if_pos hc] at h ⊢
      cases i with
      | zero => simp at h; subst h; exact List.mem_cons_self
      | succ i =>
        cases i with
        | zero => simp at h
        | succ i =>
          simp at h
          have := im_al_args g as (n + 2) i v h
          rw [show n + (i + 1 + 1) = n + 2 + i by omega]
          exact List.mem_cons_of_mem _ this
    · rw [if_neg hc] at h ⊢
      cases i with
      | zero => simp at h; subst h; exact List.mem_cons_self
      | succ i =>
        simp at h
        have := im_al_args g as (n + 1) i v h
        rw [show n + (i + 1) = n + 1 + i by omega]
        exact List.mem_cons_of_mem _ this
theorem im_al_len (g : im_G) : ∀ as : List Value, (lg_sl (as.map (im_v g))).length = (im_al as).length
  | [] => rfl
  | a :: as => by
    have ih := im_al_len g as
    simp only [lg_sl] at ih ⊢
    simp only [List.map, List.flatMap_cons, im_al, im_v_cat, List.length_append]
    by_cases hc : a.category = 2
    · rw [if_pos hc, if_pos hc]; simp [ih]; omega
    · rw [if_neg hc, if_neg hc]; simp [ih]; omega
theorem im_ent_len {n : Nat} {as : List Value} (h : (im_al as).length ≤ n) : (im_ent n as).length = n := by
  simp [im_ent]; omega
theorem im_L.ent {g : im_G} {n : Nat} {as : List Value} (h : (im_al as).length ≤ n) : im_L g ((lg_sl (as.map (im_v g)) ++ List.replicate (n - (lg_sl (as.map (im_v g))).length) Slot.unset).toArray) (im_ent n as) := by
  have h0 := lv_entry (as.map (im_v g)) (n := n) (by rw [im_al_len]; exact h)
  refine ⟨by rw [im_ent_len h]; exact h0.1, h0.2.1, fun i v hi => ?_⟩
  unfold im_ent at hi
  by_cases hl : i < (im_al as).length
  · rw [List.getElem?_append_left hl] at hi
    have := im_al_args g as 0 i v hi
    rw [Nat.zero_add] at this
    exact h0.2.2 _ this
  · rw [List.getElem?_append_right (by omega)] at hi
    rw [List.getElem?_replicate] at hi
    split at hi <;> cases hi
/-! reading a cell -/
theorem im_P.at {g : im_G} {M : im_M} {H : Heap} (h : im_P g M H) {k : Nat} (hk : k < M.1) : va_P g.2.2.1 vwCl [(g.1 + k, im_cell g (M.2.2.1 k) (M.2.2.2 k))] H := by
  intro j q hj
  cases j with
  | zero => simp at hj; subst hj; exact (h.2.2 k hk).2
  | succ j => simp at hj
theorem im_ad_lt {g : im_G} {M : im_M} {H : Heap} (h : im_P g M H) {k : Nat} (hk : k < M.1) : im_ad g k = g.1 + k := by
  unfold im_ad
  rw [if_pos (Nat.lt_of_lt_of_le hk h.2.1)]
theorem im_cell_obj {g : im_G} {kn : Nat × Nat} {f : Nat → Value} (h : kn.1 < 11) : im_cell g kn f = .inr (kn.1, (List.range kn.2).map fun i => im_v g (f i)) := by
  unfold im_cell; rw [if_pos h]
theorem im_cell_int {g : im_G} {kn : Nat × Nat} {f : Nat → Value} (h : kn.1 = 11) : im_cell g kn f = .inl (g.2.2.2 0, (kn.2, .inl (fun i => im_int (f i)))) := by
  unfold im_cell; rw [if_neg (by omega), if_pos h]
theorem im_cell_ref {g : im_G} {kn : Nat × Nat} {f : Nat → Value} (h : 11 < kn.1) : im_cell g kn f = .inl (g.2.2.2 (kn.1 - 11), (kn.2, .inr (.inr (.inr (.inr fun i => im_opt g (f i)))))) := by
  unfold im_cell; rw [if_neg (by omega), if_neg (by omega)]
/-- a cell is written, no other changes -/
theorem im_P.set {g : im_G} {M : im_M} {H H1 : Heap} (h : im_P g M H) {k : Nat} {μ : Nat → Nat → Value} (hk : k < M.1) (hs : H1.size = H.size) (ho : ∀ q, q ≠ g.1 + k → H1[q]? = H[q]?) (hm : ∀ j, j < M.1 → j ≠ k → ∀ i, μ j i = M.2.2.2 j i) (hc : va_at g.2.2.1 vwCl (g.1 + k, im_cell g (M.2.2.1 k) (μ k)) H1) : im_P g (M.1, M.2.1, M.2.2.1, μ) H1 := by
  refine ⟨by rw [hs]; exact h.1, h.2.1, fun j hj => ⟨(h.2.2 j hj).1, ?_⟩⟩
  by_cases hjk : j = k
  · subst hjk; exact hc
  · have h1 := (h.2.2 j hj).2.kept (H1 := H1) (ho _ (by show g.1 + j ≠ g.1 + k; omega))
    have e : μ j = M.2.2.2 j := funext (hm j hj hjk)
    show va_at _ _ (g.1 + j, im_cell g (M.2.2.1 j) (μ j)) H1
    rw [e]
    exact h1
/-- a cell comes -/
theorem im_P.push {g : im_G} {M : im_M} {H H1 : Heap} (h : im_P g M H) {kd n : Nat} {f : Nat → Value} (hk : M.1 < im_RB) (hs : H1.size = H.size + 1) (ho : ∀ q, q < H.size → H1[q]? = H[q]?) (hz : kd < 11 → n = im_szs.getD kd 0) (hc : va_at g.2.2.1 vwCl (H.size, im_cell g (kd, n) f) H1) : im_P g (im_new M kd n f) H1 := by
  have hsz := h.1
  refine ⟨by show H1.size = g.1 + (M.1 + 1); omega, hk, fun j hj => ?_⟩
  have hj' : j < M.1 + 1 := hj
  by_cases hjk : j = M.1
  · subst hjk
    refine ⟨fun q => ?_, ?_⟩
    · show ((if M.1 = M.1 then (kd, n) else M.2.2.1 M.1) : Nat × Nat).2 = _
      simp only [im_new, if_pos] at q ⊢
      exact hz q
    · show va_at _ _ (g.1 + M.1, im_cell g (if M.1 = M.1 then (kd, n) else M.2.2.1 M.1) (if M.1 = M.1 then f else M.2.2.2 M.1)) H1
      simp only [if_true]
      rw [← hsz]
      exact hc
  · have hjl : j < M.1 := by omega
    refine ⟨fun q => ?_, ?_⟩
    · simp only [im_new, if_neg hjk] at q ⊢
      exact (h.2.2 j hjl).1 q
    · show va_at _ _ (g.1 + j, im_cell g (if j = M.1 then (kd, n) else M.2.2.1 j) (if j = M.1 then f else M.2.2.2 j)) H1
      simp only [if_neg hjk]
      exact (h.2.2 j hjl).2.kept (ho _ (by show g.1 + j < H.size; omega))
