/-! THE TABLES ARE THE STATEMENT'S -/
def im_Ts : List u_T := [TX0, TX1, TX2, TX3, TX4, TX5, TX6, TX7, TX8, TX9, TX10]
def im_T (ci : Nat) : u_T := im_Ts.getD ci TX0
theorem im_find {α : Type} {l : List (Nat × Nat × α)} {o x : Nat} {q : α} (h : (l.find? (fun e => e.1 == o && e.2.1 == x)).map (fun e => e.2.2) = some q) : (o, x, q) ∈ l := by
  cases hf : l.find? (fun e => e.1 == o && e.2.1 == x) with
  | none => rw [hf] at h; cases h
  | some e =>
    rw [hf] at h
    have h1 := List.mem_of_find?_eq_some hf
    have h2 := List.find?_some hf
    obtain ⟨a, b, c⟩ := e
    simp at h h2
    obtain ⟨rfl, rfl⟩ := h2
    subst h
    exact h1
theorem im_inW {w : Cond} (h1 : w ∈ lw_tbl) (h2 : goodWord w = true) : w ∈ im_W := List.mem_filter.mpr ⟨h1, h2⟩
theorem im_W_good : GoodIn im_W im_W := fun w hw => ⟨hw, good_of_word (List.mem_filter.mp hw).2⟩
def im_clB (ci : Nat) : Bool := decide (vwCl[ci]? = some (im_cn ci, im_T ci, im_szs.getD ci 0)) 
theorem im_cls : ∀ ci, ci < 11 → vwCl[ci]? = some (im_cn ci, im_T ci, im_szs.getD ci 0) := by
  intro ci h
  rcases (show ci = 0 ∨ ci = 1 ∨ ci = 2 ∨ ci = 3 ∨ ci = 4 ∨ ci = 5 ∨ ci = 6 ∨ ci = 7 ∨ ci = 8 ∨ ci = 9 ∨ ci = 10 by omega) with rfl | rfl | rfl | rfl | rfl | rfl | rfl | rfl | rfl | rfl | rfl <;> rfl
theorem im_clW : ∀ ci, ci < 11 → ∀ w ∈ u_ws (im_cn ci) (im_T ci) (im_szs.getD ci 0), w ∈ im_W := by
  have h : ∀ ci : Fin 11, ∀ w ∈ u_ws (im_cn ci) (im_T ci) (im_szs.getD ci 0), w ∈ im_W := by decide +kernel
  exact fun ci hc => h ⟨ci, hc⟩
theorem im_tyW : ∀ ci, ci < 11 → ∀ k, k < im_szs.getD ci 0 → parseFieldDescriptor (im_T ci k).2.2.1 = some (im_ty ci k) := by
  intro ci h
  rcases (show ci = 0 ∨ ci = 1 ∨ ci = 2 ∨ ci = 3 ∨ ci = 4 ∨ ci = 5 ∨ ci = 6 ∨ ci = 7 ∨ ci = 8 ∨ ci = 9 ∨ ci = 10 by omega) with rfl | rfl | rfl | rfl | rfl | rfl | rfl | rfl | rfl | rfl | rfl
  · exact tyX0_ok
  · exact tyX1_ok
  · exact tyX2_ok
  · exact tyX3_ok
  · exact tyX4_ok
  · exact tyX5_ok
  · exact tyX6_ok
  · exact tyX7_ok
  · exact tyX8_ok
  · exact tyX9_ok
  · exact tyX10_ok
theorem im_nmW : ∀ ci, ci < 11 → ∀ a, a < im_szs.getD ci 0 → ∀ b, b < im_szs.getD ci 0 → a ≠ b → (im_T ci a).2.1 ≠ (im_T ci b).2.1 := by
  intro ci h
  rcases (show ci = 0 ∨ ci = 1 ∨ ci = 2 ∨ ci = 3 ∨ ci = 4 ∨ ci = 5 ∨ ci = 6 ∨ ci = 7 ∨ ci = 8 ∨ ci = 9 ∨ ci = 10 by omega) with rfl | rfl | rfl | rfl | rfl | rfl | rfl | rfl | rfl | rfl | rfl
  · exact nmX0
  · exact nmX1
  · exact nmX2
  · exact nmX3
  · exact nmX4
  · exact nmX5
  · exact nmX6
  · exact nmX7
  · exact nmX8
  · exact nmX9
  · exact nmX10
theorem im_ownW : ∀ ci, ci < 11 → ∀ k, k < im_szs.getD ci 0 → (im_T ci k).1 = im_cn ci := by
  have h : ∀ ci : Fin 11, ∀ k : Fin (im_szs.getD ci 0), (im_T ci k).1 = im_cn ci := by decide +kernel
  exact fun ci hc k hk => h ⟨ci, hc⟩ ⟨k, hk⟩
def im_flB (e : Nat × Nat × Nat × Nat × Bool) : Bool :=
  decide (Cond.fieldLink (im_cn e.1) e.2.1 (im_cn e.2.2.1) (im_T e.2.2.1 e.2.2.2.1).2.1 (im_T e.2.2.1 e.2.2.2.1).2.2.1 ∈ im_W) && decide (e.2.2.1 < 11) && decide (e.2.2.2.1 < im_szs.getD e.2.2.1 0) && ((im_T e.2.2.1 e.2.2.2.1).2.2.2 == e.2.2.2.2)
theorem im_flsB : im_fls.all im_flB = true := by decide +kernel
theorem im_flW {o x ci k : Nat} {b : Bool} (h : im_fl o x = some (ci, k, b)) : Cond.fieldLink (im_cn o) x (im_cn ci) (im_T ci k).2.1 (im_T ci k).2.2.1 ∈ im_W ∧ ci < 11 ∧ k < im_szs.getD ci 0 ∧ (im_T ci k).2.2.2 = b := by
  have h1 := List.all_eq_true.mp im_flsB _ (im_find h)
  simp only [im_flB, Bool.and_eq_true, decide_eq_true_eq, beq_iff_eq] at h1
  exact ⟨h1.1.1.1, h1.1.1.2, h1.1.2, h1.2⟩
def im_lkB (e : Nat × Nat × Nat × Nat × Nat) : Bool :=
  let o := e.1; let x := e.2.1; let k := e.2.2.1; let j := e.2.2.2.1; let n := e.2.2.2.2
  if k = 5 then decide (Cond.methodLink (im_cn o) x Lib.objectInit ∈ im_W)
  else if k = 6 then decide (Cond.methodLink (im_cn o) x arraycopyName ∈ im_W)
  else decide (j < 239) && decide (Cond.initialized (im_y j).cls ∈ im_W) && decide (Cond.code (im_y j) (im_cc j) (im_ml j) (im_rt j) ∈ im_W) && decide ((parseMethodDescriptor (im_y j).desc).map (fun d => d.parameters.length) = some n) && decide ((im_y j).cls = im_cn (im_ow j)) && decide (im_ml j ≤ 8) &&
    (if k = 0 then decide (Cond.methodLink (im_cn o) x (im_y j) ∈ im_W) && decide (Cond.static (im_y j) ∈ im_W)
     else if k = 1 then decide (Cond.methodLink (im_cn o) x (im_y j) ∈ im_W) && decide (Cond.instanceMethod (im_y j) ∈ im_W) && decide (Cond.selects (im_y j).cls (im_y j) (im_y j) ∈ im_W)
     else if k = 2 then decide (Cond.methodLink (im_cn o) x (im_y j) ∈ im_W) && decide (Cond.instanceMethod (im_y j) ∈ im_W) && decide ((im_y j).name = "<init>") && decide (im_rt j = none)
     else if k = 3 then decide (Cond.static (im_y j) ∈ im_W)
     else if k = 4 then decide (Cond.instanceMethod (im_y j) ∈ im_W) && decide ((im_y j).name = "<init>") && decide (im_rt j = none)
     else false)
theorem im_lksB : im_lks.all im_lkB = true := by decide +kernel
def im_mB (i : Nat) : Bool := decide ((im_y i).cls = im_cn (im_ow i)) && plainName (im_y i).cls && decide ((im_y i).cls ≠ "java/lang/invoke/MethodHandle") && decide ((im_y i).cls ≠ "java/lang/invoke/VarHandle")
theorem im_msB : (List.range 239).all im_mB = true := by decide +kernel
theorem im_oneW : [Cond.instanceMethod Lib.objectInit, Cond.code Lib.objectInit ⟨#[0xb1]⟩ 1 none, Cond.native arraycopyName, Cond.static arraycopyName, Cond.initialized "java/lang/System", Cond.arrayClass .int, Cond.fieldLink "java/lang/String" 9 "java/lang/String" "value" "[B", Cond.fieldLink "java/lang/String" 15 "java/lang/String" "coder" "B", Cond.fieldLink "java/lang/String" 38 "java/lang/String" "COMPACT_STRINGS" "Z"].all (fun w => decide (w ∈ im_W)) = true := by decide +kernel
theorem im_nwB : im_nws.all (fun e => decide (Cond.classLink (im_cn e.1) e.2.1 (im_cn e.2.2) ∈ im_W) && decide (Cond.instantiable (im_cn e.2.2) (im_szs.getD e.2.2 0) ∈ im_W) && decide (Cond.initialized (im_cn e.2.2) ∈ im_W) && decide (e.2.2 < 11)) = true := by decide +kernel
theorem im_kcB : im_kcs.all (fun e => decide (Cond.constant (im_cn e.1) e.2.1 e.2.2 ∈ im_W)) = true := by decide +kernel
theorem im_klB : im_kls.all (fun e => decide (Cond.constantLong (im_cn e.1) e.2.1 e.2.2 ∈ im_W)) = true := by decide +kernel
