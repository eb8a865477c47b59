/-! THE CONSTRUCTORS, RUN BY THE KERNEL -/
def im_X0 : im_E := (0, fun _ => 0)
/-- does an instruction look at what nobody writes? -/
def im_pure (ins : Instr) (st : List Value) : Bool := match ins with
  | .iaload => false
  | .baload => false
  | .arraylength => false
  | _ => true
theorem im_in_pure {X Y : im_E} {i pc len : Nat} {ls : List (Option Value)} {st : List Value} {M : im_M} (ins : Instr) (h : im_pure ins st = true) : im_in X i pc ins len ls st M = im_in Y i pc ins len ls st M := by
  cases ins <;> first | (cases h; done) | rfl
def im_pureS (i : Nat) (c : im_C) : Bool := match decode (im_cc i) c.1 with
  | .ok (ins, _) => im_pure ins c.2.2.1
  | _ => true
theorem im_step_pure {X Y : im_E} {i : Nat} {c : im_C} (h : im_pureS i c = true) : im_step X i c = im_step Y i c := by
  unfold im_step
  unfold im_pureS at h
  split
  · rename_i ins len hd
    rw [hd] at h
    exact im_in_pure ins h
  · rfl
/-- a run that looks at no read-only cell, with its end -/
def im_runP : Nat → Nat → Nat → im_C → Option (Option Value × im_M)
  | 0, _, _, _ => none
  | n + 1, d, i, c => if im_pureS i c = true then match im_step im_X0 i c with
    | some (.inl c') => im_runP n d i c'
    | some (.inr (.inl r)) => some r
    | some (.inr (.inr (j, as, (pc, ls, rest, M)))) => match d with
      | 0 => none
      | d' + 1 => if j = 1000 then im_runP n (d' + 1) i (pc, ls, rest, M) else
        if (im_al as).length ≤ im_ml j then match im_runP n d' j (0, im_ent (im_ml j) as, [], M) with
          | some (v, M') => im_runP n (d' + 1) i (pc, ls, v.toList ++ rest, M')
          | none => none
        else none
    | none => none
    else none
theorem im_runP_run {X : im_E} : ∀ (n d i : Nat) (c : im_C) (z : Option Value × im_M), im_runP n d i c = some z → im_run X n d i c = some z
  | 0, d, i, c, z, h => by simp [im_runP] at h
  | n + 1, d, i, c, z, h => by
    unfold im_runP at h
    split at h
    · rename_i hp
      unfold im_run
      rw [im_step_pure (X := X) (Y := im_X0) hp]
      split at h
      · rename_i c' hs
        rw [hs]
        exact im_runP_run n d i c' z h
      · rename_i r hs
        rw [hs]
        exact h
      · rename_i j as pc' ls' rest M1 hs
        rw [hs]
        split at h
        · cases h
        · split at h
          · rename_i hj
            (try dsimp only)
            rw [if_pos hj]
            exact im_runP_run n _ i _ z h
          · rename_i hj
            (try dsimp only)
            rw [if_neg hj]
            split at h
            · rename_i hal
              rw [if_pos hal]
              split at h
              · rename_i v M2 hq
                rw [im_runP_run n _ j _ _ hq]
                exact im_runP_run n _ i _ z h
              · cases h
            · cases h
      · cases h
    · cases h
def im_dM (M : im_M) (ci : Nat) : im_M := im_new M ci (im_szs.getD ci 0) (fun k => defaultValue (im_ty ci k))
def ini1 : im_M := im_dM im_M0 9
def ini2 : im_M := ((im_runP 3000 10 0 (0, im_ent 2 [.ref 0], [], ini1)).getD (none, im_M0)).2
def ini3 : im_M := im_dM ini2 10
def ini4 : im_M := ((im_runP 3000 10 148 (0, im_ent 2 [.ref 95], [], ini3)).getD (none, im_M0)).2
def isN (z : Option (Option Value × im_M)) : Bool := match z with
  | some (none, _) => true
  | _ => false
theorem isN_of {z : Option (Option Value × im_M)} {m : im_M} (h : isN z = true) (e : m = (z.getD (none, im_M0)).2) : z = some (none, m) := by
  unfold isN at h
  split at h
  · rw [e]; rfl
  · cases h
/-- what the ints are behind the constructors -/
def s0W (o k : Nat) : Int32 := match o with
  | 0 => (match k with
    | 11 => 300
    | 12 => 5
    | 17 => 500
    | 18 => 1
    | _ => 0)
  | 2 => 2
  | 16 => Int32.ofNat (k + 1) * 100
  | _ => 0
def s0D (k : Nat) : Int32 := if k < 3 then 2 else if k = 3 then 300 else if k = 4 then 5 else if k = 7 then 500 else if k = 13 then 1 else if 108 ≤ k ∧ k < 114 then Int32.ofNat (k - 107) * 100 else 0
def s0 (a k : Nat) : Int32 := if a = 96 then s0D k else if 79 ≤ a then 0 else if a = 0 then 0 else s0W ((a - 1) % 26) k
def veq (a b : Value) : Bool := match a, b with
  | .int x, .int y => x == y
  | .ref x, .ref y => x == y
  | .null, .null => true
  | _, _ => false
theorem veq_of {a b : Value} (h : veq a b = true) : a = b := by
  unfold veq at h
  split at h
  · rw [beq_iff_eq] at h; rw [h]
  · rw [beq_iff_eq] at h; rw [h]
  · rfl
  · cases h
def vchk (a n : Nat) : Bool := (List.range n).all fun k => veq (ini4.2.2.2 a k) (vals s0 a k)
theorem ini_all : (isN (im_runP 3000 10 0 (0, im_ent 2 [.ref 0], [], ini1)) && (decide (ini2.1 = 95) && (decide (ini2.2.1 ≤ 3016) && (isN (im_runP 3000 10 148 (0, im_ent 2 [.ref 95], [], ini3)) && (decide (ini4.1 = 106) && (decide (ini4.2.1 = 3016) && ((List.range 106).all (fun a => decide (ini4.2.2.1 a = kd0 a)) && (List.range 106).all (fun a => vchk a (kd0 a).2)))))))) = true := by decide +kernel
theorem ini_alls : isN (im_runP 3000 10 0 (0, im_ent 2 [.ref 0], [], ini1)) = true ∧ ini2.1 = 95 ∧ ini2.2.1 ≤ 3016 ∧ isN (im_runP 3000 10 148 (0, im_ent 2 [.ref 95], [], ini3)) = true ∧ ini4.1 = 106 ∧ ini4.2.1 = 3016 ∧ (List.range 106).all (fun a => decide (ini4.2.2.1 a = kd0 a)) = true ∧ (List.range 106).all (fun a => vchk a (kd0 a).2) = true := by
  have h := ini_all
  rw [Bool.and_eq_true, Bool.and_eq_true, Bool.and_eq_true, Bool.and_eq_true, Bool.and_eq_true, Bool.and_eq_true, Bool.and_eq_true] at h
  exact ⟨h.1, of_decide_eq_true h.2.1, of_decide_eq_true h.2.2.1, h.2.2.2.1, of_decide_eq_true h.2.2.2.2.1, of_decide_eq_true h.2.2.2.2.2.1, h.2.2.2.2.2.2.1, h.2.2.2.2.2.2.2⟩
theorem ini_r2 : im_runP 3000 10 0 (0, im_ent 2 [.ref 0], [], ini1) = some (none, ini2) := isN_of ini_alls.1 (by delta ini2; rfl)
theorem ini_r4 : im_runP 3000 10 148 (0, im_ent 2 [.ref 95], [], ini3) = some (none, ini4) := isN_of ini_alls.2.2.2.1 (by delta ini4; rfl)
theorem ini_1k : ini2.1 = 95 := ini_alls.2.1
theorem ini_4k : ini4.1 = 106 ∧ ini4.2.1 = 3016 ∧ ini2.2.1 ≤ 3016 := ⟨ini_alls.2.2.2.2.1, ini_alls.2.2.2.2.2.1, ini_alls.2.2.1⟩
theorem ini_kd : ∀ a : Fin 106, ini4.2.2.1 a = kd0 a := fun a => of_decide_eq_true (List.all_eq_true.mp ini_alls.2.2.2.2.2.2.1 a (List.mem_range.mpr a.2))
theorem ini_v {a k : Nat} (ha : a < 106) (hk : k < (kd0 a).2) : ini4.2.2.2 a k = vals s0 a k :=
  veq_of (List.all_eq_true.mp (List.all_eq_true.mp ini_alls.2.2.2.2.2.2.2 a (List.mem_range.mpr ha)) k (List.mem_range.mpr hk))
