/-! EACH STEP OF THE ABSTRACT MACHINE IS A STEP OF THE MACHINE: all instructions but calls and ends -/
theorem im_go_inv {b : Bool} {c c' : im_C} (h : im_go b c = some (.inl c')) : b = true ∧ c = c' := by
  unfold im_go at h
  split at h
  · cases h; exact ⟨by assumption, rfl⟩
  · cases h
theorem im_i2_inv {st : List Value} {f : Int32 → Int32 → List Value → Option im_R} {z : im_R} (h : im_i2 st f = some z) : ∃ x y r, st = .int y :: .int x :: r ∧ f x y r = some z := by
  unfold im_i2 at h
  split at h
  · exact ⟨_, _, _, rfl, h⟩
  · cases h
theorem im_i1_inv {st : List Value} {f : Int32 → List Value → Option im_R} {z : im_R} (h : im_i1 st f = some z) : ∃ x r, st = .int x :: r ∧ f x r = some z := by
  unfold im_i1 at h
  split at h
  · exact ⟨_, _, rfl, h⟩
  · cases h
theorem im_l2_inv {st : List Value} {f : Int64 → Int64 → List Value → Option im_R} {z : im_R} (h : im_l2 st f = some z) : ∃ x y r, st = .long y :: .long x :: r ∧ f x y r = some z := by
  unfold im_l2 at h
  split at h
  · exact ⟨_, _, _, rfl, h⟩
  · cases h
theorem im_l1_inv {st : List Value} {f : Int64 → List Value → Option im_R} {z : im_R} (h : im_l1 st f = some z) : ∃ x r, st = .long x :: r ∧ f x r = some z := by
  unfold im_l1 at h
  split at h
  · exact ⟨_, _, rfl, h⟩
  · cases h
theorem im_li_inv {st : List Value} {f : Int64 → Int32 → List Value → Option im_R} {z : im_R} (h : im_li st f = some z) : ∃ x y r, st = .int y :: .long x :: r ∧ f x y r = some z := by
  unfold im_li at h
  split at h
  · exact ⟨_, _, _, rfl, h⟩
  · cases h
theorem im_a1_inv {st : List Value} {f : Value → List Value → Option im_R} {z : im_R} (h : im_a1 st f = some z) : ∃ v r, st = v :: r ∧ (v = .null ∨ ∃ a, v = .ref a) ∧ f v r = some z := by
  unfold im_a1 at h
  split at h
  · exact ⟨_, _, rfl, Or.inr ⟨_, rfl⟩, h⟩
  · exact ⟨_, _, rfl, Or.inl rfl, h⟩
  · cases h
theorem im_ldI_inv {ls : List (Option Value)} {k : Nat} {f : Int32 → Option im_R} {z : im_R} (h : im_ldI ls k f = some z) : ∃ x, ls[k]? = some (some (.int x)) ∧ f x = some z := by
  unfold im_ldI at h
  split at h
  · exact ⟨_, by assumption, h⟩
  · cases h
theorem im_ldL_inv {ls : List (Option Value)} {k : Nat} {f : Int64 → Option im_R} {z : im_R} (h : im_ldL ls k f = some z) : ∃ x, ls[k]? = some (some (.long x)) ∧ f x = some z := by
  unfold im_ldL at h
  split at h
  · exact ⟨_, by assumption, h⟩
  · cases h
theorem im_ldA_inv {ls : List (Option Value)} {k : Nat} {f : Value → Option im_R} {z : im_R} (h : im_ldA ls k f = some z) : ∃ v, ls[k]? = some (some v) ∧ (v = .null ∨ ∃ a, v = .ref a) ∧ f v = some z := by
  unfold im_ldA at h
  split at h
  · exact ⟨_, by assumption, Or.inr ⟨_, rfl⟩, h⟩
  · exact ⟨_, by assumption, Or.inl rfl, h⟩
  · cases h
theorem im_jmp_inv {pc : Nat} {off : Int} {f : Nat → Option im_R} {z : im_R} (h : im_jmp pc off f = some z) : ∃ t : Nat, (pc : Int) + off = (t : Int) ∧ f t = some z := by
  unfold im_jmp at h
  split at h
  · exact ⟨_, by omega, h⟩
  · cases h
theorem im_kcW {o x : Nat} {v : Int32} (h : im_kc o x = some v) : Cond.constant (im_cn o) x v ∈ im_W := im_kcB _ (List.mem_map.mpr ⟨_, im_find h, rfl⟩)
theorem im_klW {o x : Nat} {v : Int64} (h : im_kl o x = some v) : Cond.constantLong (im_cn o) x v ∈ im_W := im_klB _ (List.mem_map.mpr ⟨_, im_find h, rfl⟩)
section IMS
variable {p : Program} {l : Launch} {e : Env} {R : Room} {s : State} {m : MethodId} {args : Array Value} {below : List Frame} {meth : Method} {cd : Code} {H : Heap} {locs : List Loc} {cells slots : Nat} {Q : State → Prop} {lsC : Array Slot} {X : im_E} {g : im_G} {i pc : Nat} {M : im_M}
theorem im_roAW (hC : im_Ctx X g i p s m args meth cd) (hS : va_S (im_A g) s.heap H locs) {a : Nat} {j y : Int32} {rest : List Value} (ho : im_roA X a 0 j = some y) (hd : decode (im_cc i) pc = .ok (.iaload, 1))
    (kk : W p l e R s m args below meth cd H locs cells slots Q (F0 m (pc + 1) lsC (.int y :: rest))) : W p l e R s m args below meth cd H locs cells slots Q (F0 m pc lsC (.int j :: .ref (im_ad g a) :: rest)) := by
  obtain ⟨hx, hb, -, -, hown, -, -, hts, hE, -⟩ := hC
  unfold im_roA at ho
  split at ho
  · rename_i hle
    split at ho
    · rename_i q n f hro
      split at ho
      · rename_i hc
        obtain ⟨rfl, h0, hn⟩ := hc
        cases ho
        have hT := hE.2.2.2.2.2.1 _ _ _ hro
        rw [show im_RB + (a - im_RB) = a by omega] at hT
        exact va_ti hx hb hT hS (im_vin h0 hn) rfl hd kk
      · cases ho
    · cases ho
  · cases ho
theorem im_robW (hC : im_Ctx X g i p s m args meth cd) (hS : va_S (im_A g) s.heap H locs) {a : Nat} {j y : Int32} {rest : List Value} (ho : im_roA X a 1 j = some y) (hd : decode (im_cc i) pc = .ok (.baload, 1))
    (kk : W p l e R s m args below meth cd H locs cells slots Q (F0 m (pc + 1) lsC (.int y :: rest))) : W p l e R s m args below meth cd H locs cells slots Q (F0 m pc lsC (.int j :: .ref (im_ad g a) :: rest)) := by
  obtain ⟨hx, hb, -, -, hown, -, -, hts, hE, -⟩ := hC
  have hV := hE.2.2.2.2.2.2.1
  unfold im_roA at ho
  split at ho
  · rename_i hle
    split at ho
    · rename_i q n f hro
      split at ho
      · rename_i hc
        obtain ⟨rfl, h0, hn⟩ := hc
        cases ho
        have key : ∃ t, t < 3 ∧ a = im_RB + 3 + t ∧ n = [0, 3, 3].getD t 0 ∧ f = fun k => (im_byt.getD t []).getD k 0 := by
          unfold im_ro at hro
          split at hro <;> first | (cases hro; done) | skip
          · rename_i hq; cases hro; exact ⟨0, by omega, by omega, rfl, rfl⟩
          · rename_i hq; cases hro; exact ⟨1, by omega, by omega, rfl, rfl⟩
          · rename_i hq; cases hro; exact ⟨2, by omega, by omega, rfl, rfl⟩
        obtain ⟨t, ht, rfl, rfl, rfl⟩ := key
        exact va_tb hx hb (hV.1 t ht).2.2.2 hS (im_vin h0 hn) rfl hd kk
      · cases ho
    · cases ho
  · cases ho
theorem im_roL (hC : im_Ctx X g i p s m args meth cd) (hS : va_S (im_A g) s.heap H locs) {a n q : Nat} {f : Nat → Int32} {rest : List Value} (hle : im_RB ≤ a) (hro : im_ro X (a - im_RB) = some (q, n, f)) (hd : decode (im_cc i) pc = .ok (.arraylength, 1))
    (kk : W p l e R s m args below meth cd H locs cells slots Q (F0 m (pc + 1) lsC (.int (Int32.ofNat n) :: rest))) : W p l e R s m args below meth cd H locs cells slots Q (F0 m pc lsC (.ref (im_ad g a) :: rest)) := by
  obtain ⟨hx, hb, -, -, hown, -, -, hts, hE, -⟩ := hC
  have hV := hE.2.2.2.2.2.2.1
  by_cases hq : q = 0
  · subst hq
    have hT := hE.2.2.2.2.2.1 _ _ _ hro
    rw [show im_RB + (a - im_RB) = a by omega] at hT
    exact va_tlen hx hb hT hS rfl hd kk
  · have key : ∃ t, t < 3 ∧ a = im_RB + 3 + t ∧ n = [0, 3, 3].getD t 0 := by
      unfold im_ro at hro
      split at hro <;> first | (cases hro; done) | skip
      · cases hro; exact absurd rfl hq
      · cases hro; exact absurd rfl hq
      · cases hro; exact absurd rfl hq
      · rename_i hq; cases hro; exact ⟨0, by omega, by omega, rfl⟩
      · rename_i hq; cases hro; exact ⟨1, by omega, by omega, rfl⟩
      · rename_i hq; cases hro; exact ⟨2, by omega, by omega, rfl⟩
    obtain ⟨t, ht, rfl, rfl⟩ := key
    exact va_tlen hx hb (hV.1 t ht).2.2.2 hS rfl hd kk
theorem im_ksW (hC : im_Ctx X g i p s m args meth cd) {x q : Nat} {rest : List Value} (hf : im_ks (im_ow i) x = some q) (hd : decode (im_cc i) pc = .ok (.ldc x, 2))
    (kk : W p l e R s m args below meth cd H locs cells slots Q (F0 m (pc + 2) lsC (.ref (im_ad g (im_RB + 6 + q)) :: rest))) : W p l e R s m args below meth cd H locs cells slots Q (F0 m pc lsC rest) := by
  obtain ⟨hx, hb, -, -, hown, -, -, hts, hE, -⟩ := hC
  have hz := hE.2.2.2.2.2.2.2.1 _ (im_find hf)
  dsimp only at hz
  exact va_ldcS hx hb hown hz hd kk
theorem im_gsW (hC : im_Ctx X g i p s m args meth cd) (hS : va_S (im_A g) s.heap H locs) {x k : Nat} {rest : List Value} (hf : im_gs (im_ow i) x = some k) (hk : k < 2) (hd : decode (im_cc i) pc = .ok (.getstatic x, 3))
    (kk : W p l e R s m args below meth cd H locs cells slots Q (F0 m (pc + 3) lsC (.ref (im_ad g (im_RB + k)) :: rest))) : W p l e R s m args below meth cd H locs cells slots Q (F0 m pc lsC rest) := by
  obtain ⟨hx, hb, -, -, hown, -, -, hts, hE, -⟩ := hC
  have h1 := im_find hf
  have h2 : (im_ow i, x, k) ∈ im_gsf := List.mem_filter.mpr ⟨h1, by rcases (show k = 0 ∨ k = 1 by omega) with rfl | rfl <;> rfl⟩
  have h3 := hE.2.2.1 _ h2
  exact va_getsN hx hb (hE.2.2.2.1 k hk) hS hown (va_Nw.use rfl h3) (fun _ h => h) hd kk
theorem im_gsW2 (hC : im_Ctx X g i p s m args meth cd) (hS : va_S (im_A g) s.heap H locs) {x : Nat} {rest : List Value} (hf : im_gs (im_ow i) x = some 2) (hd : decode (im_cc i) pc = .ok (.getstatic x, 3))
    (kk : W p l e R s m args below meth cd H locs cells slots Q (F0 m (pc + 3) lsC (.int 1 :: rest))) : W p l e R s m args below meth cd H locs cells slots Q (F0 m pc lsC rest) := by
  obtain ⟨hx, hb, -, -, hown, -, -, hts, hE, -⟩ := hC
  have h1 := im_find hf
  have h2 : im_ow i = 13 ∧ x = 38 := by
    simp only [im_gss, List.mem_cons, Prod.mk.injEq, List.not_mem_nil, or_false] at h1
    omega
  obtain ⟨h3, rfl⟩ := h2
  rw [h3] at hown
  exact va_gets hx hb hE.2.2.2.2.1 hS hown (hts _ (im_oneW _ (by simp [im_one, im_cn, im_cns]))) (fun _ h => h) hd kk
theorem im_strW (hC : im_Ctx X g i p s m args meth cd) (hS : va_S (im_A g) s.heap H locs) {a : Nat} {rest : List Value} (ho : im_ow i = 13) (h1 : im_RB + 6 ≤ a) (h2 : a < im_RB + 9) (hd : decode (im_cc i) pc = .ok (.getfield 9, 3))
    (kk : W p l e R s m args below meth cd H locs cells slots Q (F0 m (pc + 3) lsC (.ref (im_ad g (a - 3)) :: rest))) : W p l e R s m args below meth cd H locs cells slots Q (F0 m pc lsC (.ref (im_ad g a) :: rest)) := by
  obtain ⟨hx, hb, -, -, hown, -, -, hts, hE, -⟩ := hC
  have hV := hE.2.2.2.2.2.2.1
  obtain ⟨t, ht, rfl⟩ : ∃ t, t < 3 ∧ a = im_RB + 6 + t := ⟨a - (im_RB + 6), by omega, by omega⟩
  rw [show im_RB + 6 + t - 3 = im_RB + 3 + t by omega] at kk
  rw [ho] at hown
  exact va_getX (N := 3) (o := "java/lang/String") (n := "value") (d := "[B") (v := fun i => .ref (im_ad g (im_RB + 3 + i))) (ad := fun i => im_ad g (im_RB + 6 + i)) hx hb (fun i hi => (hV.1 i hi).2.2.1) ht hS hown (hts _ (im_oneW _ (by simp [im_one, im_cn, im_cns]))) (fun _ h => h) hd kk
theorem im_strW2 (hC : im_Ctx X g i p s m args meth cd) (hS : va_S (im_A g) s.heap H locs) {a : Nat} {rest : List Value} (ho : im_ow i = 13) (h1 : im_RB + 6 ≤ a) (h2 : a < im_RB + 9) (hd : decode (im_cc i) pc = .ok (.getfield 15, 3))
    (kk : W p l e R s m args below meth cd H locs cells slots Q (F0 m (pc + 3) lsC (.int 0 :: rest))) : W p l e R s m args below meth cd H locs cells slots Q (F0 m pc lsC (.ref (im_ad g a) :: rest)) := by
  obtain ⟨hx, hb, -, -, hown, -, -, hts, hE, -⟩ := hC
  have hV := hE.2.2.2.2.2.2.1
  obtain ⟨t, ht, rfl⟩ : ∃ t, t < 3 ∧ a = im_RB + 6 + t := ⟨a - (im_RB + 6), by omega, by omega⟩
  rw [ho] at hown
  exact va_getX (N := 3) (o := "java/lang/String") (n := "coder") (d := "B") (v := fun _ => .int 0) (ad := fun i => im_ad g (im_RB + 6 + i)) hx hb (fun i hi => (hV.1 i hi).2.1) ht hS hown (hts _ (im_oneW _ (by simp [im_one, im_cn, im_cns]))) (fun _ h => h) hd kk
theorem im_L.length {ls : List (Option Value)} (hL : im_L g lsC ls) : lsC.size = ls.length := hL.1

set_option maxHeartbeats 8000000 in
set_option maxRecDepth 100000 in
theorem im_stepW (hC : im_Ctx X g i p s m args meth cd) {ls : List (Option Value)} {st : List Value} {c' : im_C} (h : im_step X i (pc, ls, st, M) = some (.inl c')) (hP : im_P g M H) (hS : va_S (im_A g) s.heap H locs) (hL : im_L g lsC ls) (hlen : ls.length = im_ml i) (hfr : 1 ≤ R.frames) (hlo : 40 ≤ R.locals) (hcells : cells + c'.2.2.2.1 ≤ R.cells + M.1) (hslots : slots + c'.2.2.2.2.1 ≤ R.slots + M.2.1)
    (kk : ∀ (H1 : Heap) (locs1 : List Loc) (lsC1 : Array Slot) (cells1 slots1 : Nat), im_P g c'.2.2.2 H1 → va_S (im_A g) s.heap H1 locs1 → im_L g lsC1 c'.2.1 → c'.2.1.length = ls.length → cells1 + M.1 = cells + c'.2.2.2.1 → slots1 + M.2.1 = slots + c'.2.2.2.2.1 → W p l e R s m args below meth cd H1 locs1 cells1 slots1 Q (F0 m c'.1 lsC1 (c'.2.2.1.map (im_v g)))) : W p l e R s m args below meth cd H locs cells slots Q (F0 m pc lsC (st.map (im_v g))) := by
  obtain ⟨hx, hb, hr, hml, hown, hlk, hnm, hts, hE, hbase⟩ := id hC
  unfold im_step at h
  dsimp only at h
  cases hd : decode (im_cc i) pc with
  | error e => rw [hd] at h; cases h
  | ok q =>
  obtain ⟨ins, len⟩ := q
  rw [hd] at h
  dsimp only at h
  cases ins
  case iconst n =>
    dsimp only [im_in] at h
    obtain ⟨hl, rfl⟩ := im_go_inv h
    obtain rfl : len = 1 := by simpa using hl
    exact lv_iconst hx hb hd rfl (kk H locs lsC cells slots hP hS hL rfl rfl rfl)
  case bipush n =>
    dsimp only [im_in] at h
    obtain ⟨hl, rfl⟩ := im_go_inv h
    obtain rfl : len = 2 := by simpa using hl
    exact lv_bipush hx hb hd rfl (kk H locs lsC cells slots hP hS hL rfl rfl rfl)
  case sipush n =>
    dsimp only [im_in] at h
    obtain ⟨hl, rfl⟩ := im_go_inv h
    obtain rfl : len = 3 := by simpa using hl
    exact lv_sipush hx hb hd rfl (kk H locs lsC cells slots hP hS hL rfl rfl rfl)
  case lconst n =>
    dsimp only [im_in] at h
    obtain ⟨hl, rfl⟩ := im_go_inv h
    obtain rfl : len = 1 := by simpa using hl
    exact lv_lconst hx hb hd rfl (kk H locs lsC cells slots hP hS hL rfl rfl rfl)
  case aconst_null =>
    dsimp only [im_in] at h
    obtain ⟨hl, rfl⟩ := im_go_inv h
    obtain rfl : len = 1 := by simpa using hl
    exact lv_null hx hb hd (kk H locs lsC cells slots hP hS hL rfl rfl rfl)
  case ldc x =>
    dsimp only [im_in] at h
    split at h
    · rename_i v hv
      obtain ⟨hl, rfl⟩ := im_go_inv h
      obtain rfl : len = 2 := by simpa using hl
      exact lv_ldc hx hb hown (hts _ (im_kcW hv)) hd (kk H locs lsC cells slots hP hS hL rfl rfl rfl)
    · split at h
      · rename_i q hq
        obtain ⟨hl, rfl⟩ := im_go_inv h
        obtain rfl : len = 2 := by simpa using hl
        exact im_ksW hC hq hd (kk H locs lsC cells slots hP hS hL rfl rfl rfl)
      · cases h
  case ldc2_w x =>
    dsimp only [im_in] at h
    split at h
    · rename_i v hv
      obtain ⟨hl, rfl⟩ := im_go_inv h
      obtain rfl : len = 3 := by simpa using hl
      exact lv_ldc2 hx hb hown (hts _ (im_klW hv)) hd (kk H locs lsC cells slots hP hS hL rfl rfl rfl)
    · cases h
  case iload_n k =>
    dsimp only [im_in] at h
    obtain ⟨x, hk, h⟩ := im_ldI_inv h
    obtain ⟨hl, rfl⟩ := im_go_inv h
    obtain rfl : len = 1 := by simpa using hl
    exact lv_iload_n hx hb hd rfl (hL.2.2 _ _ hk) (kk H locs lsC cells slots hP hS hL rfl rfl rfl)
  case iload k =>
    dsimp only [im_in] at h
    obtain ⟨x, hk, h⟩ := im_ldI_inv h
    obtain ⟨hl, rfl⟩ := im_go_inv h
    obtain rfl : len = 2 := by simpa using hl
    exact lv_iload hx hb hd (hL.2.2 _ _ hk) (kk H locs lsC cells slots hP hS hL rfl rfl rfl)
  case lload_n k =>
    dsimp only [im_in] at h
    obtain ⟨x, hk, h⟩ := im_ldL_inv h
    obtain ⟨hl, rfl⟩ := im_go_inv h
    obtain rfl : len = 1 := by simpa using hl
    exact lv_lload_n hx hb hd rfl (hL.2.2 _ _ hk) (kk H locs lsC cells slots hP hS hL rfl rfl rfl)
  case lload k =>
    dsimp only [im_in] at h
    obtain ⟨x, hk, h⟩ := im_ldL_inv h
    obtain ⟨hl, rfl⟩ := im_go_inv h
    obtain rfl : len = 2 := by simpa using hl
    exact lv_lload hx hb hd (hL.2.2 _ _ hk) (kk H locs lsC cells slots hP hS hL rfl rfl rfl)
  case aload_n k =>
    dsimp only [im_in] at h
    obtain ⟨v, hk, hv, h⟩ := im_ldA_inv h
    obtain ⟨hl, rfl⟩ := im_go_inv h
    obtain rfl : len = 1 := by simpa using hl
    rcases hv with rfl | ⟨a, rfl⟩
    · exact lv_aload_nN hx hb hd rfl (hL.2.2 _ _ hk) (kk H locs lsC cells slots hP hS hL rfl rfl rfl)
    · exact lv_aload_n hx hb hd rfl (hL.2.2 _ _ hk) (kk H locs lsC cells slots hP hS hL rfl rfl rfl)
  case aload k =>
    dsimp only [im_in] at h
    obtain ⟨v, hk, hv, h⟩ := im_ldA_inv h
    obtain ⟨hl, rfl⟩ := im_go_inv h
    obtain rfl : len = 2 := by simpa using hl
    rcases hv with rfl | ⟨a, rfl⟩
    · exact lv_aloadN hx hb hd (hL.2.2 _ _ hk) (kk H locs lsC cells slots hP hS hL rfl rfl rfl)
    · exact lv_aload hx hb hd (hL.2.2 _ _ hk) (kk H locs lsC cells slots hP hS hL rfl rfl rfl)
  case istore_n k =>
    dsimp only [im_in] at h
    obtain ⟨x, r, rfl, h2⟩ := im_i1_inv h
    replace h := h2
    obtain ⟨hl, rfl⟩ := im_go_inv h
    simp only [Bool.and_eq_true, beq_iff_eq, decide_eq_true_eq] at hl
    obtain ⟨rfl, hk⟩ := hl
    exact lv_istore_n hx hb hd rfl hL.has hk rfl (fun ls1 h1 => kk H locs ls1 cells slots hP hS (im_L.st1 (v := .int x) h1) (im_s1_len _ _ _) rfl rfl)
  case istore k =>
    dsimp only [im_in] at h
    obtain ⟨x, r, rfl, h2⟩ := im_i1_inv h
    replace h := h2
    obtain ⟨hl, rfl⟩ := im_go_inv h
    simp only [Bool.and_eq_true, beq_iff_eq, decide_eq_true_eq] at hl
    obtain ⟨rfl, hk⟩ := hl
    exact lv_istore hx hb hd hL.has hk rfl (fun ls1 h1 => kk H locs ls1 cells slots hP hS (im_L.st1 (v := .int x) h1) (im_s1_len _ _ _) rfl rfl)
  case astore_n k =>
    dsimp only [im_in] at h
    obtain ⟨v, r, rfl, hv, h2⟩ := im_a1_inv h
    replace h := h2
    obtain ⟨hl, rfl⟩ := im_go_inv h
    simp only [Bool.and_eq_true, beq_iff_eq, decide_eq_true_eq] at hl
    obtain ⟨rfl, hk⟩ := hl
    rcases hv with rfl | ⟨a, rfl⟩
    · exact lv_astore_nN hx hb hd rfl hL.has hk rfl (fun ls1 h1 => kk H locs ls1 cells slots hP hS (im_L.st1 (v := .null) h1) (im_s1_len _ _ _) rfl rfl)
    · exact lv_astore_n hx hb hd rfl hL.has hk rfl (fun ls1 h1 => kk H locs ls1 cells slots hP hS (im_L.st1 (v := .ref a) h1) (im_s1_len _ _ _) rfl rfl)
  case astore k =>
    dsimp only [im_in] at h
    obtain ⟨v, r, rfl, hv, h2⟩ := im_a1_inv h
    replace h := h2
    obtain ⟨hl, rfl⟩ := im_go_inv h
    simp only [Bool.and_eq_true, beq_iff_eq, decide_eq_true_eq] at hl
    obtain ⟨rfl, hk⟩ := hl
    rcases hv with rfl | ⟨a, rfl⟩
    · exact lv_astoreN hx hb hd hL.has hk rfl (fun ls1 h1 => kk H locs ls1 cells slots hP hS (im_L.st1 (v := .null) h1) (im_s1_len _ _ _) rfl rfl)
    · exact lv_astore hx hb hd hL.has hk rfl (fun ls1 h1 => kk H locs ls1 cells slots hP hS (im_L.st1 (v := .ref a) h1) (im_s1_len _ _ _) rfl rfl)
  case iinc k n =>
    dsimp only [im_in] at h
    obtain ⟨x, hk, h⟩ := im_ldI_inv h
    obtain ⟨hl, rfl⟩ := im_go_inv h
    obtain rfl : len = 3 := by simpa using hl
    obtain ⟨j, hj⟩ := List.getElem?_of_mem (im_lvs_mem (g := g) hk)
    exact lv_iinc hx hb hd hL.has hj rfl (List.getElem?_eq_some_iff.mp hk).1 rfl (fun ls1 h1 => kk H locs ls1 cells slots hP hS (im_L.st1 (v := .int (x + Int32.ofInt n)) h1) (im_s1_len _ _ _) rfl rfl)
  case iadd =>
    dsimp only [im_in] at h
    obtain ⟨x, y, r, rfl, h2⟩ := im_i2_inv h
    replace h := h2
    obtain ⟨hl, rfl⟩ := im_go_inv h
    obtain rfl : len = 1 := by simpa using hl
    exact lv_iadd hx hb hd (kk H locs lsC cells slots hP hS hL rfl rfl rfl)
  case isub =>
    dsimp only [im_in] at h
    obtain ⟨x, y, r, rfl, h2⟩ := im_i2_inv h
    replace h := h2
    obtain ⟨hl, rfl⟩ := im_go_inv h
    obtain rfl : len = 1 := by simpa using hl
    exact lv_isub hx hb hd (kk H locs lsC cells slots hP hS hL rfl rfl rfl)
  case imul =>
    dsimp only [im_in] at h
    obtain ⟨x, y, r, rfl, h2⟩ := im_i2_inv h
    replace h := h2
    obtain ⟨hl, rfl⟩ := im_go_inv h
    obtain rfl : len = 1 := by simpa using hl
    exact lv_imul hx hb hd (kk H locs lsC cells slots hP hS hL rfl rfl rfl)
  case iand =>
    dsimp only [im_in] at h
    obtain ⟨x, y, r, rfl, h2⟩ := im_i2_inv h
    replace h := h2
    obtain ⟨hl, rfl⟩ := im_go_inv h
    obtain rfl : len = 1 := by simpa using hl
    exact lv_iand hx hb hd (kk H locs lsC cells slots hP hS hL rfl rfl rfl)
  case ior =>
    dsimp only [im_in] at h
    obtain ⟨x, y, r, rfl, h2⟩ := im_i2_inv h
    replace h := h2
    obtain ⟨hl, rfl⟩ := im_go_inv h
    obtain rfl : len = 1 := by simpa using hl
    exact lv_ior hx hb hd (kk H locs lsC cells slots hP hS hL rfl rfl rfl)
  case ixor =>
    dsimp only [im_in] at h
    obtain ⟨x, y, r, rfl, h2⟩ := im_i2_inv h
    replace h := h2
    obtain ⟨hl, rfl⟩ := im_go_inv h
    obtain rfl : len = 1 := by simpa using hl
    exact lv_ixor hx hb hd (kk H locs lsC cells slots hP hS hL rfl rfl rfl)
  case ishl =>
    dsimp only [im_in] at h
    obtain ⟨x, y, r, rfl, h2⟩ := im_i2_inv h
    replace h := h2
    obtain ⟨hl, rfl⟩ := im_go_inv h
    obtain rfl : len = 1 := by simpa using hl
    exact lv_ishl hx hb hd (kk H locs lsC cells slots hP hS hL rfl rfl rfl)
  case ishr =>
    dsimp only [im_in] at h
    obtain ⟨x, y, r, rfl, h2⟩ := im_i2_inv h
    replace h := h2
    obtain ⟨hl, rfl⟩ := im_go_inv h
    obtain rfl : len = 1 := by simpa using hl
    exact lv_ishr hx hb hd (kk H locs lsC cells slots hP hS hL rfl rfl rfl)
  case iushr =>
    dsimp only [im_in] at h
    obtain ⟨x, y, r, rfl, h2⟩ := im_i2_inv h
    replace h := h2
    obtain ⟨hl, rfl⟩ := im_go_inv h
    obtain rfl : len = 1 := by simpa using hl
    exact lv_iushr hx hb hd rfl (kk H locs lsC cells slots hP hS hL rfl rfl rfl)
  case idiv =>
    dsimp only [im_in] at h
    obtain ⟨x, y, r, rfl, h2⟩ := im_i2_inv h
    replace h := h2
    split at h
    · cases h
    · rename_i hy
      obtain ⟨hl, rfl⟩ := im_go_inv h
      obtain rfl : len = 1 := by simpa using hl
      exact lv_idiv hx hb hd hy (kk H locs lsC cells slots hP hS hL rfl rfl rfl)
  case irem =>
    dsimp only [im_in] at h
    obtain ⟨x, y, r, rfl, h2⟩ := im_i2_inv h
    replace h := h2
    split at h
    · cases h
    · rename_i hy
      obtain ⟨hl, rfl⟩ := im_go_inv h
      obtain rfl : len = 1 := by simpa using hl
      exact lv_irem hx hb hd hy (kk H locs lsC cells slots hP hS hL rfl rfl rfl)
  case ineg =>
    dsimp only [im_in] at h
    obtain ⟨x, r, rfl, h2⟩ := im_i1_inv h
    replace h := h2
    obtain ⟨hl, rfl⟩ := im_go_inv h
    obtain rfl : len = 1 := by simpa using hl
    exact lv_ineg hx hb hd (kk H locs lsC cells slots hP hS hL rfl rfl rfl)
  case i2l =>
    dsimp only [im_in] at h
    obtain ⟨x, r, rfl, h2⟩ := im_i1_inv h
    replace h := h2
    obtain ⟨hl, rfl⟩ := im_go_inv h
    obtain rfl : len = 1 := by simpa using hl
    exact lv_i2l hx hb hd rfl (kk H locs lsC cells slots hP hS hL rfl rfl rfl)
  case i2b =>
    dsimp only [im_in] at h
    obtain ⟨x, r, rfl, h2⟩ := im_i1_inv h
    replace h := h2
    obtain ⟨hl, rfl⟩ := im_go_inv h
    obtain rfl : len = 1 := by simpa using hl
    exact lv_i2b hx hb hd rfl (kk H locs lsC cells slots hP hS hL rfl rfl rfl)
  case i2s =>
    dsimp only [im_in] at h
    obtain ⟨x, r, rfl, h2⟩ := im_i1_inv h
    replace h := h2
    obtain ⟨hl, rfl⟩ := im_go_inv h
    obtain rfl : len = 1 := by simpa using hl
    exact lv_i2s hx hb hd rfl (kk H locs lsC cells slots hP hS hL rfl rfl rfl)
  case i2c =>
    dsimp only [im_in] at h
    obtain ⟨x, r, rfl, h2⟩ := im_i1_inv h
    replace h := h2
    obtain ⟨hl, rfl⟩ := im_go_inv h
    obtain rfl : len = 1 := by simpa using hl
    exact lv_i2c hx hb hd rfl (kk H locs lsC cells slots hP hS hL rfl rfl rfl)
  case l2i =>
    dsimp only [im_in] at h
    obtain ⟨x, r, rfl, h2⟩ := im_l1_inv h
    replace h := h2
    obtain ⟨hl, rfl⟩ := im_go_inv h
    obtain rfl : len = 1 := by simpa using hl
    exact lv_l2i hx hb hd rfl (kk H locs lsC cells slots hP hS hL rfl rfl rfl)
  case land =>
    dsimp only [im_in] at h
    obtain ⟨x, y, r, rfl, h2⟩ := im_l2_inv h
    replace h := h2
    obtain ⟨hl, rfl⟩ := im_go_inv h
    obtain rfl : len = 1 := by simpa using hl
    exact lv_land hx hb hd (kk H locs lsC cells slots hP hS hL rfl rfl rfl)
  case lor =>
    dsimp only [im_in] at h
    obtain ⟨x, y, r, rfl, h2⟩ := im_l2_inv h
    replace h := h2
    obtain ⟨hl, rfl⟩ := im_go_inv h
    obtain rfl : len = 1 := by simpa using hl
    exact lv_lor hx hb hd (kk H locs lsC cells slots hP hS hL rfl rfl rfl)
  case lcmp =>
    dsimp only [im_in] at h
    obtain ⟨x, y, r, rfl, h2⟩ := im_l2_inv h
    replace h := h2
    obtain ⟨hl, rfl⟩ := im_go_inv h
    obtain rfl : len = 1 := by simpa using hl
    exact W.lcmp hx hb hd (kk H locs lsC cells slots hP hS hL rfl rfl rfl)
  case lshl =>
    dsimp only [im_in] at h
    obtain ⟨x, y, r, rfl, h2⟩ := im_li_inv h
    replace h := h2
    obtain ⟨hl, rfl⟩ := im_go_inv h
    obtain rfl : len = 1 := by simpa using hl
    exact lv_lshl hx hb hd rfl (kk H locs lsC cells slots hP hS hL rfl rfl rfl)
  case lshr =>
    dsimp only [im_in] at h
    obtain ⟨x, y, r, rfl, h2⟩ := im_li_inv h
    replace h := h2
    obtain ⟨hl, rfl⟩ := im_go_inv h
    obtain rfl : len = 1 := by simpa using hl
    exact lv_lshr hx hb hd rfl (kk H locs lsC cells slots hP hS hL rfl rfl rfl)
  case lushr =>
    dsimp only [im_in] at h
    obtain ⟨x, y, r, rfl, h2⟩ := im_li_inv h
    replace h := h2
    obtain ⟨hl, rfl⟩ := im_go_inv h
    obtain rfl : len = 1 := by simpa using hl
    exact lv_lushr hx hb hd rfl (kk H locs lsC cells slots hP hS hL rfl rfl rfl)
  case dup =>
    dsimp only [im_in] at h
    split at h
    · rename_i v r
      obtain ⟨hl, rfl⟩ := im_go_inv h
      simp only [Bool.and_eq_true, beq_iff_eq] at hl
      obtain ⟨rfl, hv⟩ := hl
      exact lv_dup hx hb hd (by rw [im_v_cat]; exact hv) (kk H locs lsC cells slots hP hS hL rfl rfl rfl)
    · cases h
  case dup2 =>
    dsimp only [im_in] at h
    split at h
    · rename_i v u r
      obtain ⟨hl, rfl⟩ := im_go_inv h
      simp only [Bool.and_eq_true, beq_iff_eq] at hl
      obtain ⟨⟨rfl, hv⟩, hu⟩ := hl
      exact lv_dup2_11 hx hb hd (by rw [im_v_cat]; exact hv) (by rw [im_v_cat]; exact hu) (kk H locs lsC cells slots hP hS hL rfl rfl rfl)
    · cases h
  case pop =>
    dsimp only [im_in] at h
    split at h
    · rename_i v r
      obtain ⟨hl, rfl⟩ := im_go_inv h
      simp only [Bool.and_eq_true, beq_iff_eq] at hl
      obtain ⟨rfl, hv⟩ := hl
      exact lv_pop hx hb hd (by rw [im_v_cat]; exact hv) (kk H locs lsC cells slots hP hS hL rfl rfl rfl)
    · cases h
  case ifCond c off =>
    dsimp only [im_in] at h
    obtain ⟨x, r, rfl, h2⟩ := im_i1_inv h
    replace h := h2
    obtain ⟨t, ht, h⟩ := im_jmp_inv h
    have k3 : len = 3 := by
      (try dsimp only at h)
      split at h
      · obtain ⟨hl, -⟩ := im_go_inv h; simpa using hl
      · obtain ⟨hl, -⟩ := im_go_inv h; simpa using hl
    subst k3
    cases c
    · refine lv_if_eq hx hb hd ht (fun q => ?_) (fun q => ?_)
      · (try dsimp only at h)
        rw [if_pos (by simpa [im_cmp] using q)] at h
        obtain ⟨-, rfl⟩ := im_go_inv h
        exact kk H locs lsC cells slots hP hS hL rfl rfl rfl
      · (try dsimp only at h)
        rw [if_neg (by simpa [im_cmp] using q)] at h
        obtain ⟨-, rfl⟩ := im_go_inv h
        exact kk H locs lsC cells slots hP hS hL rfl rfl rfl
    · refine lv_if_ne hx hb hd ht (fun q => ?_) (fun q => ?_)
      · (try dsimp only at h)
        rw [if_pos (by simpa [im_cmp] using q)] at h
        obtain ⟨-, rfl⟩ := im_go_inv h
        exact kk H locs lsC cells slots hP hS hL rfl rfl rfl
      · (try dsimp only at h)
        rw [if_neg (by simpa [im_cmp] using q)] at h
        obtain ⟨-, rfl⟩ := im_go_inv h
        exact kk H locs lsC cells slots hP hS hL rfl rfl rfl
    · refine lv_if_lt hx hb hd ht (fun q => ?_) (fun q => ?_)
      · (try dsimp only at h)
        rw [if_pos (by simpa [im_cmp] using q)] at h
        obtain ⟨-, rfl⟩ := im_go_inv h
        exact kk H locs lsC cells slots hP hS hL rfl rfl rfl
      · (try dsimp only at h)
        rw [if_neg (by simpa [im_cmp] using q)] at h
        obtain ⟨-, rfl⟩ := im_go_inv h
        exact kk H locs lsC cells slots hP hS hL rfl rfl rfl
    · refine lv_if_ge hx hb hd ht (fun q => ?_) (fun q => ?_)
      · (try dsimp only at h)
        rw [if_pos (by simpa [im_cmp] using q)] at h
        obtain ⟨-, rfl⟩ := im_go_inv h
        exact kk H locs lsC cells slots hP hS hL rfl rfl rfl
      · (try dsimp only at h)
        rw [if_neg (by simpa [im_cmp] using q)] at h
        obtain ⟨-, rfl⟩ := im_go_inv h
        exact kk H locs lsC cells slots hP hS hL rfl rfl rfl
    · refine lv_if_gt hx hb hd ht (fun q => ?_) (fun q => ?_)
      · (try dsimp only at h)
        rw [if_pos (by simpa [im_cmp] using q)] at h
        obtain ⟨-, rfl⟩ := im_go_inv h
        exact kk H locs lsC cells slots hP hS hL rfl rfl rfl
      · (try dsimp only at h)
        rw [if_neg (by simpa [im_cmp] using q)] at h
        obtain ⟨-, rfl⟩ := im_go_inv h
        exact kk H locs lsC cells slots hP hS hL rfl rfl rfl
    · refine lv_if_le hx hb hd ht (fun q => ?_) (fun q => ?_)
      · (try dsimp only at h)
        rw [if_pos (by simpa [im_cmp] using q)] at h
        obtain ⟨-, rfl⟩ := im_go_inv h
        exact kk H locs lsC cells slots hP hS hL rfl rfl rfl
      · (try dsimp only at h)
        rw [if_neg (by simpa [im_cmp] using q)] at h
        obtain ⟨-, rfl⟩ := im_go_inv h
        exact kk H locs lsC cells slots hP hS hL rfl rfl rfl
  case if_icmp c off =>
    dsimp only [im_in] at h
    obtain ⟨x, y, r, rfl, h2⟩ := im_i2_inv h
    replace h := h2
    obtain ⟨t, ht, h⟩ := im_jmp_inv h
    have k3 : len = 3 := by
      (try dsimp only at h)
      split at h
      · obtain ⟨hl, -⟩ := im_go_inv h; simpa using hl
      · obtain ⟨hl, -⟩ := im_go_inv h; simpa using hl
    subst k3
    cases c
    · refine lv_icmp_eq hx hb hd ht (fun q => ?_) (fun q => ?_)
      · (try dsimp only at h)
        rw [if_pos (by simpa [im_cmp] using q)] at h
        obtain ⟨-, rfl⟩ := im_go_inv h
        exact kk H locs lsC cells slots hP hS hL rfl rfl rfl
      · (try dsimp only at h)
        rw [if_neg (by simpa [im_cmp] using q)] at h
        obtain ⟨-, rfl⟩ := im_go_inv h
        exact kk H locs lsC cells slots hP hS hL rfl rfl rfl
    · refine lv_icmp_ne hx hb hd ht (fun q => ?_) (fun q => ?_)
      · (try dsimp only at h)
        rw [if_pos (by simpa [im_cmp] using q)] at h
        obtain ⟨-, rfl⟩ := im_go_inv h
        exact kk H locs lsC cells slots hP hS hL rfl rfl rfl
      · (try dsimp only at h)
        rw [if_neg (by simpa [im_cmp] using q)] at h
        obtain ⟨-, rfl⟩ := im_go_inv h
        exact kk H locs lsC cells slots hP hS hL rfl rfl rfl
    · refine lv_icmp_lt hx hb hd ht (fun q => ?_) (fun q => ?_)
      · (try dsimp only at h)
        rw [if_pos (by simpa [im_cmp] using q)] at h
        obtain ⟨-, rfl⟩ := im_go_inv h
        exact kk H locs lsC cells slots hP hS hL rfl rfl rfl
      · (try dsimp only at h)
        rw [if_neg (by simpa [im_cmp] using q)] at h
        obtain ⟨-, rfl⟩ := im_go_inv h
        exact kk H locs lsC cells slots hP hS hL rfl rfl rfl
    · refine lv_icmp_ge hx hb hd ht (fun q => ?_) (fun q => ?_)
      · (try dsimp only at h)
        rw [if_pos (by simpa [im_cmp] using q)] at h
        obtain ⟨-, rfl⟩ := im_go_inv h
        exact kk H locs lsC cells slots hP hS hL rfl rfl rfl
      · (try dsimp only at h)
        rw [if_neg (by simpa [im_cmp] using q)] at h
        obtain ⟨-, rfl⟩ := im_go_inv h
        exact kk H locs lsC cells slots hP hS hL rfl rfl rfl
    · refine lv_icmp_gt hx hb hd ht (fun q => ?_) (fun q => ?_)
      · (try dsimp only at h)
        rw [if_pos (by simpa [im_cmp] using q)] at h
        obtain ⟨-, rfl⟩ := im_go_inv h
        exact kk H locs lsC cells slots hP hS hL rfl rfl rfl
      · (try dsimp only at h)
        rw [if_neg (by simpa [im_cmp] using q)] at h
        obtain ⟨-, rfl⟩ := im_go_inv h
        exact kk H locs lsC cells slots hP hS hL rfl rfl rfl
    · refine lv_icmp_le hx hb hd ht (fun q => ?_) (fun q => ?_)
      · (try dsimp only at h)
        rw [if_pos (by simpa [im_cmp] using q)] at h
        obtain ⟨-, rfl⟩ := im_go_inv h
        exact kk H locs lsC cells slots hP hS hL rfl rfl rfl
      · (try dsimp only at h)
        rw [if_neg (by simpa [im_cmp] using q)] at h
        obtain ⟨-, rfl⟩ := im_go_inv h
        exact kk H locs lsC cells slots hP hS hL rfl rfl rfl
  case ifnull off =>
    dsimp only [im_in] at h
    obtain ⟨v, r, rfl, hv, h2⟩ := im_a1_inv h
    replace h := h2
    obtain ⟨t, ht, h⟩ := im_jmp_inv h
    rcases hv with rfl | ⟨a, rfl⟩
    · obtain ⟨hl, rfl⟩ := im_go_inv h
      obtain rfl : len = 3 := by simpa using hl
      exact lv_ifnullN hx hb hd ht (kk H locs lsC cells slots hP hS hL rfl rfl rfl)
    · obtain ⟨hl, rfl⟩ := im_go_inv h
      obtain rfl : len = 3 := by simpa using hl
      exact lv_ifnull hx hb hd (kk H locs lsC cells slots hP hS hL rfl rfl rfl)
  case ifnonnull off =>
    dsimp only [im_in] at h
    obtain ⟨v, r, rfl, hv, h2⟩ := im_a1_inv h
    replace h := h2
    obtain ⟨t, ht, h⟩ := im_jmp_inv h
    rcases hv with rfl | ⟨a, rfl⟩
    · obtain ⟨hl, rfl⟩ := im_go_inv h
      obtain rfl : len = 3 := by simpa using hl
      exact lv_ifnonnullN hx hb hd (kk H locs lsC cells slots hP hS hL rfl rfl rfl)
    · obtain ⟨hl, rfl⟩ := im_go_inv h
      obtain rfl : len = 3 := by simpa using hl
      exact lv_ifnonnull hx hb hd ht (kk H locs lsC cells slots hP hS hL rfl rfl rfl)
  case goto off =>
    dsimp only [im_in] at h
    obtain ⟨t, ht, h⟩ := im_jmp_inv h
    obtain ⟨hl, rfl⟩ := im_go_inv h
    obtain rfl : len = 3 := by simpa using hl
    exact lv_goto hx hb hd ht (kk H locs lsC cells slots hP hS hL rfl rfl rfl)
  case tableswitch d lo hi offs =>
    dsimp only [im_in] at h
    obtain ⟨x, r, rfl, h2⟩ := im_i1_inv h
    replace h := h2
    (try dsimp only at h)
    split at h
    · rename_i hq
      obtain ⟨t, ht, h⟩ := im_jmp_inv h
      obtain ⟨-, rfl⟩ := im_go_inv h
      exact lv_tableOut hx hb hd hq ht (kk H locs lsC cells slots hP hS hL rfl rfl rfl)
    · rename_i hq
      split at h
      · rename_i off ho
        obtain ⟨t, ht, h⟩ := im_jmp_inv h
        obtain ⟨-, rfl⟩ := im_go_inv h
        exact lv_tableIn hx hb hd (fun z => hq (Or.inl z)) (fun z => hq (Or.inr z)) ho ht (kk H locs lsC cells slots hP hS hL rfl rfl rfl)
      · cases h
  case lookupswitch d ps =>
    dsimp only [im_in] at h
    obtain ⟨x, r, rfl, h2⟩ := im_i1_inv h
    replace h := h2
    (try dsimp only at h)
    split at h
    · rename_i hq
      obtain ⟨t, ht, h⟩ := im_jmp_inv h
      obtain ⟨-, rfl⟩ := im_go_inv h
      exact lv_lookup hx hb hd hq rfl ht (kk H locs lsC cells slots hP hS hL rfl rfl rfl)
    · cases h
  case getfield x =>
    dsimp only [im_in, im_getf] at h
    split at h
    · rename_i a r
      split at h
      · rename_i ho
        split at h
        · rename_i hq
          obtain ⟨rfl, h1, h2⟩ := hq
          obtain ⟨hl, rfl⟩ := im_go_inv h
          obtain rfl : len = 3 := by simpa using hl
          exact im_strW hC hS ho h1 h2 hd (kk H locs lsC cells slots hP hS hL rfl rfl rfl)
        · split at h
          · rename_i hq
            obtain ⟨rfl, h1, h2⟩ := hq
            obtain ⟨hl, rfl⟩ := im_go_inv h
            obtain rfl : len = 3 := by simpa using hl
            exact im_strW2 hC hS ho h1 h2 hd (kk H locs lsC cells slots hP hS hL rfl rfl rfl)
          · cases h
      · split at h
        · rename_i ci k b hf
          obtain ⟨hl, rfl⟩ := im_go_inv h
          simp only [Bool.and_eq_true, beq_iff_eq] at hl
          obtain ⟨rfl, ho⟩ := hl
          exact im_getW hC hP hf ho hd (kk H locs lsC cells slots hP hS hL rfl rfl rfl)
        · cases h
    · cases h
  case putfield x =>
    dsimp only [im_in, im_putf] at h
    split at h
    · rename_i v a r
      split at h
      · rename_i ci k b hf
        obtain ⟨hl, rfl⟩ := im_go_inv h
        rw [Bool.and_eq_true, Bool.and_eq_true, Bool.and_eq_true, beq_iff_eq] at hl
        obtain ⟨⟨⟨rfl, ho⟩, hv⟩, hf2⟩ := hl
        exact im_putW hC hP hS hf ho hv hf2 hd (fun H1 locs1 hP1 hS1 => kk H1 locs1 lsC cells slots hP1 hS1 hL rfl rfl rfl)
      · cases h
    · cases h
  case getstatic x =>
    dsimp only [im_in] at h
    split at h
    · rename_i hq
      obtain ⟨hl, rfl⟩ := im_go_inv h
      obtain rfl : len = 3 := by simpa using hl
      exact im_gsW hC hS hq (by omega) hd (kk H locs lsC cells slots hP hS hL rfl rfl rfl)
    · rename_i hq
      obtain ⟨hl, rfl⟩ := im_go_inv h
      obtain rfl : len = 3 := by simpa using hl
      exact im_gsW hC hS hq (by omega) hd (kk H locs lsC cells slots hP hS hL rfl rfl rfl)
    · rename_i hq
      obtain ⟨hl, rfl⟩ := im_go_inv h
      obtain rfl : len = 3 := by simpa using hl
      exact im_gsW2 hC hS hq hd (kk H locs lsC cells slots hP hS hL rfl rfl rfl)
    · cases h
  case iaload =>
    dsimp only [im_in, im_ald] at h
    split at h
    · rename_i j a r
      split at h
      · obtain ⟨hl, rfl⟩ := im_go_inv h
        simp only [Bool.and_eq_true, beq_iff_eq] at hl
        obtain ⟨rfl, ho⟩ := hl
        exact im_ialdW hC hP ho hd (kk H locs lsC cells slots hP hS hL rfl rfl rfl)
      · split at h
        · rename_i y hy
          obtain ⟨hl, rfl⟩ := im_go_inv h
          obtain rfl : len = 1 := by simpa using hl
          exact im_roAW hC hS hy hd (kk H locs lsC cells slots hP hS hL rfl rfl rfl)
        · cases h
    · cases h
  case baload =>
    dsimp only [im_in, im_ald] at h
    split at h
    · rename_i j a r
      split at h
      · rename_i hq; exact absurd hq.1 (by omega)
      · split at h
        · rename_i y hy
          obtain ⟨hl, rfl⟩ := im_go_inv h
          obtain rfl : len = 1 := by simpa using hl
          exact im_robW hC hS hy hd (kk H locs lsC cells slots hP hS hL rfl rfl rfl)
        · cases h
    · cases h
  case iastore =>
    dsimp only [im_in] at h
    split at h
    · rename_i y j a r
      obtain ⟨hl, rfl⟩ := im_go_inv h
      simp only [Bool.and_eq_true, beq_iff_eq] at hl
      obtain ⟨rfl, ho⟩ := hl
      exact im_iastW hC hP hS ho hd (fun H1 locs1 hP1 hS1 => kk H1 locs1 lsC cells slots hP1 hS1 hL rfl rfl rfl)
    · cases h
  case aaload =>
    dsimp only [im_in] at h
    split at h
    · rename_i j a r
      obtain ⟨hl, rfl⟩ := im_go_inv h
      rw [Bool.and_eq_true, beq_iff_eq] at hl
      obtain ⟨rfl, ho⟩ := hl
      exact im_aaldW hC hP ho hd (kk H locs lsC cells slots hP hS hL rfl rfl rfl)
    · cases h
  case aastore =>
    dsimp only [im_in] at h
    split at h
    · rename_i v j a r
      obtain ⟨hl, rfl⟩ := im_go_inv h
      rw [Bool.and_eq_true, Bool.and_eq_true, beq_iff_eq, decide_eq_true_eq] at hl
      obtain ⟨⟨rfl, hv⟩, ho⟩ := hl
      exact im_aastW hC hP hS hv ho hd (fun H1 locs1 hP1 hS1 => kk H1 locs1 lsC cells slots hP1 hS1 hL rfl rfl rfl)
    · cases h
  case arraylength =>
    dsimp only [im_in, im_alen] at h
    split at h
    · rename_i a r
      split at h
      · obtain ⟨hl, rfl⟩ := im_go_inv h
        simp only [Bool.and_eq_true, beq_iff_eq, decide_eq_true_eq] at hl
        obtain ⟨⟨⟨⟨rfl, ha⟩, -⟩, h1⟩, h2⟩ := hl
        exact im_alenW hC hP ha h1 h2 hd (kk H locs lsC cells slots hP hS hL rfl rfl rfl)
      · rename_i hle
        split at h
        · rename_i q n f hro
          obtain ⟨hl, rfl⟩ := im_go_inv h
          obtain rfl : len = 1 := by simpa using hl
          exact im_roL hC hS (Nat.le_of_not_lt hle) hro hd (kk H locs lsC cells slots hP hS hL rfl rfl rfl)
        · cases h
    · cases h
  case new x =>
    dsimp only [im_in] at h
    split at h
    · rename_i ci hf
      obtain ⟨hl, rfl⟩ := im_go_inv h
      simp only [Bool.and_eq_true, beq_iff_eq, decide_eq_true_eq] at hl
      obtain ⟨⟨rfl, hM⟩, -⟩ := hl
      have e0 : im_ad g M.1 = g.1 + M.1 := by unfold im_ad; rw [if_pos hM]
      simp only [im_new] at hcells hslots
      refine im_newW hC hP hS hf hM hd (by omega) (by omega) (fun H1 hP1 hS1 => ?_)
      rw [← e0]
      exact kk H1 locs lsC _ _ hP1 hS1 hL rfl (by simp only [im_new]; omega) (by simp only [im_new]; omega)
    · cases h
  case newarray t =>
    dsimp only [im_in] at h
    cases t
    case int =>
      obtain ⟨n, r, rfl, h2⟩ := im_i1_inv h
      replace h := h2
      obtain ⟨hl, rfl⟩ := im_go_inv h
      simp only [Bool.and_eq_true, beq_iff_eq, decide_eq_true_eq, Bool.not_eq_true', decide_eq_false_iff_not] at hl
      obtain ⟨⟨⟨rfl, hM⟩, h0⟩, hn⟩ := hl
      have e0 : im_ad g M.1 = g.1 + M.1 := by unfold im_ad; rw [if_pos hM]
      simp only [im_new] at hcells hslots
      refine im_newaW hC hP hS hM h0 hn hd (by omega) (by omega) (fun H1 hP1 hS1 => ?_)
      rw [← e0]
      exact kk H1 locs lsC _ _ hP1 hS1 hL rfl (by simp only [im_new]; omega) (by simp only [im_new]; omega)
    all_goals cases h
  case anewarray x =>
    dsimp only [im_in] at h
    split at h
    · rename_i ci hf
      obtain ⟨n, r, rfl, h2⟩ := im_i1_inv h
      replace h := h2
      obtain ⟨hl, rfl⟩ := im_go_inv h
      simp only [Bool.and_eq_true, beq_iff_eq, decide_eq_true_eq, Bool.not_eq_true', decide_eq_false_iff_not, Bool.or_eq_true] at hl
      obtain ⟨⟨⟨⟨rfl, hM⟩, hci⟩, h0⟩, hn⟩ := hl
      have e0 : im_ad g M.1 = g.1 + M.1 := by unfold im_ad; rw [if_pos hM]
      simp only [im_new] at hcells hslots
      rcases hci with rfl | rfl
      · refine im_anewW hC hP hS (kd := 12) hf (by omega) rfl hE.2.2.2.2.2.2.2.2.1 hM h0 hn hd (by omega) (by omega) (fun H1 hP1 hS1 => ?_)
        rw [← e0]
        exact kk H1 locs lsC _ _ hP1 hS1 hL rfl (by simp only [im_new]; omega) (by simp only [im_new]; omega)
      · refine im_anewW hC hP hS (kd := 13) hf (by omega) rfl hE.2.2.2.2.2.2.2.2.2 hM h0 hn hd (by omega) (by omega) (fun H1 hP1 hS1 => ?_)
        rw [← e0]
        exact kk H1 locs lsC _ _ hP1 hS1 hL rfl (by simp only [im_new]; omega) (by simp only [im_new]; omega)
    · cases h
  case invokestatic x =>
    dsimp only [im_in, im_call] at h
    split at h
    · rename_i hl3
      subst hl3
      split at h
      · cases h
      · rename_i k j n hf
        split at h
        · split at h <;> cases h
        · split at h
          · rename_i hk6
            subst hk6
            split at h
            · rename_i n dp b sp a r
              split at h
              · rename_i hq
                obtain ⟨h1, h2, h3, h4, h5, h6, h7, h8, h9, h10, h11⟩ := hq
                cases h
                exact im_copyW hC (by rw [hml, hL.1, hlen]) hP hS ((im_lkW hf).1 _ (by simp [im_lkw])) h3 h4 h5 h6 h7 h8 h9 h10 h11 (by unfold im_csum at h1 ⊢; simpa [Function.comp_def, im_v_cat] using h1) hfr hlo hd (fun H1 locs1 hP1 hS1 => kk H1 locs1 lsC cells slots hP1 hS1 hL rfl rfl rfl)
              · cases h
            · cases h
          · cases h
    · cases h
  case invokevirtual x =>
    dsimp only [im_in, im_vcall] at h
    exfalso
    (repeat' (split at h)) <;> simp at h
  case invokespecial x =>
    dsimp only [im_in, im_scall] at h
    exfalso
    (repeat' (split at h)) <;> simp at h
  case ireturn =>
    dsimp only [im_in, im_ret1] at h
    exfalso
    (repeat' (split at h)) <;> simp at h
  case areturn =>
    dsimp only [im_in, im_reta] at h
    exfalso
    (repeat' (split at h)) <;> simp at h
  case lreturn =>
    dsimp only [im_in] at h
    exfalso
    (repeat' (split at h)) <;> simp at h
  case return_ =>
    dsimp only [im_in] at h
    exfalso
    (repeat' (split at h)) <;> simp at h
  all_goals (simp [im_in] at h)
end IMS
