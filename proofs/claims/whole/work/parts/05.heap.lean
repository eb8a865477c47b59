/-! EACH STEP OF THE ABSTRACT MACHINE IS A STEP OF THE MACHINE: cells -/
def im_Ctx (X : im_E) (g : im_G) (i : Nat) (p : Program) (s : State) (m : MethodId) (args : Array Value) (meth : Method) (cd : Code) : Prop :=
  p.tables.exec = Jvm.exec ∧ cd.code = im_cc i ∧ meth.sig.returnType = im_rt i ∧ cd.maxLocals = im_ml i ∧ s.vm.findClass (im_cn (im_ow i)) = some m.cls ∧ meth.locks = false ∧ ((im_y i).name = "<init>" → meth.name = "<init>") ∧ (∀ w ∈ im_W, w.before args s = true) ∧ im_Env X g s s.heap ∧ g.1 ≤ s.heap.size
section IMH
variable {p : Program} {l : Launch} {e : Env} {R : Room} {s : State} {m : MethodId} {args : Array Value} {below : List Frame} {meth : Method} {cd : Code} {H : Heap} {locs : List Loc} {cells slots : Nat} {Q : State → Prop} {lsC : Array Slot} {X : im_E} {g : im_G} {i pc : Nat} {M : im_M} {rest : List Value}
theorem im_obj_of {a ci k : Nat} (h : im_obj M a ci k = true) : a < M.1 ∧ (M.2.2.1 a).1 = ci ∧ k < (M.2.2.1 a).2 := by
  simp only [im_obj, Bool.and_eq_true, decide_eq_true_eq, beq_iff_eq] at h
  exact ⟨h.1.1.1, h.1.2, h.2⟩
theorem im_arr_of {a kd : Nat} {j : Int32} (h : im_arr M a kd j = true) : a < M.1 ∧ (M.2.2.1 a).1 = kd ∧ ¬ j < 0 ∧ j.toNatClampNeg < (M.2.2.1 a).2 := by
  simp only [im_arr, Bool.and_eq_true, decide_eq_true_eq, beq_iff_eq, Bool.not_eq_true', decide_eq_false_iff_not] at h
  exact ⟨h.1.1.1.1, h.1.1.2, h.1.2, h.2⟩
theorem im_vin {j : Int32} {n : Nat} (h1 : ¬ j < 0) (h2 : j.toNatClampNeg < n) : vp_in j n := fun q => q.elim h1 (fun q => by omega)
theorem im_getW (hC : im_Ctx X g i p s m args meth cd) (hP : im_P g M H) {a ci k x : Nat} {b : Bool} (hf : im_fl (im_ow i) x = some (ci, k, b)) (ho : im_obj M a ci k = true) (hd : decode (im_cc i) pc = .ok (.getfield x, 3))
    (kk : W p l e R s m args below meth cd H locs cells slots Q (F0 m (pc + 3) lsC (im_v g (M.2.2.2 a k) :: rest))) : W p l e R s m args below meth cd H locs cells slots Q (F0 m pc lsC (.ref (im_ad g a) :: rest)) := by
  obtain ⟨hx, hb, -, -, hown, -, -, hts, hE, -⟩ := hC
  obtain ⟨h1, h2, h3, h4⟩ := im_flW hf
  obtain ⟨ha, hk, hn⟩ := im_obj_of ho
  have hP1 := hP.at ha
  rw [im_cell_obj (by omega)] at hP1
  rw [im_ad_lt hP ha]
  refine va_get (D := g.2.2.1) (cl := vwCl) (C := im_cn ci) (T := im_T ci) (N := im_szs.getD ci 0) (ci := ci) hx hb hts (im_clW ci h2) hown hE.1 hP1 0 (fs := (List.range (M.2.2.1 a).2).map fun i => im_v g (M.2.2.2 a i)) (by rw [hk]; rfl) (im_cls ci h2) k h3 (hts _ h1) (fun y hy => by rw [im_ownW ci h2 k h3] at hy; exact hy) ?_ hd kk
  simp [hn]
theorem im_putv_of {ty : FieldType} {v : Value} (h : im_putv ty v = true) : narrow ty (im_v g v) = im_v g v ∧ fits ty (im_v g v) = true := by
  cases v with
  | int x => simp only [im_putv, Bool.and_eq_true, beq_iff_eq] at h; exact h
  | ref a => simp only [im_putv] at h; cases ty <;> simp_all [fits, narrow, im_v]
  | null => simp only [im_putv] at h; cases ty <;> simp_all [fits, narrow, im_v]
  | _ => simp [im_putv] at h
theorem im_fs_set (g : im_G) (μ : Nat → Nat → Value) (a k n : Nat) (v : Value) : (List.range n).map (fun i => im_v g (im_up μ a k v a i)) = ((List.range n).map (fun i => im_v g (μ a i))).set k (im_v g v) := by
  apply List.ext_getElem?
  intro j
  by_cases hj : j = k
  · subst hj
    by_cases hl : j < n
    · rw [List.getElem?_set_self (by simpa using hl)]
      simp [hl, im_up]
    · rw [List.getElem?_eq_none (by simp; omega), List.getElem?_eq_none (by simp; omega)]
  · rw [List.getElem?_set_ne (Ne.symm hj)]
    by_cases hl : j < n
    · simp [List.getElem?_map, List.getElem?_range hl, im_up, hj]
    · rw [List.getElem?_eq_none (by simp; omega), List.getElem?_eq_none (by simp; omega)]
theorem im_up_ne {μ : Nat → Nat → Value} {a k : Nat} {v : Value} {j : Nat} (h : j ≠ a) (i : Nat) : im_up μ a k v j i = μ j i := by simp [im_up, h]
theorem im_putW (hC : im_Ctx X g i p s m args meth cd) (hP : im_P g M H) (hS : va_S (im_A g) s.heap H locs) {a ci k x : Nat} {b : Bool} {v : Value} (hf : im_fl (im_ow i) x = some (ci, k, b)) (ho : im_obj M a ci k = true) (hv : im_putv (im_ty ci k) v = true) (hfin : (!b || ((im_y i).name == "<init>" && im_ow i == ci)) = true) (hd : decode (im_cc i) pc = .ok (.putfield x, 3))
    (kk : ∀ (H1 : Heap) (locs1 : List Loc), im_P g (im_set M a k v) H1 → va_S (im_A g) s.heap H1 locs1 → W p l e R s m args below meth cd H1 locs1 cells slots Q (F0 m (pc + 3) lsC rest)) : W p l e R s m args below meth cd H locs cells slots Q (F0 m pc lsC (im_v g v :: .ref (im_ad g a) :: rest)) := by
  obtain ⟨hx, hb, -, -, hown, -, hnm, hts, hE, -⟩ := hC
  obtain ⟨h1, h2, h3, h4⟩ := im_flW hf
  obtain ⟨ha, hk, hn⟩ := im_obj_of ho
  obtain ⟨hnar, hfit⟩ := im_putv_of (g := g) hv
  have hK := hE.1
  have hap := va_apart (own := im_cn (im_ow i)) hts (im_clW ci h2) (im_ty ci) (im_tyW ci h2) (im_nmW ci h2) hK (im_cls ci h2)
  have hz := (hP.2.2 a ha).1 (by omega)
  have hat := (hP.2.2 a ha).2
  rw [im_cell_obj (by omega)] at hat
  rw [im_ad_lt hP ha]
  obtain ⟨r, hr, cell, q1, q2, q3, q4⟩ := hat
  have hr' : r = (im_cn ci, im_T ci, im_szs.getD ci 0) := by
    have hr2 : vwCl[(M.2.2.1 a).1]? = some r := hr
    rw [hk] at hr2
    exact Option.some.inj (hr2.symm.trans (im_cls ci h2))
  subst hr'
  dsimp only at q2 q4
  rw [hk] at q2 q4
  obtain ⟨hSl, hfc, kC, hkC, hkind⟩ := hK.1 ci _ (im_cls ci h2)
  obtain ⟨cf, kf, fi, f, hi, hsl⟩ := hSl k h3
  have hlay := hts _ (im_clW ci h2 _ (u_in_lay h3))
  unfold u_lay at hlay
  have hst := (u_facts hfc hkC (u_lays hts (im_clW ci h2) h3) hi).1
  have hsame : ∀ y, s.fieldFound? (im_T ci k).1 (im_T ci k).2.1 (im_T ci k).2.2.1 = some y → s.fieldFound? (im_cn ci) (im_T ci k).2.1 (im_T ci k).2.2.1 = some y := fun y hy => by rw [im_ownW ci h2 k h3] at hy; exact hy
  have hA : im_A g (g.1 + a) := Nat.le_add_right _ _
  have fin : ∀ (H1 : Heap), H1[g.1 + a]? = some (cell.setSlot f.slot (im_v g v)) → H1.size = H.size → (∀ q, q ≠ g.1 + a → H1[q]? = H[q]?) → im_P g (im_set M a k v) H1 := by
    intro H1 e1 e2 e3
    rw [hsl] at e1
    refine hP.set ha e2 e3 (fun j _ hj i => im_up_ne hj i) ?_
    rw [im_cell_obj (by omega), im_fs_set]
    refine ⟨_, by show vwCl[(M.2.2.1 a).1]? = _; rw [hk]; exact im_cls ci h2, ?_⟩
    dsimp only
    rw [hk]
    exact t_OB.to (V := updV (vp_V ((List.range (M.2.2.1 a).2).map fun i => im_v g (M.2.2.2 a i))) k (im_v g v)) ⟨_, e1, q2, q3, t_set q4 hap h3 (im_v g v)⟩ (fun j _ => vp_updV_set (by simpa using hn) (im_v g v) j)
  cases b with
  | false =>
    rw [if_neg (by rw [h4]; decide)] at hlay
    have h6 := u_store hfc hkC hkind hlay hi (im_tyW ci h2 k h3) hnar hfit
    refine W.putK hx hb (f := f) ⟨hown, hts _ h1, ⟨_, _, _, hsame _ hi⟩, hst⟩ (by rw [q2]; exact h6) q1 q3 (by rw [hsl]; exact k2_hasslot (q4 k h3)) rfl rfl hd fun H1 e1 e2 e3 => ?_
    exact kk H1 _ (fin H1 e1 e2 e3) (hS.put e2 e3 hA)
  | true =>
    rw [if_pos h4] at hlay
    simp only [Bool.not_true, Bool.false_or, Bool.and_eq_true, beq_iff_eq] at hfin
    have hcf : m.cls = cf := by
      obtain ⟨_, _, c', _, _, _, -, -, hf', -, -, -, hown2, -⟩ := Cond.laysFinal_spec hlay
      have e1 : c' = cf := by have := hi.symm.trans hf'; simp at this; exact this.1.symm
      rw [im_ownW ci h2 k h3, ← hfin.2] at hown2
      rw [← e1]; exact Option.some.inj (hown.symm.trans hown2)
    have h6 := u_fits hfc hkC hkind (Or.inr hlay) hi (im_tyW ci h2 k h3) hnar hfit
    refine W.putFinK hx hb hown (hts _ h1) (hsame _ hi) hst hcf (hnm hfin.1) (by rw [q2]; exact h6) q1 q3 (by rw [hsl]; exact k2_hasslot (q4 k h3)) rfl rfl hd fun H1 e1 e2 e3 => ?_
    exact kk H1 _ (fin H1 e1 e2 e3) (hS.put e2 e3 hA)
theorem im_ialdW (hC : im_Ctx X g i p s m args meth cd) (hP : im_P g M H) {a : Nat} {j : Int32} (ho : im_arr M a 11 j = true) (hd : decode (im_cc i) pc = .ok (.iaload, 1))
    (kk : W p l e R s m args below meth cd H locs cells slots Q (F0 m (pc + 1) lsC (.int (im_int (M.2.2.2 a j.toNatClampNeg)) :: rest))) : W p l e R s m args below meth cd H locs cells slots Q (F0 m pc lsC (.int j :: .ref (im_ad g a) :: rest)) := by
  obtain ⟨hx, hb, -, -, hown, -, -, hts, hE, -⟩ := hC
  obtain ⟨ha, hk, h0, hn⟩ := im_arr_of ho
  have hP1 := hP.at ha
  rw [im_cell_int hk] at hP1
  rw [im_ad_lt hP ha]
  exact va_iald (f := fun i => im_int (M.2.2.2 a i)) hx hb hE.1 hP1 0 0 rfl rfl (im_vin h0 hn) hd kk
theorem im_iastW (hC : im_Ctx X g i p s m args meth cd) (hP : im_P g M H) (hS : va_S (im_A g) s.heap H locs) {a : Nat} {j y : Int32} (ho : im_arr M a 11 j = true) (hd : decode (im_cc i) pc = .ok (.iastore, 1))
    (kk : ∀ (H1 : Heap) (locs1 : List Loc), im_P g (im_set M a j.toNatClampNeg (.int y)) H1 → va_S (im_A g) s.heap H1 locs1 → W p l e R s m args below meth cd H1 locs1 cells slots Q (F0 m (pc + 1) lsC rest)) : W p l e R s m args below meth cd H locs cells slots Q (F0 m pc lsC (.int y :: .int j :: .ref (im_ad g a) :: rest)) := by
  obtain ⟨hx, hb, -, -, hown, -, -, hts, hE, -⟩ := hC
  obtain ⟨ha, hk, h0, hn⟩ := im_arr_of ho
  have hat := (hP.2.2 a ha).2
  rw [im_cell_int hk] at hat
  rw [im_ad_lt hP ha]
  have hcell : H[g.1 + a]? = some (arrV (g.2.2.2 0) (M.2.2.1 a).2 (fun i => .int (im_int (M.2.2.2 a i)))) := hat
  refine W.iast hx hb hcell ((hE.1.2 0 _ rfl).1 _ _) (fun q => by cases q) (by rw [arrV_size]; exact im_vin h0 hn) rfl rfl hd fun H1 e1 e2 e3 => ?_
  refine kk H1 _ (hP.set ha e2 e3 (fun q _ hq i => im_up_ne hq i) ?_) (hS.put e2 e3 (Nat.le_add_right _ _))
  rw [im_cell_int hk]
  show H1[g.1 + a]? = some (vp_cell _ _)
  rw [e1, vp_cell_i, arrV_store]
  congr 2
  funext q
  by_cases hq : q = j.toNatClampNeg
  · subst hq; simp [updV, im_up, im_int]
  · simp [updV, im_up, hq]
theorem im_opt_rf (g : im_G) (v : Value) : va_rf (im_opt g v) = im_v g (im_rf v) := by cases v <;> rfl
theorem im_aaldW (hC : im_Ctx X g i p s m args meth cd) (hP : im_P g M H) {a : Nat} {j : Int32} (ho : (im_arr M a 12 j || im_arr M a 13 j) = true) (hd : decode (im_cc i) pc = .ok (.aaload, 1))
    (kk : W p l e R s m args below meth cd H locs cells slots Q (F0 m (pc + 1) lsC (im_v g (im_rf (M.2.2.2 a j.toNatClampNeg)) :: rest))) : W p l e R s m args below meth cd H locs cells slots Q (F0 m pc lsC (.int j :: .ref (im_ad g a) :: rest)) := by
  obtain ⟨hx, hb, -, -, hown, -, -, hts, hE, -⟩ := hC
  rw [Bool.or_eq_true] at ho
  rw [← im_opt_rf] at kk
  rcases ho with ho | ho
  · obtain ⟨ha, hk, h0, hn⟩ := im_arr_of ho
    have hP1 := hP.at ha
    rw [im_cell_ref (by omega)] at hP1
    rw [im_ad_lt hP ha]
    exact va_aldq (f := fun i => im_opt g (M.2.2.2 a i)) hx hb hE.1 hP1 0 1 (by rw [hk]; rfl) rfl (im_vin h0 hn) hd kk
  · obtain ⟨ha, hk, h0, hn⟩ := im_arr_of ho
    have hP1 := hP.at ha
    rw [im_cell_ref (by omega)] at hP1
    rw [im_ad_lt hP ha]
    exact va_aldq (f := fun i => im_opt g (M.2.2.2 a i)) hx hb hE.1 hP1 0 2 (by rw [hk]; rfl) rfl (im_vin h0 hn) hd kk
theorem im_aastW0 (hC : im_Ctx X g i p s m args meth cd) (hP : im_P g M H) (hS : va_S (im_A g) s.heap H locs) {a v kd ci : Nat} {j : Int32} (hkd : 11 < kd) (ht : [(g.2.2.2 0, FieldType.int), (g.2.2.2 1, .object RX0), (g.2.2.2 2, .object RX4)][kd - 11]? = some (g.2.2.2 (kd - 11), .object (im_cn ci))) (hci : ci < 11) (ho : im_arr M a kd j = true) (hv : v < M.1) (hvk : (M.2.2.1 v).1 = ci) (hd : decode (im_cc i) pc = .ok (.aastore, 1))
    (kk : ∀ (H1 : Heap) (locs1 : List Loc), im_P g (im_set M a j.toNatClampNeg (.ref v)) H1 → va_S (im_A g) s.heap H1 locs1 → W p l e R s m args below meth cd H1 locs1 cells slots Q (F0 m (pc + 1) lsC rest)) : W p l e R s m args below meth cd H locs cells slots Q (F0 m pc lsC (.ref (im_ad g v) :: .int j :: .ref (im_ad g a) :: rest)) := by
  obtain ⟨hx, hb, -, -, hown, -, -, hts, hE, -⟩ := hC
  obtain ⟨ha, hk, h0, hn⟩ := im_arr_of ho
  have hat := (hP.2.2 a ha).2
  rw [im_cell_ref (by omega)] at hat
  have hav := (hP.2.2 v hv).2
  rw [im_cell_obj (by omega)] at hav
  rw [im_ad_lt hP ha, im_ad_lt hP hv]
  obtain ⟨r, hr, cellV, g1, g2, g3, -⟩ := hav
  dsimp only at g2
  rw [hvk] at g2
  have hcls := (hE.1.1 ci _ (im_cls ci hci)).2
  obtain ⟨kA, comp, k1, k2, k3, -⟩ := (hE.1.2 _ _ ht).2
  have hcomp : comp = g.2.2.1.1 ci := Option.some.inj (k3.symm.trans hcls.1)
  subst hcomp
  obtain ⟨kC, hkC, -⟩ := hcls.2
  have hcell : H[g.1 + a]? = some (arrV (g.2.2.2 (kd - 11)) (M.2.2.1 a).2 (fun i => va_rf (im_opt g (M.2.2.2 a i)))) := by rw [← hk]; exact hat
  refine W.aast hx hb hcell (fun q h => by cases h) (fun h => by cases h) k1 k2 rfl hkC ⟨h0, by rw [arrV_size]; exact hn⟩ g1 (fun q h => by rw [g3] at h; cases h) (by rw [g2]; exact hkC) (by rw [g2]; exact va_assign hcls) rfl rfl hd fun H1 e1 e2 e3 => ?_
  refine kk H1 _ (hP.set ha e2 e3 (fun q _ hq i => im_up_ne hq i) ?_) (hS.put e2 e3 (Nat.le_add_right _ _))
  rw [im_cell_ref (by omega), hk]
  show H1[g.1 + a]? = some (vp_cell _ _)
  rw [e1, vp_cell_q, arrV_store]
  congr 2
  funext q
  by_cases hq : q = j.toNatClampNeg
  · subst hq; simp [updV, im_up, im_opt, va_rf, im_ad_lt hP hv]
  · simp [updV, im_up, hq]
theorem im_aastW (hC : im_Ctx X g i p s m args meth cd) (hP : im_P g M H) (hS : va_S (im_A g) s.heap H locs) {a v : Nat} {j : Int32} (hv : v < M.1) (ho : ((im_arr M a 12 j && (M.2.2.1 v).1 == 0) || (im_arr M a 13 j && (M.2.2.1 v).1 == 4)) = true) (hd : decode (im_cc i) pc = .ok (.aastore, 1))
    (kk : ∀ (H1 : Heap) (locs1 : List Loc), im_P g (im_set M a j.toNatClampNeg (.ref v)) H1 → va_S (im_A g) s.heap H1 locs1 → W p l e R s m args below meth cd H1 locs1 cells slots Q (F0 m (pc + 1) lsC rest)) : W p l e R s m args below meth cd H locs cells slots Q (F0 m pc lsC (.ref (im_ad g v) :: .int j :: .ref (im_ad g a) :: rest)) := by
  simp only [Bool.or_eq_true, Bool.and_eq_true, beq_iff_eq] at ho
  rcases ho with ⟨h1, h2⟩ | ⟨h1, h2⟩
  · exact im_aastW0 hC hP hS (kd := 12) (ci := 0) (by omega) rfl (by omega) h1 hv h2 hd kk
  · exact im_aastW0 hC hP hS (kd := 13) (ci := 4) (by omega) rfl (by omega) h1 hv h2 hd kk
theorem im_alenW (hC : im_Ctx X g i p s m args meth cd) (hP : im_P g M H) {a : Nat} (ha : a < M.1) (h1 : 11 ≤ (M.2.2.1 a).1) (h2 : (M.2.2.1 a).1 < 14) (hd : decode (im_cc i) pc = .ok (.arraylength, 1))
    (kk : W p l e R s m args below meth cd H locs cells slots Q (F0 m (pc + 1) lsC (.int (Int32.ofNat (M.2.2.1 a).2) :: rest))) : W p l e R s m args below meth cd H locs cells slots Q (F0 m pc lsC (.ref (im_ad g a) :: rest)) := by
  obtain ⟨hx, hb, -, -, hown, -, -, hts, hE, -⟩ := hC
  have hP1 := hP.at ha
  rw [im_ad_lt hP ha]
  by_cases hk : (M.2.2.1 a).1 = 11
  · rw [im_cell_int hk] at hP1
    exact va_alen hx hb hE.1 hP1 0 0 rfl rfl rfl hd kk
  · rw [im_cell_ref (by omega)] at hP1
    by_cases hk2 : (M.2.2.1 a).1 = 12
    · exact va_alen hx hb hE.1 hP1 0 1 (by rw [hk2]; rfl) rfl rfl hd kk
    · have hk3 : (M.2.2.1 a).1 = 13 := by omega
      exact va_alen hx hb hE.1 hP1 0 2 (by rw [hk3]; rfl) rfl rfl hd kk
theorem im_nwW {o x ci : Nat} (h : im_nw o x = some ci) : Cond.classLink (im_cn o) x (im_cn ci) ∈ im_W ∧ Cond.instantiable (im_cn ci) (im_szs.getD ci 0) ∈ im_W ∧ Cond.initialized (im_cn ci) ∈ im_W ∧ ci < 11 := by
  have h1 := im_find h
  refine ⟨im_nwB _ (List.mem_flatMap.mpr ⟨_, h1, ?_⟩), im_nwB _ (List.mem_flatMap.mpr ⟨_, h1, ?_⟩), im_nwB _ (List.mem_flatMap.mpr ⟨_, h1, ?_⟩), ?_⟩
  · simp
  · simp
  · simp
  · have := List.all_eq_true.mp im_nwC _ h1
    simpa using this
theorem im_v_def (g : im_G) (ty : FieldType) : im_v g (defaultValue ty) = defaultValue ty := by cases ty <;> rfl
theorem im_newW (hC : im_Ctx X g i p s m args meth cd) (hP : im_P g M H) (hS : va_S (im_A g) s.heap H locs) {x ci : Nat} (hf : im_nw (im_ow i) x = some ci) (hM : M.1 < im_RB) (hd : decode (im_cc i) pc = .ok (.new x, 3)) (hcells : cells + 1 ≤ R.cells) (hslots : slots + im_szs.getD ci 0 ≤ R.slots)
    (kk : ∀ (H1 : Heap), im_P g (im_new M ci (im_szs.getD ci 0) (fun k => defaultValue (im_ty ci k))) H1 → va_S (im_A g) s.heap H1 locs → W p l e R s m args below meth cd H1 locs (cells + 1) (slots + im_szs.getD ci 0) Q (F0 m (pc + 3) lsC (.ref (g.1 + M.1) :: rest))) : W p l e R s m args below meth cd H locs cells slots Q (F0 m pc lsC rest) := by
  obtain ⟨hx, hb, -, -, hown, -, -, hts, hE, hbase⟩ := hC
  obtain ⟨h1, h2, h3, h4⟩ := im_nwW hf
  have hKn := hE.1.1 ci _ (im_cls ci h4)
  refine W.newcK hx hb hown (hts _ h1) (hts _ h2) (hts _ h3) rfl hd hcells hslots hKn.2.1 hP.1 fun H1 kC hkC e1 z1 o1 => ?_
  refine kk H1 (hP.push hM (by rw [z1, hP.1]) (fun q hq => o1 q (by rw [← hP.1]; exact hq)) (fun _ => rfl) ?_) ⟨Nat.le_trans hS.1 (by rw [z1, hP.1]; omega), fun q q1 q2 => by rw [o1 q (by have := hS.1; have := hP.1; omega)]; exact hS.2.1 q q1 q2, hS.2.2⟩
  rw [im_cell_obj h4, hP.1]
  refine ⟨_, im_cls ci h4, (u_born (im_ty ci) hts (im_clW ci h4) hKn hkC e1 (im_tyW ci h4)).to (fun j hj => ?_)⟩
  have hj' : j < im_szs.getD ci 0 := hj
  show defaultValue (im_ty ci j) = ((List.range (im_szs.getD ci 0)).map (fun i => im_v g (defaultValue (im_ty ci i)))).getD j .null
  rw [List.getD_eq_getElem?_getD, List.getElem?_map, List.getElem?_range hj']
  exact (im_v_def g _).symm
theorem im_newaW (hC : im_Ctx X g i p s m args meth cd) (hP : im_P g M H) (hS : va_S (im_A g) s.heap H locs) {n : Int32} (hM : M.1 < im_RB) (h0 : ¬ n < 0) (hn : n.toNatClampNeg ≤ 1000) (hd : decode (im_cc i) pc = .ok (.newarray .int, 2)) (hcells : cells + 1 ≤ R.cells) (hslots : slots + n.toNatClampNeg ≤ R.slots)
    (kk : ∀ (H1 : Heap), im_P g (im_new M 11 n.toNatClampNeg (fun _ => .int 0)) H1 → va_S (im_A g) s.heap H1 locs → W p l e R s m args below meth cd H1 locs (cells + 1) (slots + n.toNatClampNeg) Q (F0 m (pc + 2) lsC (.ref (g.1 + M.1) :: rest))) : W p l e R s m args below meth cd H locs cells slots Q (F0 m pc lsC (.int n :: rest)) := by
  obtain ⟨hx, hb, -, -, hown, -, -, hts, hE, hbase⟩ := hC
  refine va_newaK (atype := .int) hx hb (hts _ (im_oneW _ (by simp [im_one, newarray.typeOf]))) rfl hd rfl h0 rfl (by simp [newarray.typeOf, componentBytes]; omega) hcells hslots hP.1 fun H1 cA e1 z1 o1 hAr hNm => ?_
  have hcA : cA = g.2.2.2 0 := by
    have h2 := (hE.1.2 0 _ rfl).2
    exact Option.some.inj (hNm.symm.trans h2)
  subst hcA
  refine kk H1 (hP.push hM (by rw [z1, hP.1]) (fun q hq => o1 q (by rw [← hP.1]; exact hq)) (fun q => by omega) ?_) ⟨Nat.le_trans hS.1 (by rw [z1, hP.1]; omega), fun q q1 q2 => by rw [o1 q (by have := hS.1; have := hP.1; omega)]; exact hS.2.1 q q1 q2, hS.2.2⟩
  rw [im_cell_int rfl, hP.1]
  exact e1
theorem im_anewW (hC : im_Ctx X g i p s m args meth cd) (hP : im_P g M H) (hS : va_S (im_A g) s.heap H locs) {n : Int32} {x ci kd : Nat} (hf : im_nw (im_ow i) x = some ci) (hkd : 11 < kd) (ht : [(g.2.2.2 0, FieldType.int), (g.2.2.2 1, .object RX0), (g.2.2.2 2, .object RX4)][kd - 11]? = some (g.2.2.2 (kd - 11), .object (im_cn ci))) (hao : va_AO (im_cn ci) s) (hM : M.1 < im_RB) (h0 : ¬ n < 0) (hn : n.toNatClampNeg ≤ 1000) (hd : decode (im_cc i) pc = .ok (.anewarray x, 3)) (hcells : cells + 1 ≤ R.cells) (hslots : slots + n.toNatClampNeg ≤ R.slots)
    (kk : ∀ (H1 : Heap), im_P g (im_new M kd n.toNatClampNeg (fun _ => .null)) H1 → va_S (im_A g) s.heap H1 locs → W p l e R s m args below meth cd H1 locs (cells + 1) (slots + n.toNatClampNeg) Q (F0 m (pc + 3) lsC (.ref (g.1 + M.1) :: rest))) : W p l e R s m args below meth cd H locs cells slots Q (F0 m pc lsC (.int n :: rest)) := by
  obtain ⟨hx, hb, -, -, hown, -, -, hts, hE, hbase⟩ := hC
  obtain ⟨h1, h2, h3, h4⟩ := im_nwW hf
  refine W.anew hx hb hown (hts _ h1) (va_AO.use hao) rfl hd rfl h0 (by omega) hcells hslots fun cA kA comp f1 f2 f3 f4 => ?_
  have hcA : cA = g.2.2.2 (kd - 11) := by
    obtain ⟨kA', comp', -, -, -, k4⟩ := (hE.1.2 _ _ ht).2
    exact Option.some.inj (f1.symm.trans k4)
  subst hcA
  generalize hH1 : H.push ({ cls := g.2.2.2 (kd - 11), slots := Array.replicate n.toNatClampNeg .null, vm := .none } : Cell) = H1
  have z1 : H1.size = H.size + 1 := by rw [← hH1, Array.size_push]
  have e1 : H1[H.size]? = some (arrV (g.2.2.2 (kd - 11)) n.toNatClampNeg (fun _ => .null)) := by rw [← hH1, Array.getElem?_push_size, ← arrV_new]
  have o1 : ∀ q, q < H.size → H1[q]? = H[q]? := fun q hq => by rw [← hH1, Array.getElem?_push, if_neg (Nat.ne_of_lt hq)]
  have hk := kk H1 (hP.push hM z1 o1 (fun q => by omega) (by rw [im_cell_ref (by omega)]; exact e1)) ⟨Nat.le_trans hS.1 (by rw [z1]; omega), fun q q1 q2 => by rw [o1 q (by have := hS.1; omega)]; exact hS.2.1 q q1 q2, hS.2.2⟩
  rw [← hP.1] at hk
  exact hk
theorem im_cpy_ne {μ : Nat → Nat → Value} {a b sp dp n j : Nat} (h : j ≠ b) (i : Nat) : im_cpy μ a b sp dp n j i = μ j i := by simp [im_cpy, h]
theorem im_copyW (hC : im_Ctx X g i p s m args meth cd) (hml : cd.maxLocals = lsC.size) (hP : im_P g M H) (hS : va_S (im_A g) s.heap H locs) {x a b : Nat} {sp dp n : Int32} (hlink : Cond.methodLink (im_cn (im_ow i)) x arraycopyName ∈ im_W) (ha : a < M.1) (hb' : b < M.1) (hka : (M.2.2.1 a).1 = 11) (hkb : (M.2.2.1 b).1 = 11) (h1 : ¬ sp < 0) (h2 : ¬ dp < 0) (h3 : ¬ n < 0) (h4 : sp.toNatClampNeg + n.toNatClampNeg ≤ (M.2.2.1 a).2) (h5 : dp.toNatClampNeg + n.toNatClampNeg ≤ (M.2.2.1 b).2) (hrest : im_csum rest ≤ 8) (hfr : 1 ≤ R.frames) (hlo : 40 ≤ R.locals) (hd : decode (im_cc i) pc = .ok (.invokestatic x, 3))
    (kk : ∀ (H1 : Heap) (locs1 : List Loc), im_P g (M.1, M.2.1, M.2.2.1, im_cpy M.2.2.2 a b sp.toNatClampNeg dp.toNatClampNeg n.toNatClampNeg) H1 → va_S (im_A g) s.heap H1 locs1 → W p l e R s m args below meth cd H1 locs1 cells slots Q (F0 m (pc + 3) lsC rest)) : W p l e R s m args below meth cd H locs cells slots Q (F0 m pc lsC (.int n :: .int dp :: .ref (im_ad g b) :: .int sp :: .ref (im_ad g a) :: rest)) := by
  obtain ⟨hx, hb, -, -, hown, -, -, hts, hE, -⟩ := hC
  have hata := (hP.2.2 a ha).2
  rw [im_cell_int hka] at hata
  have hatb := (hP.2.2 b hb').2
  rw [im_cell_int hkb] at hatb
  rw [im_ad_lt hP ha, im_ad_lt hP hb']
  have hc0 : H[g.1 + a]? = some (arrV (g.2.2.2 0) (M.2.2.1 a).2 (fun i => .int (im_int (M.2.2.2 a i)))) := hata
  have hc1 : H[g.1 + b]? = some (arrV (g.2.2.2 0) (M.2.2.1 b).2 (fun i => .int (im_int (M.2.2.2 b i)))) := hatb
  have nn : ∀ z : Int32, ¬ z < 0 → z.toInt = (z.toNatClampNeg : Int) := by
    intro z hz
    have hz0 : (0 : Int) ≤ z.toInt := by
      have := Int32.not_lt.mp hz
      simpa using Int32.le_iff_toInt_le.mp this
    show z.toInt = ((z.toInt.toNat : Nat) : Int)
    omega
  intro T hT X0
  obtain ⟨-, k0, hk0, cm0, hkk0⟩ := (hE.1.2 0 _ rfl).1 (M.2.2.1 a).2 (fun i => .int (im_int (M.2.2.2 a i)))
  obtain ⟨-, k1, hk1, cm1, hkk1⟩ := (hE.1.2 0 _ rfl).1 (M.2.2.1 b).2 (fun i => .int (im_int (M.2.2.2 b i)))
  obtain ⟨vm', X', step⟩ := X0.arraycopy hx hown (hts _ hlink) (hts _ (im_oneW _ (by simp [im_one]))) (hts _ (im_oneW _ (by simp [im_one]))) (hts _ (im_oneW _ (by simp [im_one]))) (srcPos := sp) (destPos := dp) (n := n) (by rw [hT]; exact hc0) (by rw [hT]; exact hc1)
    (fun _ h => by cases h) (fun _ h => by cases h) (fun h => by cases h) (fun h => by cases h) hk0 hk1 hkk0 hkk1 (by simp [refKind]) h1 h2 h3
    (by rw [nn sp h1, nn n h3, arrV_size]; omega)
    (by rw [nn dp h2, nn n h3, arrV_size]; omega)
    (fun vm₁ _ i hi => by
      have e : (arrV (g.2.2.2 0) (M.2.2.1 a).2 (fun i => .int (im_int (M.2.2.2 a i)))).slots.getD (sp.toNatClampNeg + i) .null = .int (im_int (M.2.2.2 a (sp.toNatClampNeg + i))) := by
        rw [Array.getD_eq_getD_getElem?, arrV_read _ _ (by omega)]
        rfl
      refine ⟨?_, ?_⟩
      · rw [e]; rfl
      · rw [e]; exact trivial)
    (g := F0 m pc lsC (.int n :: .int dp :: .ref (g.1 + b) :: .int sp :: .ref (g.1 + a) :: rest)) rfl (by rw [hml]) (rest := rest) rfl (by rw [hb]; exact hd) hfr (by
      have e9 : nativeFrameWords "java/lang/System" "arraycopy" 5 + 11 ≤ 32 := by decide
      have : (rest.map fun v => v.category).sum ≤ 8 := hrest
      show 2 * 0 + _ + _ ≤ _; omega)
  have e1 : copied (arrV (g.2.2.2 0) (M.2.2.1 a).2 (fun i => .int (im_int (M.2.2.2 a i)))) (arrV (g.2.2.2 0) (M.2.2.1 b).2 (fun i => .int (im_int (M.2.2.2 b i)))) sp dp n = arrV (g.2.2.2 0) (M.2.2.1 b).2 (fun j => .int (va_cpy (fun j => im_int (M.2.2.2 a j)) (fun j => im_int (M.2.2.2 b j)) sp.toNatClampNeg dp.toNatClampNeg n.toNatClampNeg j)) := va_copied (fun z => .int z) _ _ _ _ h4
  rw [e1] at X' step
  have hl : g.1 + b < H.size := (Array.getElem?_eq_some_iff.mp hc1).1
  generalize hcell : arrV (g.2.2.2 0) (M.2.2.1 b).2 (fun j => .int (va_cpy (fun j => im_int (M.2.2.2 a j)) (fun j => im_int (M.2.2.2 b j)) sp.toNatClampNeg dp.toNatClampNeg n.toNatClampNeg j)) = cellB at X' step
  have hheap : ((T.setVm vm').setCell (g.1 + b) cellB).heap = H.setIfInBounds (g.1 + b) cellB := by rw [← hT]; rfl
  have oq : ∀ q : Nat, q ≠ g.1 + b → (H.setIfInBounds (g.1 + b) cellB)[q]? = H[q]? := fun q hq => by simp [Array.getElem?_setIfInBounds, Ne.symm hq]
  have hA : im_A g (g.1 + b) := Nat.le_add_right _ _
  obtain ⟨t, a1, b1⟩ := kk _ _ (hP.set hb' (by simp) oq (fun j _ hj i => im_cpy_ne hj i) (by
      rw [im_cell_int hkb]
      show (H.setIfInBounds (g.1 + b) cellB)[g.1 + b]? = some (vp_cell _ _)
      rw [← hcell, vp_cell_i]
      simp [Array.getElem?_setIfInBounds, hl, im_cpy, im_int])) ⟨by simp; exact hS.1, fun q g1 g2 => by
      rw [oq q (fun e => g2 (by rw [e]; exact hA))]
      exact hS.2.1 q g1 g2, fun q hq => by
      rcases List.mem_append.mp hq with h | h
      · exact hS.2.2 q h
      · obtain ⟨z, -, hz⟩ := List.mem_map.mp h
        rw [← hz]
        exact hA⟩ _ hheap X'
  exact ⟨t, step t a1, b1⟩
end IMH
