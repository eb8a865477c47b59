/-! WHAT THE ABSTRACT MACHINE COMES TO, THE MACHINE COMES TO -/
def im_ws (j : Nat) : List Cond := Cond.code (im_y j) (im_cc j) (im_ml j) (im_rt j) :: im_W
def im_rm (d mc ms : Nat) : Room := { frames := d + 1, cells := mc, slots := ms, locals := 40 * (d + 1) }
def im_Pc (X : im_E) (g : im_G) (as : List Value) (M : im_M) : Array Value → State → Prop := fun a U => a = (as.map (im_v g)).toArray ∧ g.1 ≤ U.heap.size ∧ im_Env X g U U.heap ∧ im_P g M U.heap
def im_Qc (g : im_G) (v : Option Value) (M' : im_M) : Array Value → State → Outcome → State → Prop := fun _ st o t => o = .returned (v.map (im_v g)) ∧ im_P g M' t.heap ∧ va_F (im_A g) st t
theorem im_blind {X : im_E} {g : im_G} {as : List Value} {M : im_M} : FrameBlind (im_Pc X g as M) := fun a U f mk h => ⟨h.1, h.2.1, h.2.2.1.go (U := U.calling f mk a) (State.WarmedH.refl U) (fun _ _ _ => rfl), h.2.2.2⟩
theorem im_mOf {i : Nat} (h : i < 239) : (im_y i).cls = im_cn (im_ow i) ∧ plainFor (im_y i) = true ∧ (im_y i).cls ≠ "java/lang/invoke/MethodHandle" ∧ (im_y i).cls ≠ "java/lang/invoke/VarHandle" := by
  have h1 := List.all_eq_true.mp im_msB i (List.mem_range.mpr h)
  simp only [im_mB, Bool.and_eq_true, decide_eq_true_eq] at h1
  exact ⟨h1.1.1.1, h1.1.1.2, h1.1.2, h1.2⟩
theorem im_wsGood {j : Nat} (hj : j < 238) {us : List Cond} (hu : ∀ w ∈ us, w ∈ im_W) : GoodIn im_W (us ++ im_ws j) := by
  intro w hw
  have h : w ∈ im_W := by
    rcases List.mem_append.mp hw with h | h
    · exact hu w h
    · rcases List.mem_cons.mp h with rfl | h
      · exact im_cdW j hj
      · exact h
  exact im_W_good w h
theorem im_lkOf {o x k j n : Nat} (h : im_lk o x = some (k, j, n)) (h5 : k ≠ 5) (h6 : k ≠ 6) : j < 238 ∧ (parseMethodDescriptor (im_y j).desc).map (fun d => d.parameters.length) = some n ∧ im_ml j ≤ 8 ∧ ((k = 2 ∨ k = 4) → (im_y j).name = "<init>" ∧ im_rt j = none) := by
  have h1 := (im_lkW h).2
  simp only [im_lkB, Bool.or_eq_true, Bool.and_eq_true, decide_eq_true_eq, beq_iff_eq, Bool.not_eq_true', Bool.or_eq_false_iff, beq_eq_false_iff_ne] at h1
  rcases h1 with (h1 | h1) | h1
  · exact absurd h1 h5
  · exact absurd h1 h6
  · obtain ⟨⟨⟨⟨a1, a2⟩, a3⟩, a4⟩, -⟩ := h1
    refine ⟨a1, a2, a3, fun hk => ?_⟩
    rcases a4 with ⟨b1, b2⟩ | b
    · rcases hk with hk | hk
      · exact absurd hk b1
      · exact absurd hk b2
    · exact b
section IMC
variable {p : Program} {l : Launch} {e : Env} {R : Room} {s : State} {m : MethodId} {args : Array Value} {below : List Frame} {meth : Method} {cd : Code} {H : Heap} {locs : List Loc} {cells slots : Nat} {Q : State → Prop} {lsC : Array Slot} {X : im_E} {g : im_G} {i pc : Nat} {M : im_M}
theorem im_callQ {v : Option Value} {M' : im_M} {mc ms : Nat} {st0 rest : List Value} {a : Array Value} (hr : va_Run p l e R s m args below meth cd H locs cells slots mc ms (F0 m pc lsC st0) rest (im_Qc g v M' a) (im_A g)) (hS : va_S (im_A g) s.heap H locs)
    (kk : ∀ (H1 : Heap) (locs1 : List Loc), im_P g M' H1 → va_S (im_A g) s.heap H1 locs1 → W p l e R s m args below meth cd H1 locs1 (cells + mc) (slots + ms) Q (F0 m (pc + 3) lsC ((v.map (im_v g)).toList ++ rest))) : W p l e R s m args below meth cd H locs cells slots Q (F0 m pc lsC st0) := by
  intro T hT X0
  obtain ⟨v', st₀, t, T', L, h0, X', hL, e1, e2, ⟨hv, hPq, hz, hk⟩, st⟩ := hr T hT X0
  cases hv
  rw [h0] at hz hk
  obtain ⟨t2, a1, b1⟩ := kk T'.heap (locs ++ L) (by rw [e1]; exact hPq)
    ⟨Nat.le_trans hS.1 (by rw [e1]; exact hz), fun q h1 h2 => by rw [e1, hk q (Nat.lt_of_lt_of_le h1 hS.1) h2]; exact hS.2.1 q h1 h2, fun q hq => by
      rcases List.mem_append.mp hq with h | h
      · exact hS.2.2 q h
      · exact hL q h⟩ T' rfl X'
  exact ⟨t2, st t2 a1, b1⟩
def im_Snd (X : im_E) (g : im_G) (l : Launch) (n : Nat) : Prop := ∀ (d i : Nat) (c : im_C) (r : Option Value) (M' : im_M), im_run X n d i c = some (r, M') → i < 239 →
  ∀ {p : Program} {e : Env} {R : Room} {s : State} {m : MethodId} {args : Array Value} {below : List Frame} {meth : Method} {cd : Code} {H : Heap} {locs : List Loc} {cells slots : Nat} {Q : State → Prop} {lsC : Array Slot},
    im_Ctx X g i p s m args meth cd → d + 1 ≤ R.frames → 40 * (d + 1) ≤ R.locals → cells + M'.1 ≤ R.cells + c.2.2.2.1 → slots + M'.2.1 ≤ R.slots + c.2.2.2.2.1 → im_P g c.2.2.2 H → va_S (im_A g) s.heap H locs → im_L g lsC c.2.1 → c.2.1.length = im_ml i →
    (∀ (pc1 : Nat) (lsC1 : Array Slot) (H1 : Heap) (locs1 : List Loc) (cells1 slots1 : Nat), im_P g M' H1 → va_S (im_A g) s.heap H1 locs1 → cells1 + c.2.2.2.1 = cells + M'.1 → slots1 + c.2.2.2.2.1 = slots + M'.2.1 → im_Rt i pc1 r → W p l e R s m args below meth cd H1 locs1 cells1 slots1 Q (F0 m pc1 lsC1 (r.toList.map (im_v g)))) →
    W p l e R s m args below meth cd H locs cells slots Q (F0 m c.1 lsC (c.2.2.1.map (im_v g)))
theorem im_met {n : Nat} (hN : im_Snd X g l n) {d j : Nat} {as : List Value} {M M' : im_M} {v : Option Value} (hr : im_run X n d j (0, im_ent (im_ml j) as, [], M) = some (v, M')) (hal : (im_al as).length ≤ im_ml j) (hj : j < 239) : Met l (im_y j) (im_ws j) (im_rm d (M'.1 - M.1) (M'.2.1 - M.2.1)) (im_Pc X g as M) (im_Qc g v M') (M'.1 - M.1) (M'.2.1 - M.2.1) (im_A g) := by
  obtain ⟨hm1, hm2, -, -⟩ := im_mOf hj
  have hmono := im_run_mono _ _ _ _ _ _ hr
  dsimp only at hmono
  refine va_MetF (cc := im_cc j) (maxL := im_ml j) (ret := im_rt j) hm2 rfl ?_
  intro p e s m args below meth c s₁ B hml hv
  obtain ⟨rfl, hbase, hE, hP⟩ := hv
  have hts := atoms_spec (ws := im_ws j) B.pre
  have hown : s.vm.findClass (im_y j).cls = some m.cls := findClass_of_methodNamed B.named
  have hlocks := B.notSynchronized
  have hr' := B.returns
  have hx := B.exec
  have hb := B.bytes
  have hnm : meth.name = (im_y j).name := (name_of_methodNamed B.named B.method).1
  rw [lg_entry_eq]
  have hL := im_L.ent (g := g) hal
  refine hN d j _ v M' hr hj ⟨hx, hb, hr', hml, by rw [← hm1]; exact hown, hlocks, fun h => by rw [hnm]; exact h, fun w hw => hts w (List.mem_cons_of_mem _ hw), hE, hbase⟩ (Nat.le_refl _) (Nat.le_refl _) (by show 0 + M'.1 ≤ (M'.1 - M.1) + M.1; omega) (by show 0 + M'.2.1 ≤ (M'.2.1 - M.2.1) + M.2.1; omega) hP va_S.rf hL (im_ent_len hal) ?_
  intro pc1 lsC1 H1 locs1 cells1 slots1 hP1 hS1 hc1 hs1 hRt
  dsimp only at hc1 hs1
  obtain rfl : cells1 = M'.1 - M.1 := by omega
  obtain rfl : slots1 = M'.2.1 - M.2.1 := by omega
  cases v with
  | none =>
    obtain ⟨hd, hrt⟩ := hRt
    exact W.vret hx hb (by rw [hr', hrt]) (fun t ht hW => ⟨rfl, by rw [ht]; exact hP1, hS1.F ht⟩) hS1.2.2 hd
  | some v =>
    cases v with
    | int y =>
      obtain ⟨hd, ty, hrt, hn⟩ := hRt
      exact W.zret hx hb (by rw [hr', hrt]) hn (fun t ht hW => ⟨rfl, by rw [ht]; exact hP1, hS1.F ht⟩) hS1.2.2 hd
    | long y =>
      obtain ⟨hd, hrt⟩ := hRt
      exact W.lret hx hb (by rw [hr', hrt]) (fun t ht hW => ⟨rfl, by rw [ht]; exact hP1, hS1.F ht⟩) hS1.2.2 hd
    | ref a =>
      obtain ⟨hd, hrt⟩ := hRt
      rcases hrt with hrt | hrt
      · exact W.aret hx hb (by rw [hr', hrt]) (Or.inl ⟨_, rfl⟩) (Or.inr ⟨_, rfl⟩) (fun t ht hW => ⟨rfl, by rw [ht]; exact hP1, hS1.F ht⟩) hS1.2.2 hd
      · exact W.aret hx hb (by rw [hr', hrt]) (Or.inl ⟨_, rfl⟩) (Or.inr ⟨_, rfl⟩) (fun t ht hW => ⟨rfl, by rw [ht]; exact hP1, hS1.F ht⟩) hS1.2.2 hd
    | null =>
      obtain ⟨hd, hrt⟩ := hRt
      rcases hrt with hrt | hrt
      · exact W.aret hx hb (by rw [hr', hrt]) (Or.inl ⟨_, rfl⟩) (Or.inl rfl) (fun t ht hW => ⟨rfl, by rw [ht]; exact hP1, hS1.F ht⟩) hS1.2.2 hd
      · exact W.aret hx hb (by rw [hr', hrt]) (Or.inl ⟨_, rfl⟩) (Or.inl rfl) (fun t ht hW => ⟨rfl, by rw [ht]; exact hP1, hS1.F ht⟩) hS1.2.2 hd
    | float y => exact hRt.elim
    | double y => exact hRt.elim
    | retAddr y => exact hRt.elim
theorem im_nstW {o x k j n : Nat} (h : im_lk o x = some (k, j, n)) (hk : k = 3 ∨ k = 4) : (o, x, j) ∈ im_nst := by
  unfold im_nst
  refine List.mem_map.mpr ⟨(o, x, k, j, n), List.mem_filter.mpr ⟨im_find h, ?_⟩, rfl⟩
  rcases hk with rfl | rfl <;> rfl
set_option maxHeartbeats 4000000 in
/-- a call of the abstract machine is one of the machine -/
theorem im_callW (hC : im_Ctx X g i p s m args meth cd) {j d : Nat} {as st rest : List Value} {M' : im_M} {v : Option Value} (hcl : im_Cl i pc j as st rest M) (hj : j ≠ 1000) (hM : Met l (im_y j) (im_ws j) (im_rm d (M'.1 - M.1) (M'.2.1 - M.2.1)) (im_Pc X g as M) (im_Qc g v M') (M'.1 - M.1) (M'.2.1 - M.2.1) (im_A g)) (hfr : d + 2 ≤ R.frames) (hlo : 40 * (d + 2) ≤ R.locals) (hcells : cells + (M'.1 - M.1) ≤ R.cells) (hslots : slots + (M'.2.1 - M.2.1) ≤ R.slots) (hP : im_P g M H) (hS : va_S (im_A g) s.heap H locs) (hlen : lsC.size = im_ml i)
    (kk : ∀ (H1 : Heap) (locs1 : List Loc), im_P g M' H1 → va_S (im_A g) s.heap H1 locs1 → W p l e R s m args below meth cd H1 locs1 (cells + (M'.1 - M.1)) (slots + (M'.2.1 - M.2.1)) Q (F0 m (pc + 3) lsC ((v.map (im_v g)).toList ++ rest.map (im_v g)))) : W p l e R s m args below meth cd H locs cells slots Q (F0 m pc lsC (st.map (im_v g))) := by
  obtain ⟨hx, hb, hr, hml, hown, hlk, hnm, hts, hE, hbase⟩ := id hC
  obtain ⟨hrest, hcl⟩ := hcl
  have hrest' : ((rest.map (im_v g)).map fun v => v.category).sum ≤ 8 := by
    unfold im_csum at hrest
    simpa [Function.comp_def, im_v_cat] using hrest
  have hPcU : ∀ U : State, U.heap = H → s.WarmedH U.vm → im_Pc X g as M (as.map (im_v g)).toArray U := fun U hU hW => ⟨rfl, by rw [hU]; exact Nat.le_trans hbase hS.1, by rw [hU]; exact hE.go hW hS.2.1, by rw [hU]; exact hP⟩
  have hfix : CallFix p m cd (im_cc i) (im_ml i) s args im_W (im_cn (im_ow i)) := ⟨hx, hb, hml, hown, hts⟩
  have hwsg : ∀ {j : Nat}, j < 238 → GoodIn im_W (im_ws j) := fun hj => by have := im_wsGood hj (us := []) (fun _ h => by cases h); exact this
  rcases hcl with ⟨x, a, b, c, hd, e1, -, -⟩ | ⟨x, k, n, hd, hk, hf, rfl, hn⟩ | ⟨x, n, a, as', hd, hf, rfl, rfl, hn, hrc⟩ | ⟨x, k, n, a, as', hd, hk, hf, rfl, rfl, hn⟩
  · exact absurd e1 hj
  · obtain ⟨hj8, hpd, hmx, -⟩ := im_lkOf hf (by omega) (by omega)
    obtain ⟨hm1, hm2, hm3, hm4⟩ := im_mOf (i := j) (by omega)
    have hw := (im_lkW hf).1
    have hR : (im_rm d (M'.1 - M.1) (M'.2.1 - M.2.1)).frames + 1 ≤ R.frames ∧ 8 + (im_ml j + 11) + (im_rm d (M'.1 - M.1) (M'.2.1 - M.2.1)).locals ≤ R.locals := ⟨hfr, by show 8 + (im_ml j + 11) + 40 * (d + 1) ≤ _; omega⟩
    have hst : (as.reverse ++ rest).map (im_v g) = (as.map (im_v g)).reverse ++ rest.map (im_v g) := by simp
    rw [hst]
    rcases hk with rfl | rfl
    · exact im_callQ (va_runS (n := n) hfix hM (va_cwS n hts (im_wsGood hj8 (fun w hw' => hw w (by
          simp only [List.mem_cons, List.not_mem_nil, or_false] at hw'
          rcases hw' with rfl | rfl | rfl <;> simp [im_lkw]))) rfl rfl rfl ⟨hm3, hm4, hpd⟩ hR) ⟨im_blind, hPcU⟩ rfl (by simpa using hn) hlen rfl (lv_room hrest') hd ⟨hcells, hslots⟩) hS kk
    · have hnst := hE.2.1 _ (im_nstW hf (Or.inl rfl))
      exact im_callQ (va_runSN (n := n) (host := RX9) hfix hM ⟨va_cnB n hts (hwsg hj8) rfl rfl rfl hnst (hts _ (hw _ (by simp [im_lkw]))) ⟨hm3, hm4, hpd⟩ hR, hts _ (hw _ (by simp [im_lkw])), trivial⟩ ⟨im_blind, hPcU⟩ rfl (by simpa using hn) hlen rfl (lv_room hrest') hd ⟨hcells, hslots⟩) hS kk
  · obtain ⟨hj8, hpd, hmx, -⟩ := im_lkOf hf (by omega) (by omega)
    obtain ⟨hm1, hm2, hm3, hm4⟩ := im_mOf (i := j) (by omega)
    have hw := (im_lkW hf).1
    have hR : (im_rm d (M'.1 - M.1) (M'.2.1 - M.2.1)).frames + 1 ≤ R.frames ∧ 8 + (im_ml j + 11) + (im_rm d (M'.1 - M.1) (M'.2.1 - M.2.1)).locals ≤ R.locals := ⟨hfr, by show 8 + (im_ml j + 11) + 40 * (d + 1) ≤ _; omega⟩
    have hst : (as'.reverse ++ .ref a :: rest).map (im_v g) = (as'.map (im_v g)).reverse ++ .ref (im_ad g a) :: rest.map (im_v g) := by simp [im_v]
    rw [hst]
    have hrecv : ∃ cellB : Cell, H[im_ad g a]? = some cellB ∧ cellB.vm.isStatics = false ∧ s.vm.findClass (im_y j).cls = some cellB.cls := by
      rw [hm1]
      rcases hrc with ⟨q1, q2, q3⟩ | ⟨q1, q2, q3⟩
      · have hP1 := hP.at q1
        rw [im_cell_obj q2] at hP1
        rw [im_ad_lt hP q1, q3]
        exact va_recv hE.1 hP1 (im_cls _ q2) (q0 := 0) rfl
      · obtain ⟨t, ht, rfl⟩ : ∃ t, t < 3 ∧ a = im_RB + 6 + t := ⟨a - (im_RB + 6), by omega, by omega⟩
        rw [q3]
        exact va_Orecv (hE.2.2.2.2.2.2.1.1 t ht).1 hS
    exact im_callQ (va_runV (n := n) hfix hM (cwV n hts (im_wsGood hj8 (fun w hw' => hw w (by
          simp only [List.mem_cons, List.not_mem_nil, or_false] at hw'
          rcases hw' with rfl | rfl | rfl | rfl <;> simp [im_lkw]))) rfl rfl rfl ⟨rfl, hm3, hm4, hpd⟩ hR) ⟨im_blind, hrecv, hPcU⟩ rfl (by simpa using hn) hlen rfl (lv_room hrest') hd ⟨hcells, hslots⟩) hS kk
  · obtain ⟨hj8, hpd, hmx, hini⟩ := im_lkOf hf (by omega) (by omega)
    obtain ⟨hnm1, hrt⟩ := hini hk
    obtain ⟨hm1, hm2, hm3, hm4⟩ := im_mOf (i := j) (by omega)
    have hw := (im_lkW hf).1
    have hR : (im_rm d (M'.1 - M.1) (M'.2.1 - M.2.1)).frames + 1 ≤ R.frames ∧ 8 + (im_ml j + 11) + (im_rm d (M'.1 - M.1) (M'.2.1 - M.2.1)).locals ≤ R.locals := ⟨hfr, by show 8 + (im_ml j + 11) + 40 * (d + 1) ≤ _; omega⟩
    have hst : (as'.reverse ++ .ref a :: rest).map (im_v g) = (as'.map (im_v g)).reverse ++ .ref (im_ad g a) :: rest.map (im_v g) := by simp [im_v]
    rw [hst]
    have hwe : im_ws j = Cond.code (im_y j) (im_cc j) (im_ml j) none :: im_W := by unfold im_ws; rw [hrt]
    rcases hk with rfl | rfl
    · exact im_callQ (va_runI (n := n) hfix hM (cwI n hts (hwsg hj8) hwe rfl rfl (hts _ (hw _ (by simp [im_lkw]))) (hts _ (hw _ (by simp [im_lkw]))) (hts _ (hw _ (by simp [im_lkw]))) hnm1 ⟨hm3, hm4, hpd⟩ hR) ⟨im_blind, hPcU⟩ rfl (by simpa using hn) hlen rfl (lv_room hrest') hd ⟨hcells, hslots⟩) hS kk
    · have hnst := hE.2.1 _ (im_nstW hf (Or.inr rfl))
      exact im_callQ (va_runIN (n := n) (host := RX9) hfix hM ⟨va_cnB n hts (hwsg hj8) hwe rfl rfl hnst (hts _ (hw _ (by simp [im_lkw]))) ⟨hm3, hm4, hpd⟩ hR, hnm1, hts _ (hw _ (by simp [im_lkw]))⟩ ⟨im_blind, hPcU⟩ rfl (by simpa using hn) hlen rfl (lv_room hrest') hd ⟨hcells, hslots⟩) hS kk
theorem im_snd (X : im_E) (g : im_G) (l : Launch) : ∀ n, im_Snd X g l n
  | 0 => fun d i c r M' h => by simp [im_run] at h
  | n + 1 => by
    have ih := im_snd X g l n
    intro d i c r M' h hi p e R s m args below meth cd H locs cells slots Q lsC hC hfr hlo hcells hslots hP hS hL hlen fin
    obtain ⟨pc, ls, st, M⟩ := c
    dsimp only at hcells hslots hP hL hlen fin ⊢
    unfold im_run at h
    split at h
    · rename_i c' hs
      have hm1 := im_step_mono hs
      have hm2 := im_run_mono _ _ _ _ _ _ h
      dsimp only at hm1
      refine im_stepW hC hs hP hS hL hlen (by omega) (by omega) (by omega) (by omega) ?_
      intro H1 locs1 lsC1 cells1 slots1 hP1 hS1 hL1 hl1 hc1 hs1
      refine ih d i c' r M' h hi hC hfr hlo (by omega) (by omega) hP1 hS1 hL1 (by rw [hl1]; exact hlen) ?_
      intro pc2 lsC2 H2 locs2 cells2 slots2 hP2 hS2 hc2 hs2 hRt
      exact fin pc2 lsC2 H2 locs2 cells2 slots2 hP2 hS2 (by omega) (by omega) hRt
    · rename_i q hs
      cases h
      obtain ⟨h1, h2, h3⟩ := im_retW hs
      subst h1; subst h2
      exact fin pc lsC H locs cells slots hP hS rfl rfl h3
    · rename_i j as pc' ls' rest M1 hs
      obtain ⟨rest', e1, hcl⟩ := im_callI hs
      cases e1
      split at h
      · cases h
      · rename_i d'
        split at h
        · rename_i hj
          obtain ⟨hrest, hcl⟩ := hcl
          rcases hcl with ⟨x, a, b, c, hd, e1, hf, rfl⟩ | ⟨x, k, n, hd, hk, hf, rfl, hn⟩ | ⟨x, n, a, as', hd, hf, rfl, rfl, hn, hrc⟩ | ⟨x, k, n, a, as', hd, hk, hf, rfl, rfl, hn⟩
          · obtain ⟨hx, hb, hr, hml, hown, hlk, hnm, hts, hE, hbase⟩ := id hC
            have hw := (im_lkW hf).1
            refine W.objInit hx hb hown (hts _ (hw _ (by simp [im_lkw]))) (hts _ (im_oneW _ (by simp [im_one]))) (hts _ (im_oneW _ (by simp [im_one]))) rfl (by rw [hml, ← hlen]; exact hL.1) rfl hd (by omega) (by
              have h8 : ((rest.map (im_v g)).map fun v => v.category).sum ≤ 8 := by
                unfold im_csum at hrest
                simpa [Function.comp_def, im_v_cat] using hrest
              show 2 * 0 + ((rest.map (im_v g)).map fun v => v.category).sum + 12 ≤ R.locals
              omega) ?_
            exact ih (d' + 1) i (pc + 3, ls, rest, M) r M' h hi hC hfr hlo hcells hslots hP hS hL hlen fin
          · have := (im_lkOf hf (by omega) (by omega)).1; omega
          · have := (im_lkOf hf (by omega) (by omega)).1; omega
          · have := (im_lkOf hf (by omega) (by omega)).1; omega
        · rename_i hj
          split at h
          · rename_i hal
            split at h
            · rename_i v M2 hq
              have hj8 : j < 239 := by
                obtain ⟨hrest, hcl⟩ := hcl
                rcases hcl with ⟨x, a, b, c, hd, e1, hf, rfl⟩ | ⟨x, k, n, hd, hk, hf, rfl, hn⟩ | ⟨x, n, a, as', hd, hf, rfl, rfl, hn, hrc⟩ | ⟨x, k, n, a, as', hd, hk, hf, rfl, rfl, hn⟩
                · exact absurd e1 hj
                · have := (im_lkOf hf (by omega) (by omega)).1; omega
                · have := (im_lkOf hf (by omega) (by omega)).1; omega
                · have := (im_lkOf hf (by omega) (by omega)).1; omega
              have hm1 := im_run_mono _ _ _ _ _ _ hq
              have hm2 := im_run_mono _ _ _ _ _ _ h
              dsimp only at hm1 hm2
              refine im_callW hC hcl hj (im_met ih hq hal hj8) hfr hlo (by omega) (by omega) hP hS (by rw [hL.1, hlen]) ?_
              intro H1 locs1 hP1 hS1
              have e2 : (v.map (im_v g)).toList ++ rest.map (im_v g) = (v.toList ++ rest).map (im_v g) := by cases v <;> simp
              rw [e2]
              refine ih (d' + 1) i (pc + 3, ls, v.toList ++ rest, M2) r M' h hi hC hfr hlo (by dsimp only; omega) (by dsimp only; omega) hP1 hS1 hL hlen ?_
              intro pc2 lsC2 H2 locs2 cells2 slots2 hP2 hS2 hc2 hs2 hRt
              dsimp only at hc2 hs2
              exact fin pc2 lsC2 H2 locs2 cells2 slots2 hP2 hS2 (by omega) (by omega) hRt
            · cases h
          · cases h
    · cases h
end IMC
