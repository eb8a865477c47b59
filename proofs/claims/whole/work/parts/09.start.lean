/-! THE CLAIM OUT OF ONE WALK OF THE LAW'S BODY. Your part is whole_start (and what it stands on); all else here is the same for every law, but numbers. -/
def R_law : String := "DrownedBellLaw"
def lw_P (b : Addr) (xs : List Int32) (args : Array Value) (s : State) : Prop := args = #[.ref b] ∧ s.IntsAt b xs ∧ xs.length ≤ 3072 ∧ (Jvm.Cond.and given_1 narrow_1).before args s = true
def lw_Q (_ : Array Value) (s : State) (o : Outcome) (t : State) : Prop := o = .returned (some (.int 1)) ∧ Framed s o t [] 600000 7302250
def lw_Z (below : List Frame) (a : Array Value) (s : State) : State → Prop := fun t => ∃ o, t.status = .running ∧ Ended t below o ∧ lw_Q a s o t
/-- the law's own end, with 1 on the stack, nothing written that was there before, its room as the claim has it -/
theorem lw_ret {p : Program} {l : Launch} {e : Env} {s : State} {m : MethodId} {below : List Frame} {meth : Method} {c : Code} {b : Nat} (hx : p.tables.exec = Jvm.exec) (hb : c.code = code) (hr : meth.sig.returnType = ret) (hlocks : meth.locks = false) {pc : Nat} {H : Heap} {ls : Array Slot} (hdg : decode code pc = .ok (.ireturn, 1)) : W p l e room_1 s m #[Value.ref b] below meth c H [] 600000 7302250 (lw_Z below #[Value.ref b] s) (F0 m pc ls [.int 1]) := by
  intro T hT X
  obtain ⟨fs, hret, hrun, hended, hW, hframe⟩ := X.leave (v := some (.int 1)) (hlocks := hlocks) (fun h => by rw [hr] at h; cases h)
  have hmeth' : T.vm.method? m = some meth := X.method'
  refine ⟨T.setFrames fs, ?_, .returned (some (.int 1)), hrun, hended, rfl, ⟨_, rfl⟩, hW, hframe⟩
  jvm_step X.here [X.here.top, hx, hb, hdg, hmeth', hr, ret, narrow_b1]
  (try refine ⟨rfl, ?_⟩); (try refine ⟨rfl, ?_⟩)
  first | (intro acts; rw [hret _ acts rfl rfl rfl]) | rw [hret _ _ rfl rfl rfl]
  exact Steps.refl _
/-- what holds at the law's entry: the machine, the code, the tables' words (any of lw_tbl by 'hts w (by decide +kernel)'), the script of L ints xs at the cell b, what the Statement gives of the start (any of its parts by flat_of_before) -/
def lw_At (p : Program) (s : State) (m : MethodId) (meth : Method) (c : Code) (b L : Nat) (xs : Nat → Int32) : Prop :=
  p.tables.exec = Jvm.exec ∧ c.code = code ∧ meth.sig.returnType = ret ∧ c.maxLocals = 4 ∧ s.vm.findClass R_law = some m.cls ∧ (∀ w ∈ lw_tbl, w.before #[Value.ref b] s = true) ∧ va_X b L xs s s.heap ∧ b < s.heap.size ∧ meth.locks = false ∧ (Jvm.Cond.and given_1 narrow_1).before #[Value.ref b] s = true
def im_inT (ws : List Cond) (ps : List Nat) : Bool := decide (ws.map some = ps.map (fun p => lw_tbl[p]?))
theorem im_inT_in {ws : List Cond} {ps : List Nat} (h : im_inT ws ps = true) : ∀ w ∈ ws, w ∈ lw_tbl := by
  simp only [im_inT, decide_eq_true_eq] at h
  intro w hw
  have h1 : some w ∈ ps.map (fun p => lw_tbl[p]?) := by rw [← h]; exact List.mem_map.mpr ⟨w, hw, rfl⟩
  obtain ⟨p, -, hp⟩ := List.mem_map.mp h1
  exact List.mem_of_getElem? hp
theorem im_nstT : ∀ w ∈ im_nst.map (fun q => Cond.methodLinkNest (im_cn q.1) q.2.1 (im_y q.2.2) RX9), w ∈ lw_tbl := im_inT_in (ps := [95, 110, 129, 145, 161, 271, 276, 298, 323, 381, 393, 461, 532, 549, 567, 634, 717, 865, 889]) (by decide +kernel)
theorem im_gsfT : ∀ w ∈ im_gsf.map (fun q => Cond.fieldLinkNest (im_cn q.1) q.2.1 RX9 (im_gsn q.2.2) "[I" RX9), w ∈ lw_tbl := im_inT_in (ps := [568, 866, 868]) (by decide +kernel)
theorem im_kssT : ∀ w ∈ im_kss.map (fun q => Cond.stringRef (im_cn q.1) q.2.1 (im_txs.getD q.2.2 "")), w ∈ lw_tbl := im_inT_in (ps := [277, 592, 593]) (by decide +kernel)
def im_oth : List Cond := [.laysStatic RX9 "KIND_ABOVE" "[I", .laysStatic RX9 "BODIES" "[I", .laysStatic "java/lang/String" "COMPACT_STRINGS" "Z", .initialized RX9, .initialized "java/lang/String", .arrayOver (.object RX0), .arrayOver (.object RX4), .arrayClass .int]
theorem im_othT : ∀ w ∈ im_oth, w ∈ lw_tbl := im_inT_in (ps := [569, 867, 648, 60, 72, 159, 321, 107]) (by decide +kernel)
def im_gv : List Cond := flatC (Jvm.Cond.and given_1 narrow_1)
def im_tm (i : Nat) : Term := [Term.string RX3 18, .string RX9 172, .string RX9 174].getD i (.string RX3 18)
def im_sl (i : Nat) : Nat := [0, 3, 3].getD i 0
theorem im_gvK : Cond.arrayOf (.static RX9 "KIND_ABOVE" "[I") .int ∈ im_gv ∧ Cond.eq (.length (.static RX9 "KIND_ABOVE" "[I")) (.int (Int32.ofNat 7)) ∈ im_gv ∧ ∀ j : Fin 7, Cond.eq (.elem (.static RX9 "KIND_ABOVE" "[I") (.int (Int32.ofNat j))) (.int (im_KA j)) ∈ im_gv := by decide +kernel
theorem im_gvB : Cond.arrayOf (.static RX9 "BODIES" "[I") .int ∈ im_gv ∧ Cond.eq (.length (.static RX9 "BODIES" "[I")) (.int (Int32.ofNat 28)) ∈ im_gv ∧ ∀ j : Fin 28, Cond.eq (.elem (.static RX9 "BODIES" "[I") (.int (Int32.ofNat j))) (.int (im_BO j)) ∈ im_gv := by decide +kernel
theorem im_gvC : Cond.eq (.static "java/lang/String" "COMPACT_STRINGS" "Z") (.int 1) ∈ im_gv := by decide +kernel
theorem im_gvS : ∀ i : Fin 3, Cond.exactly (im_tm i) "java/lang/String" ∈ im_gv ∧ Cond.eq (.field (im_tm i) "java/lang/String" "coder" "B") (.int 0) ∈ im_gv ∧ Cond.arrayOf (.field (im_tm i) "java/lang/String" "value" "[B") .byte ∈ im_gv ∧ Cond.eq (.length (.field (im_tm i) "java/lang/String" "value" "[B")) (.int (Int32.ofNat (im_sl i))) ∈ im_gv ∧ ∀ j : Fin (im_sl i), Cond.eq (.elem (.field (im_tm i) "java/lang/String" "value" "[B") (.int (Int32.ofNat j))) (.int ((im_byt.getD i []).getD j 0)) ∈ im_gv := by decide +kernel
theorem im_gvN : ∀ i j : Fin 3, i ≠ j → (Cond.not (Cond.eq (im_tm i) (im_tm j)) ∈ im_gv ∨ Cond.not (Cond.eq (im_tm j) (im_tm i)) ∈ im_gv) := by decide +kernel
theorem im_nwAll : ∀ ci : Fin 11, ∃ e ∈ im_nws, e.2.2 = ci := by decide +kernel
def im_M0 : im_M := (0, 0, fun _ => (0, 0), fun _ _ => .null)
/-- what holds at the law's entry, in the abstract machine's words -/
theorem im_start {p : Program} {s : State} {m : MethodId} {meth : Method} {c : Code} {b L : Nat} {xs : Nat → Int32} (hL : L ≤ 3072) (C0 : lw_At p s m meth c b L xs) : ∃ g : im_G, g.1 = s.heap.size ∧ im_ad g (im_RB + 2) = b ∧ im_Env (L, xs) g s s.heap := by
  obtain ⟨hx, hb, hr, hml, hown, hts, hX, hbl, hlocks, hgv⟩ := C0
  have hs : ∀ w ∈ im_gv, w.before #[Value.ref b] s = true := flat_of_before _ hgv
  have hA : ∀ a : Nat, a < s.heap.size → ¬ (fun q => s.heap.size ≤ q) a := fun a h q => by dsimp only at q; omega
  have htW : ∀ w ∈ im_W, w.before #[Value.ref b] s = true := fun w hw => hts w (List.mem_filter.mp hw).1
  have hcl : ∀ ci : Nat, ∃ q : ClassId × (Nat → Nat), ci < 11 → u_Kn s (im_cn ci) (im_T ci) (im_szs.getD ci 0) q.1 q.2 := by
    intro ci
    by_cases hci : ci < 11
    · obtain ⟨e, he, hq⟩ := im_nwAll ⟨ci, hci⟩
      have h1 := im_nwB (Cond.instantiable (im_cn e.2.2) (im_szs.getD e.2.2 0)) (List.mem_flatMap.mpr ⟨e, he, by simp⟩)
      dsimp only at hq
      rw [hq] at h1
      obtain ⟨cC, iS, hk⟩ := u_known htW (im_clW ci hci) (htW _ h1)
      exact ⟨(cC, iS), fun _ => hk⟩
    · exact ⟨(0, fun _ => 0), fun h => absurd h hci⟩
  obtain ⟨cl, hcl⟩ := Classical.axiomOfChoice hcl
  obtain ⟨c0, k0, comp0, e01, e02, e03⟩ := Cond.arrayClass_spec (hts (.arrayClass .int) (im_othT _ (by simp [im_oth])))
  obtain ⟨comp1, c1, k1, e11, -, e12, e13, e14⟩ := Cond.arrayOver_spec (hts (.arrayOver (.object RX0)) (im_othT _ (by simp [im_oth])))
  obtain ⟨comp2, c2, k2, e21, -, e22, e23, e24⟩ := Cond.arrayOver_spec (hts (.arrayOver (.object RX4)) (im_othT _ (by simp [im_oth])))
  obtain ⟨tK, hK1, hK2⟩ := va_Tof (tm := .static RX9 "KIND_ABOVE" "[I") (N := 7) (f := fun j => .int (im_KA j)) (by decide) (hs _ im_gvK.1) (va_eqt (hs _ im_gvK.2.1)) (fun j hj => va_eqt (hs _ (im_gvK.2.2 ⟨j, hj⟩))) hA
  obtain ⟨tB, hB1, hB2⟩ := va_Tof (tm := .static RX9 "BODIES" "[I") (N := 28) (f := fun j => .int (im_BO j)) (by decide) (hs _ im_gvB.1) (va_eqt (hs _ im_gvB.2.1)) (fun j hj => va_eqt (hs _ (im_gvB.2.2 ⟨j, hj⟩))) hA
  obtain ⟨adK, adV, hS1, hS2⟩ := vk_Sof (N := 3) (tm := im_tm) (len := [0, 3, 3]) (byt := im_byt) (A := fun q => s.heap.size ≤ q) (args := #[Value.ref b]) (s := s)
    (fun i hi => by rcases (show i = 0 ∨ i = 1 ∨ i = 2 by omega) with rfl | rfl | rfl <;> decide)
    (fun i hi => hs _ (im_gvS ⟨i, hi⟩).1) (fun i hi => hs _ (im_gvS ⟨i, hi⟩).2.1) (fun i hi => hs _ (im_gvS ⟨i, hi⟩).2.2.1) (fun i hi => hs _ (im_gvS ⟨i, hi⟩).2.2.2.1)
    (fun i hi j hj => hs _ ((im_gvS ⟨i, hi⟩).2.2.2.2 ⟨j, hj⟩))
    (fun i j hi hj hij => (im_gvN ⟨i, hi⟩ ⟨j, hj⟩ (fun q => hij (Fin.mk.inj q))).imp (fun h => hs _ h) (fun h => hs _ h)) hA
  let ro : Nat → Nat := fun j => if j = 0 then tK else if j = 1 then tB else if j = 2 then b else if j < 6 then adV (j - 3) else adK (j - 6)
  let g : im_G := (s.heap.size, ro, (fun ci => (cl ci).1, fun ci => (cl ci).2), fun k => if k = 0 then c0 else if k = 1 then c1 else c2)
  have had : ∀ k, im_ad g (im_RB + k) = ro k := by
    intro k
    unfold im_ad
    rw [if_neg (by omega), show im_RB + k - im_RB = k by omega]
  refine ⟨g, rfl, had 2, ?_⟩
  have hAg : im_A g = (fun q => s.heap.size ≤ q) := rfl
  refine ⟨⟨fun ci q hq => ?_, fun k q hk => ?_⟩, fun q hq => va_Nw.of rfl (hts _ (im_nstT _ (List.mem_map.mpr ⟨q, hq, rfl⟩))), fun q hq => va_Nw.of rfl (hts _ (im_gsfT _ (List.mem_map.mpr ⟨q, hq, rfl⟩))), fun k hk => ?_, va_Zof (hts _ (im_othT _ (by simp [im_oth]))) (hts _ (im_othT _ (by simp [im_oth]))) (va_eqi (hs _ im_gvC)) hA, fun j n f hj => ?_, ?_, fun q hq => ?_, va_AO.of (hts _ (im_othT _ (by simp [im_oth]))), va_AO.of (hts _ (im_othT _ (by simp [im_oth])))⟩
  · have hci : ci < 11 := (List.getElem?_eq_some_iff.mp hq).1
    rw [im_cls ci hci] at hq
    cases hq
    exact hcl ci hci
  · have hk3 : k < 3 := (List.getElem?_eq_some_iff.mp hk).1
    rcases (show k = 0 ∨ k = 1 ∨ k = 2 by omega) with rfl | rfl | rfl
    · cases hk
      exact ⟨fun n z => ⟨fun k h => (by cases h), k0, e02, comp0, e03⟩, e01⟩
    · cases hk
      exact ⟨fun n z => ⟨fun k h => (by cases h), k1, e12, comp1, e13⟩, k1, comp1, e12, e13, e11, e14⟩
    · cases hk
      exact ⟨fun n z => ⟨fun k h => (by cases h), k2, e22, comp2, e23⟩, k2, comp2, e22, e23, e21, e24⟩
  · rw [had]
    rcases (show k = 0 ∨ k = 1 by omega) with rfl | rfl
    · exact va_Zof (hts _ (im_othT _ (by simp [im_oth, im_gsn]))) (hts _ (im_othT _ (by simp [im_oth]))) hK1 hA
    · exact va_Zof (hts _ (im_othT _ (by simp [im_oth, im_gsn]))) (hts _ (im_othT _ (by simp [im_oth]))) hB1 hA
  · rw [had]
    unfold im_ro at hj
    split at hj
    · cases hj; exact hK2
    · cases hj; exact hB2
    · cases hj
      obtain ⟨scr, h1, h2, h3, h4, h5⟩ := hX
      exact ⟨scr, h1, h2, h3, Nat.le_of_eq h4.symm, (by rw [h4]), h5, hA b hbl⟩
    · cases hj
    · cases hj
    · cases hj
    · cases hj
  · have e1 : (fun i => im_ad g (im_RB + 6 + i)) = adK := funext fun i => by
      rw [Nat.add_assoc, had]
      show (if 6 + i = 0 then _ else _) = _
      rw [if_neg (by omega), if_neg (by omega), if_neg (by omega), if_neg (by omega), show 6 + i - 6 = i by omega]
    have e2 : ∀ i, i < 3 → im_ad g (im_RB + 3 + i) = adV i := fun i hi => by
      rw [Nat.add_assoc, had]
      show (if 3 + i = 0 then _ else _) = _
      rw [if_neg (by omega), if_neg (by omega), if_neg (by omega), if_pos (by omega), show 3 + i - 3 = i by omega]
    rw [e1]
    refine ⟨fun i hi => ?_, hS1.2⟩
    dsimp only
    rw [e2 i hi]
    exact hS1.1 i hi
  · have hq3 : ∃ i, i < 3 ∧ q.2.2 = i ∧ Term.string (im_cn q.1) q.2.1 = im_tm i := by
      simp only [im_kss, List.mem_cons, List.not_mem_nil, or_false] at hq
      rcases hq with rfl | rfl | rfl
      · exact ⟨0, by omega, rfl, rfl⟩
      · exact ⟨1, by omega, rfl, rfl⟩
      · exact ⟨2, by omega, rfl, rfl⟩
    obtain ⟨i, hi, e1, e2⟩ := hq3
    have h1 := hts _ (im_kssT _ (List.mem_map.mpr ⟨q, hq, rfl⟩))
    have h2 := hS2 i hi
    rw [← e2] at h2
    have e3 : im_ad g (im_RB + 6 + q.2.2) = adK i := by
      rw [e1, Nat.add_assoc, had]
      show (if 6 + i = 0 then _ else _) = _
      rw [if_neg (by omega), if_neg (by omega), if_neg (by omega), if_neg (by omega), show 6 + i - 6 = i by omega]
    rw [e3]
    have h3 : (Cond.stringRef (im_cn q.1) q.2.1 (im_txs.getD q.2.2 "")).before #[] s = true := h1
    exact vk_R.of h3 h2
/-- the claim out of the abstract machine's run of the law -/
theorem whole_of {p : Program} {e : Env} {s : State} {m : MethodId} {below : List Frame} {meth : Method} {c : Code} (l : Launch) {b L : Nat} {xs : Nat → Int32} (hL : L ≤ 3072) (C0 : lw_At p s m meth c b L xs)
    (hgo : ∃ (n d : Nat) (M' : im_M), im_run (L, xs) n d 238 (0, im_ent 4 [.ref (im_RB + 2)], [], im_M0) = some (some (.int 1), M') ∧ d ≤ 2000 ∧ M'.1 ≤ 600000 ∧ M'.2.1 ≤ 7302250) : W p l e room_1 s m #[Value.ref b] below meth c s.heap [] 0 0 (lw_Z below #[Value.ref b] s) (entryFrame m ([Value.ref b] : List Value).toArray 4) := by
  obtain ⟨g, hg1, hg2, hE⟩ := im_start hL C0
  obtain ⟨hx, hb, hr, hml, hown, hts, hX, hbl, hlocks, hgv⟩ := id C0
  obtain ⟨n, d, M', hrun, hd, hc, hs⟩ := hgo
  rw [lg_entry_eq]
  have hLs := im_L.ent (g := g) (n := 4) (as := [.ref (im_RB + 2)]) (by decide)
  have e0 : ([.ref (im_RB + 2)] : List Value).map (im_v g) = [.ref b] := by simp [im_v, hg2]
  rw [e0] at hLs
  have htW : ∀ w ∈ im_W, w.before #[Value.ref b] s = true := fun w hw => hts w (List.mem_filter.mp hw).1
  have hnm : (im_y 238).name = "<init>" → meth.name = "<init>" := fun h => absurd h (by decide)
  refine im_snd (L, xs) g l n d 238 _ _ M' hrun (by omega) ⟨hx, hb, hr, hml, hown, hlocks, hnm, htW, hE, Nat.le_of_eq hg1⟩ (by show d + 1 ≤ 2048; omega) (by show 40 * (d + 1) ≤ 84000; omega) (by show 0 + M'.1 ≤ 600000 + 0; omega) (by show 0 + M'.2.1 ≤ 7302250 + 0; omega) ⟨by rw [hg1]; rfl, Nat.zero_le _, fun k hk => absurd hk (Nat.not_lt_zero k)⟩ va_S.rf hLs rfl ?_
  intro pc1 lsC1 H1 locs1 cells1 slots1 hP1 hS1 hc1 hs1 hRt
  have hc1' : cells1 + 0 = 0 + M'.1 := hc1
  have hs1' : slots1 + 0 = 0 + M'.2.1 := hs1
  obtain ⟨hdg, -⟩ := hRt
  refine va_forget (fun q hq => by have := hS1.2.2 q hq; rw [← hg1]; exact this) ?_
  refine W.widen (k := 600000) (n := 7302250) (by omega) (by omega) ?_
  exact lw_ret hx hb hr hlocks hdg
