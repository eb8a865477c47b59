/-! THE LAW'S FIRST STEPS: the two objects are made -/
theorem im_P_eq {g : im_G} {M M' : im_M} {H : Heap} (h : im_P g M H) (h1 : M'.1 = M.1) (hk : ∀ k, k < M.1 → M'.2.2.1 k = M.2.2.1 k) (hv : ∀ k j, k < M.1 → j < (M.2.2.1 k).2 → M'.2.2.2 k j = M.2.2.2 k j) : im_P g M' H := by
  refine ⟨by rw [h1]; exact h.1, by rw [h1]; exact h.2.1, fun k hkl => ?_⟩
  rw [h1] at hkl
  rw [hk k hkl]
  refine ⟨(h.2.2 k hkl).1, ?_⟩
  have e : va_at g.2.2.1 vwCl (g.1 + k, im_cell g (M'.2.2.1 k) (M'.2.2.2 k)) H = va_at g.2.2.1 vwCl (g.1 + k, im_cell g (M.2.2.1 k) (M.2.2.2 k)) H := by
    rw [hk k hkl]
    unfold im_cell
    split
    · have e1 : (List.range (M.2.2.1 k).2).map (fun i => im_v g (M'.2.2.2 k i)) = (List.range (M.2.2.1 k).2).map (fun i => im_v g (M.2.2.2 k i)) := List.map_congr_left fun i hi => by rw [hv k i hkl (List.mem_range.mp hi)]
      rw [e1]
    · split
      · show (H[g.1 + k]? = some (arrV _ (M.2.2.1 k).2 fun j => .int (im_int (M'.2.2.2 k j)))) = (H[g.1 + k]? = some (arrV _ (M.2.2.1 k).2 fun j => .int (im_int (M.2.2.2 k j))))
        have e1 : arrV (g.2.2.2 0) (M.2.2.1 k).2 (fun j => .int (im_int (M'.2.2.2 k j))) = arrV (g.2.2.2 0) (M.2.2.1 k).2 (fun j => .int (im_int (M.2.2.2 k j))) := by
          unfold arrV
          have e2 : (fun j : Fin (M.2.2.1 k).2 => Value.int (im_int (M'.2.2.2 k j))) = fun j : Fin (M.2.2.1 k).2 => Value.int (im_int (M.2.2.2 k j)) := funext fun j => by rw [hv k j hkl j.2]
          rw [e2]
        rw [e1]
      · show (H[g.1 + k]? = some (arrV _ (M.2.2.1 k).2 fun j => va_rf (im_opt g (M'.2.2.2 k j)))) = (H[g.1 + k]? = some (arrV _ (M.2.2.1 k).2 fun j => va_rf (im_opt g (M.2.2.2 k j))))
        have e1 : arrV (g.2.2.2 ((M.2.2.1 k).1 - 11)) (M.2.2.1 k).2 (fun j => va_rf (im_opt g (M'.2.2.2 k j))) = arrV (g.2.2.2 ((M.2.2.1 k).1 - 11)) (M.2.2.1 k).2 (fun j => va_rf (im_opt g (M.2.2.2 k j))) := by
          unfold arrV
          have e2 : (fun j : Fin (M.2.2.1 k).2 => va_rf (im_opt g (M'.2.2.2 k j))) = fun j : Fin (M.2.2.1 k).2 => va_rf (im_opt g (M.2.2.2 k j)) := funext fun j => by rw [hv k j hkl j.2]
          rw [e2]
        rw [e1]
  have h2 := (h.2.2 k hkl).2
  rw [hk k hkl] at e
  exact e ▸ h2
theorem ini_P {g : im_G} {H : Heap} (h : im_P g ini4 H) : im_P g (mem s0) H := by
  have hk : ∀ k, k < ini4.1 → (mem s0).2.2.1 k = ini4.2.2.1 k := fun k hk => (ini_kd ⟨k, by rw [ini_4k.1] at hk; exact hk⟩).symm
  refine im_P_eq h ini_4k.1.symm hk fun k j hkl hj => ?_
  have hk2 : k < 106 := by rw [ini_4k.1] at hkl; exact hkl
  rw [← hk k hkl] at hj
  exact (ini_v hk2 hj).symm
def lwl (o : Option Value) : List (Option Value) := [some (.ref (im_RB + 2)), o, none, none]

section PRE
variable {X : im_E}
theorem lw_ow : im_ow 238 = 11 := rfl
theorem pre_0 : im_step X 238 (0, im_ent 4 [.ref (im_RB + 2)], [], im_M0) = some (.inl (3, lwl none, [.ref 0], ini1)) := by
  refine im_step_of cc_238 dL_law_0 ?_
  have e : im_nw (im_ow 238) 7 = some 9 := by rw [lw_ow]; decide
  simp only [im_in, e]
  rfl
theorem pre_3 : im_step X 238 (3, lwl none, [.ref 0], ini1) = some (.inl (4, lwl none, [.ref 0, .ref 0], ini1)) := im_step_of cc_238 dL_law_3 rfl
theorem pre_4 : im_step X 238 (4, lwl none, [.ref 0, .ref 0], ini1) = some (.inr (.inr (0, [.ref 0], (7, lwl none, [.ref 0], ini1)))) := by
  refine im_step_of cc_238 dL_law_4 ?_
  have e : im_lk (im_ow 238) 9 = some (2, 0, 0) := by rw [lw_ow]; decide
  simp only [im_in, im_call, e]
  rfl
theorem pre_7 {M : im_M} : im_step X 238 (7, lwl none, [.ref 0], M) = some (.inl (8, lwl (some (.ref 0)), [], M)) := im_step_of cc_238 dL_law_7 rfl
theorem pre_8 {ini2 : im_M} (ini_1k : ini2.1 = 95) : im_step X 238 (8, lwl (some (.ref 0)), [], ini2) = some (.inl (11, lwl (some (.ref 0)), [.ref 95], im_dM ini2 10)) := by
  refine im_step_of cc_238 dL_law_8 ?_
  have e : im_nw (im_ow 238) 10 = some 10 := by rw [lw_ow]; decide
  simp only [im_in, e]
  rw [ini_1k]
  rfl
theorem pre_11 {M : im_M} : im_step X 238 (11, lwl (some (.ref 0)), [.ref 95], M) = some (.inl (12, lwl (some (.ref 0)), [.ref 95, .ref 95], M)) := im_step_of cc_238 dL_law_11 rfl
theorem pre_12 {M : im_M} : im_step X 238 (12, lwl (some (.ref 0)), [.ref 95, .ref 95], M) = some (.inr (.inr (148, [.ref 95], (15, lwl (some (.ref 0)), [.ref 95], M)))) := by
  refine im_step_of cc_238 dL_law_12 ?_
  have e : im_lk (im_ow 238) 12 = some (2, 148, 0) := by rw [lw_ow]; decide
  simp only [im_in, im_call, e]
  rfl
theorem pre_15 {M : im_M} : im_step X 238 (15, lwl (some (.ref 0)), [.ref 95], M) = some (.inl (16, [some (.ref (im_RB + 2)), some (.ref 0), some (.ref 95), none], [], M)) := im_step_of cc_238 dL_law_15 rfl
theorem pre_16 {M : im_M} : im_step X 238 (16, [some (.ref (im_RB + 2)), some (.ref 0), some (.ref 95), none], [], M) = some (.inl (17, [some (.ref (im_RB + 2)), some (.ref 0), some (.ref 95), none], [.int 0], M)) := im_step_of cc_238 dL_law_16 rfl
theorem pre_17 {M : im_M} : im_step X 238 (17, [some (.ref (im_RB + 2)), some (.ref 0), some (.ref 95), none], [.int 0], M) = some (.inl (18, [some (.ref (im_RB + 2)), some (.ref 0), some (.ref 95), some (.int 0)], [], M)) := im_step_of cc_238 dL_law_17 rfl
end PRE
section PREW
variable {p : Program} {l : Launch} {e : Env} {s : State} {m : MethodId} {args : Array Value} {below : List Frame} {meth : Method} {cd : Code} {Q : State → Prop} {X : im_E} {g : im_G} {ini2 ini4 : im_M}
theorem pre_A (hC : im_Ctx X g 238 p s m args meth cd) (hrA : im_run X 3000 10 0 (0, im_ent 2 [.ref 0], [], ini1) = some (none, ini2)) (ini_1k : ini2.1 = 95) (ini_2k : ini2.2.1 ≤ 3016) (hP0 : im_P g im_M0 s.heap) {lsC : Array Slot} (hLs : im_L g lsC (im_ent 4 [.ref (im_RB + 2)]))
    (kk : ∀ (H4 : Heap) (locs4 : List Loc) (lsC4 : Array Slot) (cells4 slots4 : Nat), im_P g ini2 H4 → va_S (im_A g) s.heap H4 locs4 → im_L g lsC4 (lwl (some (.ref 0))) → cells4 ≤ 95 → slots4 ≤ 3016 → W p l e room_1 s m args below meth cd H4 locs4 cells4 slots4 Q (F0 m 8 lsC4 [])) : W p l e room_1 s m args below meth cd s.heap [] 0 0 Q (F0 m 0 lsC []) := by
  have R1 : room_1.frames = 2048 := rfl
  have R2 : room_1.locals = 84000 := rfl
  have R3 : room_1.cells = 600000 := rfl
  have R4 : room_1.slots = 7302250 := rfl
  have hml4 : im_ml 238 = 4 := rfl
  have i1 : ini1.1 = 1 ∧ ini1.2.1 ≤ 3016 := by decide
  have mA := im_met (im_snd X g l 3000) hrA (by decide) (by decide)
  refine im_stepW hC pre_0 hP0 va_S.rf hLs rfl (by omega) (by omega) (by show 0 + ini1.1 ≤ 600000 + 0; omega) (by show 0 + ini1.2.1 ≤ 7302250 + 0; omega) ?_
  intro H1 locs1 lsC1 cells1 slots1 hP1 hS1 hL1 hl1 hc1 hs1
  have hc1' : cells1 + 0 = 0 + ini1.1 := hc1
  have hs1' : slots1 + 0 = 0 + ini1.2.1 := hs1
  refine im_stepW hC pre_3 hP1 hS1 hL1 rfl (by omega) (by omega) (by show cells1 + ini1.1 ≤ 600000 + ini1.1; omega) (by show slots1 + ini1.2.1 ≤ 7302250 + ini1.2.1; omega) ?_
  intro H2 locs2 lsC2 cells2 slots2 hP2 hS2 hL2 hl2 hc2 hs2
  have hc2' : cells2 + ini1.1 = cells1 + ini1.1 := hc2
  have hs2' : slots2 + ini1.2.1 = slots1 + ini1.2.1 := hs2
  obtain ⟨rest, er, hcl⟩ := im_callI (X := X) pre_4
  obtain rfl : [.ref 0] = rest := by cases er; rfl
  refine im_callW hC hcl (by decide) mA (by omega) (by omega) (by show cells2 + (ini2.1 - ini1.1) ≤ 600000; omega) (by show slots2 + (ini2.2.1 - ini1.2.1) ≤ 7302250; omega) hP2 hS2 (by rw [hL2.1, hml4]; rfl) ?_
  intro H3 locs3 hP3 hS3
  refine im_stepW hC (M := ini2) (pre_7 (M := ini2)) (st := [.ref 0]) hP3 hS3 hL2 rfl (by omega) (by omega) (by show cells2 + (ini2.1 - ini1.1) + ini2.1 ≤ 600000 + ini2.1; omega) (by show slots2 + (ini2.2.1 - ini1.2.1) + ini2.2.1 ≤ 7302250 + ini2.2.1; omega) ?_
  intro H4 locs4 lsC4 cells4 slots4 hP4 hS4 hL4 hl4 hc4 hs4
  have hc4' : cells4 + ini2.1 = cells2 + (ini2.1 - ini1.1) + ini2.1 := hc4
  have hs4' : slots4 + ini2.2.1 = slots2 + (ini2.2.1 - ini1.2.1) + ini2.2.1 := hs4
  exact kk H4 locs4 lsC4 cells4 slots4 hP4 hS4 hL4 (by omega) (by omega)
theorem pre_B (hC : im_Ctx X g 238 p s m args meth cd) (hrB : im_run X 3000 10 148 (0, im_ent 2 [.ref 95], [], im_dM ini2 10) = some (none, ini4)) (ini_1k : ini2.1 = 95) (ini_4k : ini4.1 = 106 ∧ ini4.2.1 = 3016 ∧ ini2.2.1 ≤ 3016) {H4 : Heap} {locs4 : List Loc} {lsC4 : Array Slot} {cells4 slots4 : Nat} (hP4 : im_P g ini2 H4) (hS4 : va_S (im_A g) s.heap H4 locs4) (hL4 : im_L g lsC4 (lwl (some (.ref 0)))) (hc4 : cells4 ≤ 95) (hs4 : slots4 ≤ 3016)
    (kk : ∀ (Ha : Heap) (locsa : List Loc) (lsCa : Array Slot) (cellsa slotsa : Nat), im_P g ini4 Ha → va_S (im_A g) s.heap Ha locsa → im_L g lsCa [some (.ref (im_RB + 2)), some (.ref 0), some (.ref 95), some (.int 0)] → cellsa ≤ 300 → slotsa ≤ 9000 → W p l e room_1 s m args below meth cd Ha locsa cellsa slotsa Q (F0 m 18 lsCa [])) : W p l e room_1 s m args below meth cd H4 locs4 cells4 slots4 Q (F0 m 8 lsC4 []) := by
  have R1 : room_1.frames = 2048 := rfl
  have R2 : room_1.locals = 84000 := rfl
  have R3 : room_1.cells = 600000 := rfl
  have R4 : room_1.slots = 7302250 := rfl
  have hml4 : im_ml 238 = 4 := rfl
  have i4 : ini4.1 = 106 ∧ ini4.2.1 = 3016 := ⟨ini_4k.1, ini_4k.2.1⟩
  have i3 : (im_dM ini2 10).1 = 96 ∧ (im_dM ini2 10).2.1 = ini2.2.1 + 19 := ⟨by show ini2.1 + 1 = 96; rw [ini_1k], by show ini2.2.1 + im_szs.getD 10 0 = ini2.2.1 + 19; rw [show im_szs.getD 10 0 = 19 by decide]⟩
  have mB := im_met (im_snd X g l 3000) hrB (by decide) (by decide)
  have i5 := ini_4k.2.2
  refine im_stepW hC (pre_8 ini_1k) hP4 hS4 hL4 rfl (by omega) (by omega) (by show cells4 + (im_dM ini2 10).1 ≤ 600000 + ini2.1; omega) (by show slots4 + (im_dM ini2 10).2.1 ≤ 7302250 + ini2.2.1; omega) ?_
  intro H5 locs5 lsC5 cells5 slots5 hP5 hS5 hL5 hl5 hc5 hs5
  have hc5' : cells5 + ini2.1 = cells4 + (im_dM ini2 10).1 := hc5
  have hs5' : slots5 + ini2.2.1 = slots4 + (im_dM ini2 10).2.1 := hs5
  refine im_stepW hC (pre_11 (M := (im_dM ini2 10))) hP5 hS5 hL5 rfl (by omega) (by omega) (by show cells5 + (im_dM ini2 10).1 ≤ 600000 + (im_dM ini2 10).1; omega) (by show slots5 + (im_dM ini2 10).2.1 ≤ 7302250 + (im_dM ini2 10).2.1; omega) ?_
  intro H6 locs6 lsC6 cells6 slots6 hP6 hS6 hL6 hl6 hc6 hs6
  have hc6' : cells6 + (im_dM ini2 10).1 = cells5 + (im_dM ini2 10).1 := hc6
  have hs6' : slots6 + (im_dM ini2 10).2.1 = slots5 + (im_dM ini2 10).2.1 := hs6
  obtain ⟨rest, er, hcl⟩ := im_callI (X := X) (pre_12 (M := (im_dM ini2 10)))
  obtain rfl : [.ref 95] = rest := by cases er; rfl
  refine im_callW hC hcl (by decide) mB (by omega) (by omega) (by show cells6 + (ini4.1 - (im_dM ini2 10).1) ≤ 600000; omega) (by show slots6 + (ini4.2.1 - (im_dM ini2 10).2.1) ≤ 7302250; omega) hP6 hS6 (by rw [hL6.1, hml4]; rfl) ?_
  intro H7 locs7 hP7 hS7
  refine im_stepW hC (M := ini4) (pre_15 (M := ini4)) (st := [.ref 95]) hP7 hS7 hL6 rfl (by omega) (by omega) (by show cells6 + (ini4.1 - (im_dM ini2 10).1) + ini4.1 ≤ 600000 + ini4.1; omega) (by show slots6 + (ini4.2.1 - (im_dM ini2 10).2.1) + ini4.2.1 ≤ 7302250 + ini4.2.1; omega) ?_
  intro H8 locs8 lsC8 cells8 slots8 hP8 hS8 hL8 hl8 hc8 hs8
  have hc8' : cells8 + ini4.1 = cells6 + (ini4.1 - (im_dM ini2 10).1) + ini4.1 := hc8
  have hs8' : slots8 + ini4.2.1 = slots6 + (ini4.2.1 - (im_dM ini2 10).2.1) + ini4.2.1 := hs8
  refine im_stepW hC (pre_16 (M := ini4)) hP8 hS8 hL8 rfl (by omega) (by omega) (by show cells8 + ini4.1 ≤ 600000 + ini4.1; omega) (by show slots8 + ini4.2.1 ≤ 7302250 + ini4.2.1; omega) ?_
  intro H9 locs9 lsC9 cells9 slots9 hP9 hS9 hL9 hl9 hc9 hs9
  have hc9' : cells9 + ini4.1 = cells8 + ini4.1 := hc9
  have hs9' : slots9 + ini4.2.1 = slots8 + ini4.2.1 := hs9
  refine im_stepW hC (pre_17 (M := ini4)) hP9 hS9 hL9 rfl (by omega) (by omega) (by show cells9 + ini4.1 ≤ 600000 + ini4.1; omega) (by show slots9 + ini4.2.1 ≤ 7302250 + ini4.2.1; omega) ?_
  intro Ha locsa lsCa cellsa slotsa hPa hSa hLa hla hca hsa
  have hca' : cellsa + ini4.1 = cells9 + ini4.1 := hca
  have hsa' : slotsa + ini4.2.1 = slots9 + ini4.2.1 := hsa
  exact kk Ha locsa lsCa cellsa slotsa hPa hSa hLa (by omega) (by omega)
end PREW
theorem whole_ev0 {ini2 ini4 : im_M} (ini_r2 : im_runP 3000 10 0 (0, im_ent 2 [.ref 0], [], ini1) = some (none, ini2)) (ini_r4 : im_runP 3000 10 148 (0, im_ent 2 [.ref 95], [], im_dM ini2 10) = some (none, ini4)) (ini_1k : ini2.1 = 95) (ini_4k : ini4.1 = 106 ∧ ini4.2.1 = 3016 ∧ ini2.2.1 ≤ 3016) (ini_P : ∀ {g : im_G} {H : Heap}, im_P g ini4 H → im_P g (mem s0) H) {p : Program} {e : Env} {s : State} {m : MethodId} {below : List Frame} {meth : Method} {c : Code} (l : Launch) {b L : Nat} {xs : Nat → Int32} (hL : L ≤ 3072) (C0 : lw_At p s m meth c b L xs) {dd : Nat} (hd : dd ≤ 1999)
    (hgo : Ev (L, xs) (dd + 1) 238 18 [some (.ref (im_RB + 2)), some (.ref 0), some (.ref 95), some (.int 0)] [] (mem s0) (fun r M => r = some (.int 1) ∧ ∃ σ, M = mem σ)) : W p l e room_1 s m #[Value.ref b] below meth c s.heap [] 0 0 (lw_Z below #[Value.ref b] s) (entryFrame m ([Value.ref b] : List Value).toArray 4) := by
  obtain ⟨g, hg1, hg2, hE⟩ := im_start hL C0
  obtain ⟨hx, hb, hr, hml, hown, hts, hX, hbl, hlocks, hgv⟩ := id C0
  obtain ⟨n, r, M', hrun, rfl, σ1, rfl⟩ := hgo
  rw [lg_entry_eq]
  have hLs := im_L.ent (g := g) (n := 4) (as := [.ref (im_RB + 2)]) (by decide)
  have e0 : ([.ref (im_RB + 2)] : List Value).map (im_v g) = [.ref b] := by simp [im_v, hg2]
  rw [e0] at hLs
  have htW : ∀ w ∈ im_W, w.before #[Value.ref b] s = true := fun w hw => hts w (List.mem_filter.mp hw).1
  have hnm : (im_y 238).name = "<init>" → meth.name = "<init>" := fun h => absurd h (by decide)
  have hC : im_Ctx (L, xs) g 238 p s m #[Value.ref b] meth c := ⟨hx, hb, hr, hml, hown, hlocks, hnm, htW, hE, Nat.le_of_eq hg1⟩
  have hP0 : im_P g im_M0 s.heap := ⟨by rw [hg1]; rfl, Nat.zero_le _, fun k hk => absurd hk (Nat.not_lt_zero k)⟩
  refine pre_A (X := (L, xs)) hC (im_runP_run _ _ _ _ _ ini_r2) ini_1k ini_4k.2.2 hP0 hLs ?_
  intro H4 locs4 lsC4 cells4 slots4 hP4 hS4 hL4 hc4 hs4
  refine pre_B (X := (L, xs)) hC (im_runP_run _ _ _ _ _ ini_r4) ini_1k ini_4k hP4 hS4 hL4 hc4 hs4 ?_
  intro Ha locsa lsCa cellsa slotsa hPa hSa hLa hca hsa
  have R3 : room_1.cells = 600000 := rfl
  have R4 : room_1.slots = 7302250 := rfl
  refine im_snd (L, xs) g l n (dd + 1) 238 (18, [some (.ref (im_RB + 2)), some (.ref 0), some (.ref 95), some (.int 0)], [], mem s0) _ _ hrun (by omega) hC (by show dd + 1 + 1 ≤ 2048; omega) (by show 40 * (dd + 1 + 1) ≤ 84000; omega) (by show cellsa + 106 ≤ 600000 + 106; omega) (by show slotsa + 3016 ≤ 7302250 + 3016; omega) (ini_P hPa) hSa hLa rfl ?_
  intro pcb lsCb Hb locsb cellsb slotsb hPb hSb hcb hsb hRt
  have hcb' : cellsb + 106 = cellsa + 106 := hcb
  have hsb' : slotsb + 3016 = slotsa + 3016 := hsb
  obtain ⟨hdg, -⟩ := hRt
  refine va_forget (fun q hq => by have := hSb.2.2 q hq; rw [← hg1]; exact this) ?_
  refine W.widen (k := 600000) (n := 7302250) (by omega) (by omega) ?_
  exact lw_ret hx hb hr hlocks hdg

theorem whole_ev {p : Program} {e : Env} {s : State} {m : MethodId} {below : List Frame} {meth : Method} {c : Code} (l : Launch) {b L : Nat} {xs : Nat → Int32} (hL : L ≤ 3072) (C0 : lw_At p s m meth c b L xs) {dd : Nat} (hd : dd ≤ 1999)
    (hgo : Ev (L, xs) (dd + 1) 238 18 [some (.ref (im_RB + 2)), some (.ref 0), some (.ref 95), some (.int 0)] [] (mem s0) (fun r M => r = some (.int 1) ∧ ∃ σ, M = mem σ)) : W p l e room_1 s m #[Value.ref b] below meth c s.heap [] 0 0 (lw_Z below #[Value.ref b] s) (entryFrame m ([Value.ref b] : List Value).toArray 4) := whole_ev0 ini_r2 ini_r4 ini_1k ini_4k ini_P l hL C0 hd hgo
