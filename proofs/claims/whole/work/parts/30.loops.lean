/-! UNITS TOGETHER, AND THE LOOPS -/
section E30
variable {B : Nat → Int32} {n u : Nat}
theorem CS.mono {i mx K K' : Nat} {o : Int32} {p : Nat} {ok : Bool} {p' : Nat} {code : List Int32} (h : CS B n u i mx K o p ok p' code) (hK : K ≤ K') : CS B n u i mx K' o p ok p' code := fun X e σ dr he => h X e σ dr (Nat.le_trans hK he)
theorem MS.mono {i mx K K' : Nat} {o : Int32} {p : Nat} {ok : Bool} {p' : Nat} {code : List Int32} (h : MS B n u i mx K o p ok p' code) (hK : K ≤ K') : MS B n u i mx K' o p ok p' code := fun X e σ base a b c he => h X e σ base a b c (Nat.le_trans hK he)
theorem nv_1 {p : Nat} (h : 48 ≤ nx B n p ∧ nx B n p ≤ 57) : 1 + p ≤ (nv B n 4 0 p).2 := by
  have z := nx_lt (Int32.le_trans (show (0 : Int32) ≤ 48 by decide) h.1)
  have e : nv B n 4 0 p = nv B n 3 (0 * 10 + nx B n p - 48) (p + 1) := by rw [nv, if_pos h]
  rw [e]
  have y := (nv_p (B := B) (k := 3) (v := 0 * 10 + nx B n p - 48) (show p + 1 ≤ n by omega)).1
  omega
theorem unit_base (hu : u = 0 ∨ u = 1) (hB : BV B n) (o : Int32) (K : Nat) (hK : 5 ≤ K) {p : Nat} (hp : p ≤ n) (h3 : nx B n p = 33 → 5 ≤ o ∧ o = 5) (h4 : nx B n p = 40 → 5 ≤ o ∧ o = 5) : SIM B n u 72 4 159 5 K o p := by
  by_cases h1 : 48 ≤ nx B n p ∧ nx B n p ≤ 57
  · exact ⟨true, (nv B n 4 0 p).2, [(nv B n 4 0 p).1], (nv_p hp).1, (nv_p hp).2, (fun _ => nv_1 h1), (CU_num hu hB hp hK h1).mono hK, (MU_num hu hB hp hK h1).mono hK⟩
  · by_cases h2 : nmi u (nx B n p) < 0
    · exact ⟨false, p, [], Nat.le_refl _, hp, (fun q => nomatch q), (CU_fail hu hB hp hK h1 h2 (fun q => (h3 q).1) (fun q => (h4 q).1)).mono hK, (MU_fail hu hB hp hK h1 h2 (fun q => (h3 q).2) (fun q => (h4 q).2)).mono hK⟩
    · have hpn : p < n := by
        refine nx_lt (B := B) ?_
        rcases nx_rng hB p with q | q
        · rw [q, nmi_none (by decide) (by decide) (by decide) (by decide) (by decide)] at h2; exact absurd (by decide) h2
        · exact q.1
      exact ⟨true, p + 1, _, by omega, hpn, fun _ => by simp only [List.length_cons, List.length_nil]; omega, (CU_name hu hB hp hK h1 h2).mono hK, (MU_name hu hB hp hK h1 h2).mono hK⟩
theorem unit_sim (hu : u = 0 ∨ u = 1) (hB : BV B n) (o : Int32) (ho : ¬ 5 ≤ o) (K : Nat) (hK : 5 ≤ K) (hU : ∀ q, q ≤ n → SIM B n u 72 4 159 5 K (o + 1) q) (hO : ∀ q, q ≤ n → SIM B n u 67 3 154 3 K (o + 1) q) {p : Nat} (hp : p ≤ n) : SIM B n u 72 4 159 5 (K + 1) o p := by
  have ho5 : ¬ o = 5 := fun q => ho (by rw [q]; exact Int32.le_refl _)
  by_cases q1 : nx B n p = 33
  · have hpn : p < n := nx_lt (by rw [q1]; decide)
    obtain ⟨ok, p2, code, g1, g2, g3, g4, g5⟩ := hU (p + 1) hpn
    exact ⟨ok, p2, code ++ [-33], by omega, g2, fun q => by have := g3 q; simp only [List.length_append, List.length_cons, List.length_nil]; omega, CU_not hu hB hp hK q1 ho g4 g3 g2, MU_not hu hB hp hK q1 ho5 g5⟩
  · by_cases q2 : nx B n p = 40
    · have hpn : p < n := nx_lt (by rw [q2]; decide)
      obtain ⟨ok, p2, code, g1, g2, g3, g4, g5⟩ := hO (p + 1) hpn
      refine ⟨_, _, code, ?_, ?_, fun q => ?_, CU_par hu hB hp hK q2 ho g4 g2, MU_par hu hB hp hK q2 ho5 g5 g2⟩
      · split <;> omega
      · split
        · rename_i z
          exact nx_lt (by rw [z.2]; decide)
        · exact g2
      · simp only [Bool.and_eq_true, decide_eq_true_eq] at q
        rw [if_pos q]
        have := g3 q.1
        omega
    · exact unit_base hu hB o (K + 1) (by omega) hp (fun q => absurd q q1) (fun q => absurd q q2)
theorem stp_op {a b c s l r : Int32} {q : List Int32} (hs : isop s) : stp a b c (-s) (r :: l :: q) = some (jnd s l r :: q) := by
  have t7 : ¬ -3 ≤ -s := by rcases hs with rfl | rfl | rfl | rfl | rfl | rfl | rfl | rfl | rfl | rfl <;> decide
  have tD : ¬ -s = -33 := by rcases hs with rfl | rfl | rfl | rfl | rfl | rfl | rfl | rfl | rfl | rfl <;> decide
  unfold stp
  rw [if_neg t7, if_neg tD]
  have tC : - -s = s := Int32.neg_neg
  dsimp only
  rw [tC, if_pos hs]
/-- the run of a loop, at its head -/
def NX (X : im_E) (e : Nat) (σ : Nat → Nat → Int32) (b : Int32) : Prop := ∀ Q, Ev X e 73 0 (im_ent 1 [.ref 79]) [] (mem σ) Q = Q (some (.int b)) (mem σ)
def HX (X : im_E) (e : Nat) (σ : Nat → Nat → Int32) (b : Int32) : Prop := ∀ Q, Ev X e 160 0 (im_ent 1 [.ref 95]) [] (mem σ) Q = Q (some (.int b)) (mem σ)
theorem loop_sim (hu : u = 0 ∨ u = 1) (hB : BV B n) (o : Int32) (K : Nat) (hK : 5 ≤ K) (ops : Int32 → Prop) (hops : ∀ s, ops s → isop s) (hdec : ∀ s, ops s ∨ ¬ ops s) (mi mx h ci cx mj my cj cy : Nat) (CL : Int32 → Nat → List (Option Value)) (ML : Int32 → Option Value → Option Value → List (Option Value))
    (cpre : ∀ X e σ τ b, (∀ Q, Ev X e ci 0 (im_ent cx [.ref 79, .int o]) [] (mem σ) Q = Q none (mem τ)) → NX X e τ b → ∀ Q, Ev X (e + 1) mi 0 (im_ent mx [.ref 79, .int o]) [] (mem σ) Q = Ev X (e + 1) mi h (CL b 0) [] (mem τ) Q)
    (cstep : ∀ X e σ p i s τ τ2 b, ops s → NX X e σ s → p < 50 → i ≤ p → σ 79 3 = Int32.ofNat p → (∀ Q, Ev X e ci 0 (im_ent cx [.ref 79, .int o]) [] (mem (up σ 79 3 (Int32.ofNat (p + 1)))) Q = Q none (mem τ)) → (∀ Q, Ev X e 96 0 (im_ent 2 [.ref 80, .int (-s)]) [] (mem τ) Q = Q none (mem τ2)) → NX X e τ2 b → ∀ Q, Ev X (e + 1) mi h (CL s i) [] (mem σ) Q = Ev X (e + 1) mi h (CL b (i + 1)) [] (mem τ2) Q)
    (cexit : ∀ X e σ i b, ¬ ops b → NX X e σ b → ∀ Q, Ev X (e + 1) mi h (CL b i) [] (mem σ) Q = Q none (mem σ))
    (mpre : ∀ X e σ τ v, (∀ Q, Ev X e cj 0 (im_ent cy [.ref 95]) [] (mem σ) Q = Q (some (.int v)) (mem τ)) → ∃ l2 l3, ∀ Q, Ev X (e + 1) mj 0 (im_ent my [.ref 95]) [] (mem σ) Q = Ev X (e + 1) mj 5 (ML v l2 l3) [] (mem τ) Q)
    (mstep : ∀ X e base a b c σ p s τ v w l2 l3, ops s → nx B n p = s → p < n → MR B n u base σ p (-1) o a b c → (∀ Q, Ev X (e + 1) cj 0 (im_ent cy [.ref 95]) [] (mem (up σ 95 6 (Int32.ofNat (p + 1)))) Q = Q (some (.int w)) (mem τ)) → ∃ l2' l3', ∀ Q, Ev X (e + 1 + 1) mj 5 (ML v l2 l3) [] (mem σ) Q = Ev X (e + 1 + 1) mj 5 (ML (jnd s v w) l2' l3') [] (mem τ) Q)
    (mexit : ∀ X e base a b c σ p o2 v l2 l3, ¬ ops (nx B n p) → p ≤ n → MR B n u base σ p (-1) o2 a b c → ∀ Q, Ev X (e + 1 + 1) mj 5 (ML v l2 l3) [] (mem σ) Q = Q (some (.int v)) (mem σ))
    (mexitf : ∀ X e base a b c σ p fl o2 v l2 l3, ¬ fl < 0 → p ≤ n → MR B n u base σ p fl o2 a b c → ∀ Q, Ev X (e + 1 + 1) mj 5 (ML v l2 l3) [] (mem σ) Q = Q (some (.int v)) (mem σ))
    (hn1 : ¬ ops (-1)) (hS : ∀ q, q ≤ n → SIM B n u ci cx cj cy K o q) {p : Nat} (hp : p ≤ n) : SIM B n u mi mx mj my (K + 1) o p := by
  have main : ∀ (m p : Nat), p ≤ n → n - p ≤ m → ∃ (ok : Bool) (p' : Nat) (code : List Int32), p ≤ p' ∧ p' ≤ n ∧ (ok = true → code.length + p ≤ p') ∧ (∀ (X : im_E) (e : Nat) (σ : Nat → Nat → Int32) (dr : List Int32) (i : Nat), K + 1 ≤ e → CR B n u σ p 0 dr → dr.length ≤ p → i ≤ p → ∃ (τ : Nat → Nat → Int32) (dr' : List Int32), (∀ Q, Ev X e mi h (CL (nx B n p) i) [] (mem σ) Q = Q none (mem τ)) ∧ CR B n u τ p' (if ok = true then 0 else 1) dr' ∧ CF σ τ ∧ (ok = true → dr' = dr ++ code)) ∧ (∀ (X : im_E) (e : Nat) (σ : Nat → Nat → Int32) (base : Nat) (a b c v : Int32) (l2 l3 : Option Value), K + 1 ≤ e → MR B n u base σ p (-1) o a b c → ∃ (τ : Nat → Nat → Int32) (w : Int32) (p2 : Nat) (o2 : Int32), (∀ Q, Ev X e mj 5 (ML v l2 l3) [] (mem σ) Q = Q (some (.int w)) (mem τ)) ∧ MR B n u base τ p2 (if ok = true then -1 else Int32.ofNat p') o2 a b c ∧ MF' σ τ ∧ p2 ≤ n ∧ (ok = true → p2 = p' ∧ o2 = o ∧ ∀ st, pf a b c code (v :: st) = some (w :: st))) := by
    intro m
    induction m with
    | zero =>
      intro p hp hm
      have hq : nx B n p = -1 := by unfold nx; rw [if_neg (by omega)]
      refine ⟨true, p, [], Nat.le_refl _, hp, fun _ => by simp only [List.length_nil]; omega, fun X e σ dr i he hC hd hi => ?_, fun X e σ base a b c v l2 l3 he hM => ?_⟩
      · obtain ⟨d, rfl⟩ : ∃ d, e = d + 1 + 1 + 1 := ⟨e - 3, by omega⟩
        exact ⟨σ, dr, cexit X (d + 1 + 1) σ i _ (by rw [hq]; exact hn1) (s73 X d hp hB.1 hC), hC, CF.refl σ, fun _ => (List.append_nil _).symm⟩
      · obtain ⟨d, rfl⟩ : ∃ d, e = d + 1 + 1 := ⟨e - 2, by omega⟩
        exact ⟨σ, v, p, o, mexit X d base a b c σ p o v l2 l3 (by rw [hq]; exact hn1) hp hM, hM, MF'.refl σ, hp, fun _ => ⟨rfl, rfl, fun st => rfl⟩⟩
    | succ m ih =>
      intro p hp hm
      rcases hdec (nx B n p) with hs | hs
      · have hpn : p < n := by
          refine nx_lt (B := B) ?_
          rcases nx_rng hB p with q | q
          · rw [q] at hs; exact absurd hs hn1
          · exact q.1
        obtain ⟨ok1, p1, code1, a1, a2, a3, a4, a5⟩ := hS (p + 1) hpn
        have hn50 := hB.1
        cases ok1 with
        | false =>
          refine ⟨false, p1, [], by omega, a2, (fun q => nomatch q), fun X e σ dr i he hC hd hi => ?_, fun X e σ base a b c v l2 l3 he hM => ?_⟩
          · obtain ⟨d, rfl⟩ : ∃ d, e = d + 1 + 1 + 1 := ⟨e - 3, by omega⟩
            obtain ⟨τ, dr', b1, b2, b3, b4⟩ := a4 X (d + 1 + 1) _ dr (by omega) (CR_place hC (p + 1)) (by omega)
            obtain ⟨τ2, dr2, c1, c2, c3, c4⟩ := s96 X (d + 1 + 1) b2 (-(nx B n p))
            refine ⟨τ2, dr2, fun Q => ?_, c2, (CF_79.trans b3).trans c3, fun q => nomatch q⟩
            rw [cstep X (d + 1 + 1) σ p i (nx B n p) τ τ2 (-1) hs (s73 X d hp hn50 hC) (by omega) hi hC.2.2.1 b1 c1 (s73f X d c2)]
            exact cexit X (d + 1 + 1) τ2 (i + 1) (-1) hn1 (s73f X d c2) Q
          · obtain ⟨d, rfl⟩ : ∃ d, e = d + 1 + 1 := ⟨e - 2, by omega⟩
            obtain ⟨τ, v2, p2, o2, b1, b2, b3, b4, b5⟩ := a5 X (d + 1) _ base a b c (by omega) (MR_at hM (p + 1))
            obtain ⟨k2, k3, c1⟩ := mstep X d base a b c σ p _ τ v v2 l2 l3 hs rfl hpn hM b1
            replace b2 : MR B n u base τ p2 (Int32.ofNat p1) o2 a b c := b2
            refine ⟨τ, jnd (nx B n p) v v2, p2, o2, fun Q => ?_, b2, (MF_95 (by decide) (by decide)).trans b3, b4, fun q => nomatch q⟩
            rw [c1]
            exact mexitf X d base a b c τ p2 (Int32.ofNat p1) o2 _ k2 k3 (inbN (show p1 < 51 by omega) (by decide)).1 b4 b2 Q
        | true =>
          have a3' := a3 rfl
          obtain ⟨ok, p', code, d1, d2, d3, d4, d5⟩ := ih p1 a2 (by omega)
          refine ⟨ok, p', code1 ++ (-(nx B n p) :: code), by omega, d2, fun q => by have := d3 q; simp only [List.length_append, List.length_cons]; omega, fun X e σ dr i he hC hd hi => ?_, fun X e σ base a b c v l2 l3 he hM => ?_⟩
          · obtain ⟨d, rfl⟩ : ∃ d, e = d + 1 + 1 + 1 := ⟨e - 3, by omega⟩
            obtain ⟨τ, dr', b1, b2, b3, b4⟩ := a4 X (d + 1 + 1) _ dr (by omega) (CR_place hC (p + 1)) (by omega)
            have b5 := b4 rfl
            obtain ⟨τ2, dr2, c1, c2, c3, c4⟩ := s96 X (d + 1 + 1) b2 (-(nx B n p))
            have l1 : dr'.length < 50 := by rw [b5, List.length_append]; omega
            have c5 := c4 l1
            replace c2 : CR B n u τ2 p1 0 dr2 := c2
            obtain ⟨τ3, dr3, f1, f2, f3, f4⟩ := d4 X (d + 1 + 1 + 1) τ2 dr2 (i + 1) (by omega) c2 (by rw [c5, b5]; simp only [List.length_append, List.length_cons, List.length_nil]; omega) (by omega)
            refine ⟨τ3, dr3, fun Q => ?_, f2, ((CF_79.trans b3).trans c3).trans f3, fun q => ?_⟩
            · rw [cstep X (d + 1 + 1) σ p i (nx B n p) τ τ2 (nx B n p1) hs (s73 X d hp hn50 hC) (by omega) hi hC.2.2.1 b1 c1 (s73 X d a2 hn50 c2)]
              exact f1 Q
            · rw [f4 q, c5, b5]
              simp only [List.append_assoc, List.cons_append, List.nil_append]
          · obtain ⟨d, rfl⟩ : ∃ d, e = d + 1 + 1 := ⟨e - 2, by omega⟩
            obtain ⟨τ, v2, p2, o2, b1, b2, b3, b4, b5⟩ := a5 X (d + 1) _ base a b c (by omega) (MR_at hM (p + 1))
            obtain ⟨z1, z2, z3⟩ := b5 rfl
            subst z1; subst z2
            obtain ⟨k2, k3, c1⟩ := mstep X d base a b c σ p _ τ v v2 l2 l3 hs rfl hpn hM b1
            replace b2 : MR B n u base τ p2 (-1) o2 a b c := b2
            obtain ⟨τ3, w, p3, o3, f1, f2, f3, f4, f5⟩ := d5 X (d + 1 + 1) τ base a b c (jnd (nx B n p) v v2) k2 k3 he b2
            refine ⟨τ3, w, p3, o3, fun Q => ?_, f2, ((MF_95 (by decide) (by decide)).trans b3).trans f3, f4, fun q => ?_⟩
            · rw [c1]
              exact f1 Q
            · obtain ⟨y1, y2, y3⟩ := f5 q
              refine ⟨y1, y2, fun st => ?_⟩
              rw [pf_app, z3]
              show pf a b c (-(nx B n p) :: code) (v2 :: v :: st) = _
              rw [pf, stp_op (hops _ hs)]
              exact y3 st
      · refine ⟨true, p, [], Nat.le_refl _, hp, fun _ => by simp only [List.length_nil]; omega, fun X e σ dr i he hC hd hi => ?_, fun X e σ base a b c v l2 l3 he hM => ?_⟩
        · obtain ⟨d, rfl⟩ : ∃ d, e = d + 1 + 1 + 1 := ⟨e - 3, by omega⟩
          exact ⟨σ, dr, cexit X (d + 1 + 1) σ i _ hs (s73 X d hp hB.1 hC), hC, CF.refl σ, fun _ => (List.append_nil _).symm⟩
        · obtain ⟨d, rfl⟩ : ∃ d, e = d + 1 + 1 := ⟨e - 2, by omega⟩
          exact ⟨σ, v, p, o, mexit X d base a b c σ p o v l2 l3 hs hp hM, hM, MF'.refl σ, hp, fun _ => ⟨rfl, rfl, fun st => rfl⟩⟩
  obtain ⟨ok1, p1, code1, a1, a2, a3, a4, a5⟩ := hS p hp
  have hn50 := hB.1
  cases ok1 with
  | false =>
    refine ⟨false, p1, [], a1, a2, (fun q => nomatch q), fun X e σ dr he hC hd => ?_, fun X e σ base a b c he hM => ?_⟩
    · obtain ⟨d, rfl⟩ : ∃ d, e = d + 1 + 1 + 1 := ⟨e - 3, by omega⟩
      obtain ⟨τ, dr', b1, b2, b3, b4⟩ := a4 X (d + 1 + 1) σ dr (by omega) hC hd
      refine ⟨τ, dr', fun Q => ?_, b2, b3, fun q => nomatch q⟩
      rw [cpre X (d + 1 + 1) σ τ (-1) b1 (s73f X d b2)]
      exact cexit X (d + 1 + 1) τ 0 (-1) hn1 (s73f X d b2) Q
    · obtain ⟨d, rfl⟩ : ∃ d, e = d + 1 + 1 := ⟨e - 2, by omega⟩
      obtain ⟨τ, v2, p2, o2, b1, b2, b3, b4, b5⟩ := a5 X (d + 1) σ base a b c (by omega) hM
      obtain ⟨k2, k3, c1⟩ := mpre X (d + 1) σ τ v2 b1
      replace b2 : MR B n u base τ p2 (Int32.ofNat p1) o2 a b c := b2
      refine ⟨τ, v2, p2, o2, fun Q => ?_, b2, b3, b4, fun q => nomatch q⟩
      rw [c1]
      exact mexitf X d base a b c τ p2 (Int32.ofNat p1) o2 _ k2 k3 (inbN (show p1 < 51 by omega) (by decide)).1 b4 b2 Q
  | true =>
    have a3' := a3 rfl
    obtain ⟨ok, p', code, d1, d2, d3, d4, d5⟩ := main (n - p1) p1 a2 (Nat.le_refl _)
    refine ⟨ok, p', code1 ++ code, by omega, d2, fun q => by have := d3 q; simp only [List.length_append]; omega, fun X e σ dr he hC hd => ?_, fun X e σ base a b c he hM => ?_⟩
    · obtain ⟨d, rfl⟩ : ∃ d, e = d + 1 + 1 + 1 := ⟨e - 3, by omega⟩
      obtain ⟨τ, dr', b1, b2, b3, b4⟩ := a4 X (d + 1 + 1) σ dr (by omega) hC hd
      have b5 := b4 rfl
      replace b2 : CR B n u τ p1 0 dr' := b2
      obtain ⟨τ3, dr3, f1, f2, f3, f4⟩ := d4 X (d + 1 + 1 + 1) τ dr' 0 (by omega) b2 (by rw [b5, List.length_append]; omega) (by omega)
      refine ⟨τ3, dr3, fun Q => ?_, f2, b3.trans f3, fun q => by rw [f4 q, b5, List.append_assoc]⟩
      rw [cpre X (d + 1 + 1) σ τ (nx B n p1) b1 (s73 X d a2 hn50 b2)]
      exact f1 Q
    · obtain ⟨d, rfl⟩ : ∃ d, e = d + 1 + 1 := ⟨e - 2, by omega⟩
      obtain ⟨τ, v2, p2, o2, b1, b2, b3, b4, b5⟩ := a5 X (d + 1) σ base a b c (by omega) hM
      obtain ⟨z1, z2, z3⟩ := b5 rfl
      subst z1; subst z2
      obtain ⟨k2, k3, c1⟩ := mpre X (d + 1) σ τ v2 b1
      replace b2 : MR B n u base τ p2 (-1) o2 a b c := b2
      obtain ⟨τ3, w, p3, o3, f1, f2, f3, f4, f5⟩ := d5 X (d + 1 + 1) τ base a b c v2 k2 k3 he b2
      refine ⟨τ3, w, p3, o3, fun Q => ?_, f2, b3.trans f3, f4, fun q => ?_⟩
      · rw [c1]
        exact f1 Q
      · obtain ⟨y1, y2, y3⟩ := f5 q
        refine ⟨y1, y2, fun st => ?_⟩
        rw [pf_app, z3]
        exact y3 st
end E30
