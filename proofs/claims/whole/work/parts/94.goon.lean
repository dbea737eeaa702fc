/-! ===== a cup goes on a wire ===== -/
def upX (Y : zS) (p a : Nat) : zS := sI (sI (sR (sR (sR (sR (sR (sI (sI (sI Y 8 p 10 (Option.elim (gR Y 5 a 6) (gI Y 8 p 10) fun i => gI Y 8 i 0)) 10 (2 * p) 0 (gI Y 0 0 13)) 5 a 3 2) 5 a 4 none) 5 a 6 none) 5 a 7 none) 5 a 8 none) 5 a 4 (some p)) 5 a 5 1) 5 a 9 0
def dnX (Y : zS) (p b : Nat) : zS := sI (sI (sR (sR (sR (sR (sR (sI (sI Y 10 (2 * p + 1) 0 (gI Y 0 0 13)) 5 b 3 2) 5 b 4 none) 5 b 6 none) 5 b 7 none) 5 b 8 none) 5 b 4 (some p)) 5 b 5 0) 5 b 9 0
def upM (N : zS) (p a : Nat) : zS := sI (sI (sI (sI (sI (sI N 77 0 p (if gI N 68 0 p = 1 then gI N 87 0 a else gI N 77 0 p)) 82 0 a 2) 83 0 a p) 109 0 a 0) 85 0 a 1) 78 0 (2 * p + 1) (gI N 64 0 13)
def dnM (N : zS) (p b : Nat) : zS := sI (sI (sI (sI (sI N 82 0 b 2) 83 0 b p) 109 0 b 0) 85 0 b 0) 78 0 (2 * p) (gI N 64 0 13)
section GO
variable {P C K : Nat} {D : Int} {X M : zS}
theorem up_go (hr : RR P C K D X M) {p a : Nat} (h0 : 0 < p) (hp : p < P) (ha : a < C) (w : wW M p 1 a) : RR P C K D (upX X p a) (upM M p a) := by
  have w1 := w.1
  have w2 := w.2.1
  have w3 := w.2.2
  rw [if_pos rfl] at w3
  have nk := nk_of hr (c := a) (by omega)
  have hr0 := hr
  have lb := len_b hr h0 hp
  obtain ⟨⟨hX, hM, hN⟩, hS, hF, hB, hP, hL, hC, hK, hD, hZ⟩ := hr
  have h16 := hN.1
  obtain ⟨⟨a0, a1, a2, a3⟩, ⟨b1, b2, b3, b4⟩, ⟨c1, c2, c3⟩, d4, d5, d6, d7, d8, d9, d10, d11, d12, d13, d14, d15, d16, d17, d18, d19, d20, d21, d22, d23, d24, d25⟩ := hC a ha
  have hs := hS.1
  rw [w3, Int.toNat_natCast] at d9 d10
  -- the turn
  have tn' : ∃ t t77 : Int, (Option.elim (gR X 5 a 6) (gI X 8 p 10) fun i => gI X 8 i 0) = t ∧ (if gI M 68 0 p = 1 then gI M 87 0 a else gI M 77 0 p) = t77 ∧ t = (if t77 = -9 then 0 else t77) ∧ (t77 = -9 ∨ (1 ≤ t77 ∧ t77 < P)) := by
    have e10 := ((hP p hp).2.2.2.2.2.2.2.2.2.1 h0).1
    by_cases s : gI M 68 0 p = 1
    · obtain ⟨r6, r6a, r6b, r6c⟩ := d9 ⟨w1, w2, s⟩
      refine ⟨_, _, rfl, rfl, ?_, ?_⟩
      · rw [r6, oe_some, if_pos s, (hP _ (by omega)).1.2.1, if_neg (by omega)]; omega
      · rw [if_pos s]; omega
    · refine ⟨_, _, rfl, rfl, ?_, ?_⟩
      · rw [d10 (fun q => s q.2.2), oe_none, if_neg s]; exact e10.1
      · rw [if_neg s]; exact e10.2
  obtain ⟨t, t77, e1, e2, e3, e4⟩ := tn'
  unfold upX upM
  rw [e1, e2]
  refine hr0.gen (c := a) (fun _ => by simp only [gI_sI, gI_sR, gI_sN, gI_sCp, gI_sB, gR_sI, gR_sR, gR_sN, gR_sCp, gR_sB, gN_sI, gN_sR, gN_sN, gN_sCp, gN_sB]) (fun _ => by simp only [gI_sI, gI_sR, gI_sN, gI_sCp, gI_sB, gR_sI, gR_sR, gR_sN, gR_sCp, gR_sB, gN_sI, gN_sR, gN_sN, gN_sCp, gN_sB]) (by repeat first | refine eqS_sI rfl ?_ | refine eqS_sR rfl ?_ | refine eqS_sB (fun _ => rfl) ?_ | refine eqS_sN (fun _ => rfl) ?_ | exact .rf) (by repeat first | refine eqS_sI rfl ?_ | refine eqS_sR rfl ?_ | refine eqS_sB (fun _ => rfl) ?_ | refine eqS_sN (fun _ => rfl) ?_ | exact .rf) (fun i j hi => ?_) (fun i j h3 hi => by simp only [gI_sI, gI_sR, gI_sN, gI_sCp, gI_sB, gR_sI, gR_sR, gR_sN, gR_sCp, gR_sB, gN_sI, gN_sR, gN_sN, gN_sCp, gN_sB, ↓reduceIte, and_true, true_and, and_false, false_and, and_self, or_true, true_or, or_false, false_or, or_self, Nat.reduceEqDiff, Int.reduceNeg, ne_eq, not_true_eq_false, not_false_eq_true, Int.toNat_natCast, reduceCtorEq, i10, i01, implies_true, true_implies, false_implies, g_t (c := True) trivial]) (fun t ht i hi => ?_) (fun j hj => by simp only [gI_sI, gI_sR, gI_sN, gI_sCp, gI_sB, gR_sI, gR_sR, gR_sN, gR_sCp, gR_sB, gN_sI, gN_sR, gN_sN, gN_sCp, gN_sB, ↓reduceIte, and_true, true_and, and_false, false_and, and_self, or_true, true_or, or_false, false_or, or_self, Nat.reduceEqDiff, Int.reduceNeg, ne_eq, not_true_eq_false, not_false_eq_true, Int.toNat_natCast, reduceCtorEq, i10, i01, implies_true, true_implies, false_implies, g_t (c := True) trivial]) (fun k' hk' i hi e => ?_) (hS.cg (by repeat first | refine eqS_sI rfl ?_ | refine eqS_sR rfl ?_ | refine eqS_sB (fun _ => rfl) ?_ | refine eqS_sN (fun _ => rfl) ?_ | exact .rf) (fun _ _ => by simp only [gI_sI, gI_sR, gI_sN, gI_sCp, gI_sB, gR_sI, gR_sR, gR_sN, gR_sCp, gR_sB, gN_sI, gN_sR, gN_sN, gN_sCp, gN_sB, ↓reduceIte, and_true, true_and, and_false, false_and, and_self, or_true, true_or, or_false, false_or, or_self, Nat.reduceEqDiff, Int.reduceNeg, ne_eq, not_true_eq_false, not_false_eq_true, Int.toNat_natCast, reduceCtorEq, i10, i01, implies_true, true_implies, false_implies, g_t (c := True) trivial]) (by repeat first | refine eqS_sI rfl ?_ | refine eqS_sR rfl ?_ | refine eqS_sB (fun _ => rfl) ?_ | refine eqS_sN (fun _ => rfl) ?_ | exact .rf)) (hB.cg (by repeat first | refine eqS_sI rfl ?_ | refine eqS_sR rfl ?_ | refine eqS_sB (fun _ => rfl) ?_ | refine eqS_sN (fun _ => rfl) ?_ | exact .rf) (by repeat first | refine eqS_sI rfl ?_ | refine eqS_sR rfl ?_ | refine eqS_sB (fun _ => rfl) ?_ | refine eqS_sN (fun _ => rfl) ?_ | exact .rf)) (fun q hq => ?_) ?_ (fun k' hk' => ?_) (hD.cg (by repeat first | refine eqS_sI rfl ?_ | refine eqS_sR rfl ?_ | refine eqS_sB (fun _ => rfl) ?_ | refine eqS_sN (fun _ => rfl) ?_ | exact .rf)) (by repeat first | exact hZ | refine RZ.sI (by first | rfl | (simp [zZ]; omega)) ?_)
  · simp only [gI_sI, gI_sR, gI_sN, gI_sCp, gI_sB, gR_sI, gR_sR, gR_sN, gR_sCp, gR_sB, gN_sI, gN_sR, gN_sN, gN_sCp, gN_sB, ↓reduceIte, and_true, true_and, and_false, false_and, and_self, or_true, true_or, or_false, false_or, or_self, Nat.reduceEqDiff, Int.reduceNeg, ne_eq, not_true_eq_false, not_false_eq_true, Int.toNat_natCast, reduceCtorEq, i10, i01, implies_true, true_implies, false_implies, g_t (c := True) trivial, hi]
  · rcases ht with rfl | rfl | rfl | rfl | rfl | rfl | rfl | rfl | rfl | rfl <;> simp only [gI_sI, gI_sR, gI_sN, gI_sCp, gI_sB, gR_sI, gR_sR, gR_sN, gR_sCp, gR_sB, gN_sI, gN_sR, gN_sN, gN_sCp, gN_sB, ↓reduceIte, and_true, true_and, and_false, false_and, and_self, or_true, true_or, or_false, false_or, or_self, Nat.reduceEqDiff, Int.reduceNeg, ne_eq, not_true_eq_false, not_false_eq_true, Int.toNat_natCast, reduceCtorEq, i10, i01, implies_true, true_implies, false_implies, g_t (c := True) trivial, hi]
  · simp only [gI_sI, gI_sR, gI_sN, gI_sCp, gI_sB, gR_sI, gR_sR, gR_sN, gR_sCp, gR_sB, gN_sI, gN_sR, gN_sN, gN_sCp, gN_sB, ↓reduceIte, and_true, true_and, and_false, false_and, and_self, or_true, true_or, or_false, false_or, or_self, Nat.reduceEqDiff, Int.reduceNeg, ne_eq, not_true_eq_false, not_false_eq_true, Int.toNat_natCast, reduceCtorEq, i10, i01, implies_true, true_implies, false_implies, g_t (c := True) trivial]
    exact e
  · by_cases e : q = p
    · subst e
      obtain ⟨q1, q2, q3, q4, q5, q6, q7, q8, q9, q10, q11⟩ := hP q hq
      have n1 : ¬ 2 * q + 1 = 2 * q := by omega
      have n2 : ¬ 2 * q = 2 * q + 1 := by omega
      unfold RP
      simp only [gI_sI, gI_sR, gI_sN, gI_sCp, gI_sB, gR_sI, gR_sR, gR_sN, gR_sCp, gR_sB, gN_sI, gN_sR, gN_sN, gN_sCp, gN_sB, ↓reduceIte, and_true, true_and, and_false, false_and, and_self, or_true, true_or, or_false, false_or, or_self, Nat.reduceEqDiff, Int.reduceNeg, ne_eq, not_true_eq_false, not_false_eq_true, Int.toNat_natCast, reduceCtorEq, i10, i01, implies_true, true_implies, false_implies, g_t (c := True) trivial, n1, n2, hs.1]
      refine ⟨q1, q2, q3, q4, q5, q6, q7, q8, q9, fun z => ⟨⟨e3, e4⟩, ⟨?_, Or.inr ⟨by omega, by omega⟩⟩, (q10 z).2.2⟩, q11⟩
      rw [if_neg (by omega)]
    · have n1 : ¬ 2 * q = 2 * p := by omega
      have n2 : ¬ 2 * q + 1 = 2 * p := by omega
      have n3 : ¬ 2 * q = 2 * p + 1 := by omega
      have n4 : ¬ 2 * q + 1 = 2 * p + 1 := by omega
      refine (hP q hq).cg3 ?_ (fun _ => ?_) (fun _ => ?_) (fun _ => ?_) ?_ ?_ (fun t ht => ?_) (fun _ => ?_) ?_ ?_
      all_goals first | (rcases ht with rfl | rfl | rfl | rfl | rfl | rfl | rfl | rfl | rfl | rfl | rfl | rfl | rfl | rfl | rfl <;> simp only [gI_sI, gI_sR, gI_sN, gI_sCp, gI_sB, gR_sI, gR_sR, gR_sN, gR_sCp, gR_sB, gN_sI, gN_sR, gN_sN, gN_sCp, gN_sB, ↓reduceIte, and_true, true_and, and_false, false_and, and_self, or_true, true_or, or_false, false_or, or_self, Nat.reduceEqDiff, Int.reduceNeg, ne_eq, not_true_eq_false, not_false_eq_true, Int.toNat_natCast, reduceCtorEq, i10, i01, implies_true, true_implies, false_implies, g_t (c := True) trivial, e]) | simp only [gI_sI, gI_sR, gI_sN, gI_sCp, gI_sB, gR_sI, gR_sR, gR_sN, gR_sCp, gR_sB, gN_sI, gN_sR, gN_sN, gN_sCp, gN_sB, ↓reduceIte, and_true, true_and, and_false, false_and, and_self, or_true, true_or, or_false, false_or, or_self, Nat.reduceEqDiff, Int.reduceNeg, ne_eq, not_true_eq_false, not_false_eq_true, Int.toNat_natCast, reduceCtorEq, i10, i01, implies_true, true_implies, false_implies, g_t (c := True) trivial, e, n1, n2, n3, n4]
  · unfold RC
    simp only [gI_sI, gI_sR, gI_sN, gI_sCp, gI_sB, gR_sI, gR_sR, gR_sN, gR_sCp, gR_sB, gN_sI, gN_sR, gN_sN, gN_sCp, gN_sB, ↓reduceIte, and_true, true_and, and_false, false_and, and_self, or_true, true_or, or_false, false_or, or_self, Nat.reduceEqDiff, Int.reduceNeg, ne_eq, not_true_eq_false, not_false_eq_true, Int.toNat_natCast, reduceCtorEq, i10, i01, implies_true, true_implies, false_implies, g_t (c := True) trivial]
    and_intros <;> first | exact True.intro | rfl | assumption | omega | (intro x; first | assumption | omega | (exfalso; omega))
  · refine (hK k' hk').cg3 (nk k' hk') ?_ (fun j => ?_) (fun j => ?_) (fun i hi => ?_) ?_ ?_ ?_ (fun i hi => ?_) <;> first | (simp only [gI_sI, gI_sR, gI_sN, gI_sCp, gI_sB, gR_sI, gR_sR, gR_sN, gR_sCp, gR_sB, gN_sI, gN_sR, gN_sN, gN_sCp, gN_sB, ↓reduceIte, and_true, true_and, and_false, false_and, and_self, or_true, true_or, or_false, false_or, or_self, Nat.reduceEqDiff, Int.reduceNeg, ne_eq, not_true_eq_false, not_false_eq_true, Int.toNat_natCast, reduceCtorEq, i10, i01, implies_true, true_implies, false_implies, g_t (c := True) trivial]; done) | simp only [gI_sI, gI_sR, gI_sN, gI_sCp, gI_sB, gR_sI, gR_sR, gR_sN, gR_sCp, gR_sB, gN_sI, gN_sR, gN_sN, gN_sCp, gN_sB, ↓reduceIte, and_true, true_and, and_false, false_and, and_self, or_true, true_or, or_false, false_or, or_self, Nat.reduceEqDiff, Int.reduceNeg, ne_eq, not_true_eq_false, not_false_eq_true, Int.toNat_natCast, reduceCtorEq, i10, i01, implies_true, true_implies, false_implies, g_t (c := True) trivial, hi]
theorem dn_go (hr : RR P C K D X M) {p b : Nat} (h0 : 0 < p) (hp : p < P) (hb : b < C) (w : wW M p 0 b) : RR P C K D (dnX X p b) (dnM M p b) := by
  have w1 := w.1
  have w2 := w.2.1
  have w3 := w.2.2
  rw [if_neg (by decide)] at w3
  have nk := nk_of hr (c := b) (by omega)
  have hr0 := hr
  have lb := len_b hr h0 hp
  obtain ⟨⟨hX, hM, hN⟩, hS, hF, hB, hP, hL, hC, hK, hD, hZ⟩ := hr
  have h16 := hN.1
  obtain ⟨⟨a0, a1, a2, a3⟩, ⟨b1, b2, b3, b4⟩, ⟨c1, c2, c3⟩, d4, d5, d6, d7, d8, d9, d10, d11, d12, d13, d14, d15, d16, d17, d18, d19, d20, d21, d22, d23, d24, d25⟩ := hC b hb
  have hs := hS.1
  unfold dnX dnM
  refine hr0.gen (c := b) (fun _ => by simp only [gI_sI, gI_sR, gI_sN, gI_sCp, gI_sB, gR_sI, gR_sR, gR_sN, gR_sCp, gR_sB, gN_sI, gN_sR, gN_sN, gN_sCp, gN_sB]) (fun _ => by simp only [gI_sI, gI_sR, gI_sN, gI_sCp, gI_sB, gR_sI, gR_sR, gR_sN, gR_sCp, gR_sB, gN_sI, gN_sR, gN_sN, gN_sCp, gN_sB]) (by repeat first | refine eqS_sI rfl ?_ | refine eqS_sR rfl ?_ | refine eqS_sB (fun _ => rfl) ?_ | refine eqS_sN (fun _ => rfl) ?_ | exact .rf) (by repeat first | refine eqS_sI rfl ?_ | refine eqS_sR rfl ?_ | refine eqS_sB (fun _ => rfl) ?_ | refine eqS_sN (fun _ => rfl) ?_ | exact .rf) (fun i j hi => ?_) (fun i j h3 hi => by simp only [gI_sI, gI_sR, gI_sN, gI_sCp, gI_sB, gR_sI, gR_sR, gR_sN, gR_sCp, gR_sB, gN_sI, gN_sR, gN_sN, gN_sCp, gN_sB, ↓reduceIte, and_true, true_and, and_false, false_and, and_self, or_true, true_or, or_false, false_or, or_self, Nat.reduceEqDiff, Int.reduceNeg, ne_eq, not_true_eq_false, not_false_eq_true, Int.toNat_natCast, reduceCtorEq, i10, i01, implies_true, true_implies, false_implies, g_t (c := True) trivial]) (fun t ht i hi => ?_) (fun j hj => by simp only [gI_sI, gI_sR, gI_sN, gI_sCp, gI_sB, gR_sI, gR_sR, gR_sN, gR_sCp, gR_sB, gN_sI, gN_sR, gN_sN, gN_sCp, gN_sB, ↓reduceIte, and_true, true_and, and_false, false_and, and_self, or_true, true_or, or_false, false_or, or_self, Nat.reduceEqDiff, Int.reduceNeg, ne_eq, not_true_eq_false, not_false_eq_true, Int.toNat_natCast, reduceCtorEq, i10, i01, implies_true, true_implies, false_implies, g_t (c := True) trivial]) (fun k' hk' i hi e => ?_) (hS.cg (by repeat first | refine eqS_sI rfl ?_ | refine eqS_sR rfl ?_ | refine eqS_sB (fun _ => rfl) ?_ | refine eqS_sN (fun _ => rfl) ?_ | exact .rf) (fun _ _ => by simp only [gI_sI, gI_sR, gI_sN, gI_sCp, gI_sB, gR_sI, gR_sR, gR_sN, gR_sCp, gR_sB, gN_sI, gN_sR, gN_sN, gN_sCp, gN_sB, ↓reduceIte, and_true, true_and, and_false, false_and, and_self, or_true, true_or, or_false, false_or, or_self, Nat.reduceEqDiff, Int.reduceNeg, ne_eq, not_true_eq_false, not_false_eq_true, Int.toNat_natCast, reduceCtorEq, i10, i01, implies_true, true_implies, false_implies, g_t (c := True) trivial]) (by repeat first | refine eqS_sI rfl ?_ | refine eqS_sR rfl ?_ | refine eqS_sB (fun _ => rfl) ?_ | refine eqS_sN (fun _ => rfl) ?_ | exact .rf)) (hB.cg (by repeat first | refine eqS_sI rfl ?_ | refine eqS_sR rfl ?_ | refine eqS_sB (fun _ => rfl) ?_ | refine eqS_sN (fun _ => rfl) ?_ | exact .rf) (by repeat first | refine eqS_sI rfl ?_ | refine eqS_sR rfl ?_ | refine eqS_sB (fun _ => rfl) ?_ | refine eqS_sN (fun _ => rfl) ?_ | exact .rf)) (fun q hq => ?_) ?_ (fun k' hk' => ?_) (hD.cg (by repeat first | refine eqS_sI rfl ?_ | refine eqS_sR rfl ?_ | refine eqS_sB (fun _ => rfl) ?_ | refine eqS_sN (fun _ => rfl) ?_ | exact .rf)) (by repeat first | exact hZ | refine RZ.sI (by first | rfl | (simp [zZ]; omega)) ?_)
  · simp only [gI_sI, gI_sR, gI_sN, gI_sCp, gI_sB, gR_sI, gR_sR, gR_sN, gR_sCp, gR_sB, gN_sI, gN_sR, gN_sN, gN_sCp, gN_sB, ↓reduceIte, and_true, true_and, and_false, false_and, and_self, or_true, true_or, or_false, false_or, or_self, Nat.reduceEqDiff, Int.reduceNeg, ne_eq, not_true_eq_false, not_false_eq_true, Int.toNat_natCast, reduceCtorEq, i10, i01, implies_true, true_implies, false_implies, g_t (c := True) trivial, hi]
  · rcases ht with rfl | rfl | rfl | rfl | rfl | rfl | rfl | rfl | rfl | rfl <;> simp only [gI_sI, gI_sR, gI_sN, gI_sCp, gI_sB, gR_sI, gR_sR, gR_sN, gR_sCp, gR_sB, gN_sI, gN_sR, gN_sN, gN_sCp, gN_sB, ↓reduceIte, and_true, true_and, and_false, false_and, and_self, or_true, true_or, or_false, false_or, or_self, Nat.reduceEqDiff, Int.reduceNeg, ne_eq, not_true_eq_false, not_false_eq_true, Int.toNat_natCast, reduceCtorEq, i10, i01, implies_true, true_implies, false_implies, g_t (c := True) trivial, hi]
  · simp only [gI_sI, gI_sR, gI_sN, gI_sCp, gI_sB, gR_sI, gR_sR, gR_sN, gR_sCp, gR_sB, gN_sI, gN_sR, gN_sN, gN_sCp, gN_sB, ↓reduceIte, and_true, true_and, and_false, false_and, and_self, or_true, true_or, or_false, false_or, or_self, Nat.reduceEqDiff, Int.reduceNeg, ne_eq, not_true_eq_false, not_false_eq_true, Int.toNat_natCast, reduceCtorEq, i10, i01, implies_true, true_implies, false_implies, g_t (c := True) trivial]
    exact e
  · by_cases e : q = p
    · subst e
      obtain ⟨q1, q2, q3, q4, q5, q6, q7, q8, q9, q10, q11⟩ := hP q hq
      have n1 : ¬ 2 * q + 1 = 2 * q := by omega
      have n2 : ¬ 2 * q = 2 * q + 1 := by omega
      unfold RP
      simp only [gI_sI, gI_sR, gI_sN, gI_sCp, gI_sB, gR_sI, gR_sR, gR_sN, gR_sCp, gR_sB, gN_sI, gN_sR, gN_sN, gN_sCp, gN_sB, ↓reduceIte, and_true, true_and, and_false, false_and, and_self, or_true, true_or, or_false, false_or, or_self, Nat.reduceEqDiff, Int.reduceNeg, ne_eq, not_true_eq_false, not_false_eq_true, Int.toNat_natCast, reduceCtorEq, i10, i01, implies_true, true_implies, false_implies, g_t (c := True) trivial, n1, n2, hs.1]
      refine ⟨q1, q2, q3, q4, q5, q6, q7, q8, q9, fun z => ⟨(q10 z).1, (q10 z).2.1, ?_, Or.inr ⟨by omega, by omega⟩⟩, q11⟩
      rw [if_neg (by omega)]
    · have n1 : ¬ 2 * q = 2 * p := by omega
      have n2 : ¬ 2 * q + 1 = 2 * p := by omega
      have n3 : ¬ 2 * q = 2 * p + 1 := by omega
      have n4 : ¬ 2 * q + 1 = 2 * p + 1 := by omega
      refine (hP q hq).cg3 ?_ (fun _ => ?_) (fun _ => ?_) (fun _ => ?_) ?_ ?_ (fun t ht => ?_) (fun _ => ?_) ?_ ?_
      all_goals first | (rcases ht with rfl | rfl | rfl | rfl | rfl | rfl | rfl | rfl | rfl | rfl | rfl | rfl | rfl | rfl | rfl <;> simp only [gI_sI, gI_sR, gI_sN, gI_sCp, gI_sB, gR_sI, gR_sR, gR_sN, gR_sCp, gR_sB, gN_sI, gN_sR, gN_sN, gN_sCp, gN_sB, ↓reduceIte, and_true, true_and, and_false, false_and, and_self, or_true, true_or, or_false, false_or, or_self, Nat.reduceEqDiff, Int.reduceNeg, ne_eq, not_true_eq_false, not_false_eq_true, Int.toNat_natCast, reduceCtorEq, i10, i01, implies_true, true_implies, false_implies, g_t (c := True) trivial, e]) | simp only [gI_sI, gI_sR, gI_sN, gI_sCp, gI_sB, gR_sI, gR_sR, gR_sN, gR_sCp, gR_sB, gN_sI, gN_sR, gN_sN, gN_sCp, gN_sB, ↓reduceIte, and_true, true_and, and_false, false_and, and_self, or_true, true_or, or_false, false_or, or_self, Nat.reduceEqDiff, Int.reduceNeg, ne_eq, not_true_eq_false, not_false_eq_true, Int.toNat_natCast, reduceCtorEq, i10, i01, implies_true, true_implies, false_implies, g_t (c := True) trivial, e, n1, n2, n3, n4]
  · unfold RC
    simp only [gI_sI, gI_sR, gI_sN, gI_sCp, gI_sB, gR_sI, gR_sR, gR_sN, gR_sCp, gR_sB, gN_sI, gN_sR, gN_sN, gN_sCp, gN_sB, ↓reduceIte, and_true, true_and, and_false, false_and, and_self, or_true, true_or, or_false, false_or, or_self, Nat.reduceEqDiff, Int.reduceNeg, ne_eq, not_true_eq_false, not_false_eq_true, Int.toNat_natCast, reduceCtorEq, i10, i01, implies_true, true_implies, false_implies, g_t (c := True) trivial]
    and_intros <;> first | exact True.intro | rfl | assumption | omega | (intro x; first | assumption | omega | (exfalso; omega))
  · refine (hK k' hk').cg3 (nk k' hk') ?_ (fun j => ?_) (fun j => ?_) (fun i hi => ?_) ?_ ?_ ?_ (fun i hi => ?_) <;> first | (simp only [gI_sI, gI_sR, gI_sN, gI_sCp, gI_sB, gR_sI, gR_sR, gR_sN, gR_sCp, gR_sB, gN_sI, gN_sR, gN_sN, gN_sCp, gN_sB, ↓reduceIte, and_true, true_and, and_false, false_and, and_self, or_true, true_or, or_false, false_or, or_self, Nat.reduceEqDiff, Int.reduceNeg, ne_eq, not_true_eq_false, not_false_eq_true, Int.toNat_natCast, reduceCtorEq, i10, i01, implies_true, true_implies, false_implies, g_t (c := True) trivial]; done) | simp only [gI_sI, gI_sR, gI_sN, gI_sCp, gI_sB, gR_sI, gR_sR, gR_sN, gR_sCp, gR_sB, gN_sI, gN_sR, gN_sN, gN_sCp, gN_sB, ↓reduceIte, and_true, true_and, and_false, false_and, and_self, or_true, true_or, or_false, false_or, or_self, Nat.reduceEqDiff, Int.reduceNeg, ne_eq, not_true_eq_false, not_false_eq_true, Int.toNat_natCast, reduceCtorEq, i10, i01, implies_true, true_implies, false_implies, g_t (c := True) trivial, hi]
theorem letOn_up (hr : RR P C K D X M) {p a : Nat} (hp : p < P) (ha : a < C) : fX11_letOn M 0 a p 1 = some ((), upM M p a) := by
  have hM := hr.1.2.1
  have h16 := hr.1.2.2.1
  have ga : (0 : Int) ≤ (a : Int) ∧ (a : Int) < 24 := by omega
  have gp : (0 : Int) ≤ (p : Int) ∧ (p : Int) < 16 := by omega
  have g1 : (1 : Int) = 0 ∨ (1 : Int) = 1 := Or.inr rfl
  have w := wr21 p (by omega)
  have gw : (0 : Int) ≤ ((2 * p + 1 : Nat) : Int) ∧ ((2 * p + 1 : Nat) : Int) < 32 := by clear w; omega
  unfold fX11_letOn upM
  simp only [nm_eq, up_eq, cl_some, ob_some, oe_some, oe_none, ob_none, gI_sI, gI_sR, gI_sN, gI_sCp, gI_sB, gR_sI, gR_sR, gR_sN, gR_sCp, gR_sB, gN_sI, gN_sR, gN_sN, gN_sCp, gN_sB, ↓reduceIte, and_true, true_and, and_false, false_and, and_self, or_true, true_or, or_false, false_or, or_self, Nat.reduceEqDiff, Int.reduceNeg, ne_eq, not_true_eq_false, not_false_eq_true, Int.toNat_natCast, reduceCtorEq, i10, i01, implies_true, true_implies, false_implies, g_t (c := True) trivial, hM.2 2 rfl, hM.2 11 rfl, hM.2 12 rfl, hM.2 16 rfl, hM.2 17 rfl, hM.2 19 rfl, hM.2 21 rfl, hM.2 43 rfl, g_t ga, g_t gp, g_t g1, Int.toNat_natCast, Int.reduceEq, w, g_t gw]
  by_cases s : gI M 68 0 p = 1
  · rw [if_pos s, if_pos s]
  · rw [if_neg s, if_neg s, sI_self (t := 77) rfl]
theorem letOn_dn (hr : RR P C K D X M) {p b : Nat} (hp : p < P) (hb : b < C) : fX11_letOn M 0 b p 0 = some ((), dnM M p b) := by
  have hM := hr.1.2.1
  have h16 := hr.1.2.2.1
  have ga : (0 : Int) ≤ (b : Int) ∧ (b : Int) < 24 := by omega
  have gp : (0 : Int) ≤ (p : Int) ∧ (p : Int) < 16 := by omega
  have g1 : (0 : Int) = 0 ∨ (0 : Int) = 1 := Or.inl rfl
  have w := wr2 p (by omega)
  have gw : (0 : Int) ≤ ((2 * p : Nat) : Int) ∧ ((2 * p : Nat) : Int) < 32 := by clear w; omega
  have w' : wr (((2 * p : Nat) : Int) + 0) = ((2 * p : Nat) : Int) := by clear w; rw [Int.add_zero]; exact wr_id (by unfold zin; omega)
  unfold fX11_letOn dnM
  simp only [nm_eq, up_eq, cl_some, ob_some, oe_some, oe_none, ob_none, gI_sI, gI_sR, gI_sN, gI_sCp, gI_sB, gR_sI, gR_sR, gR_sN, gR_sCp, gR_sB, gN_sI, gN_sR, gN_sN, gN_sCp, gN_sB, ↓reduceIte, and_true, true_and, and_false, false_and, and_self, or_true, true_or, or_false, false_or, or_self, Nat.reduceEqDiff, Int.reduceNeg, ne_eq, not_true_eq_false, not_false_eq_true, Int.toNat_natCast, reduceCtorEq, i10, i01, implies_true, true_implies, false_implies, g_t (c := True) trivial, hM.2 12 rfl, hM.2 16 rfl, hM.2 17 rfl, hM.2 19 rfl, hM.2 43 rfl, g_t ga, g_t gp, g_t g1, Int.toNat_natCast, Int.reduceEq, w, w', g_t gw]
/-! what other ways were told stands -/
theorem NSw_cg {N M Y Y' : zS} {k p : Nat} {d : Int} (h : NSw M Y k p d) (s : sameW Y' Y (wI p d)) (eo : ∀ c, c < k → (oW N p d c ↔ oW M p d c)) (ew : ∀ c, c < k → (wW N p d c ↔ wW M p d c)) (e109 : ∀ c, oW M p d c → gI N 109 0 c = gI M 109 0 c) (e84 : ∀ c, gI N 84 0 c = gI M 84 0 c) (e87 : ∀ c, gI N 87 0 c = gI M 87 0 c) (e68 : gI N 68 0 p = gI M 68 0 p) (e73 : gI N 73 0 p = gI M 73 0 p) (e77 : gI N 77 0 p = gI M 77 0 p) : NSw N Y' k p d := by
  have eon : ∀ n, n ≤ k → onS N p d n = onS M p d n := by
    intro n
    induction n with
    | zero => intro _; rfl
    | succ n ih =>
      intro hn
      rw [onS_s, onS_s, ih (by omega)]
      by_cases o : oW M p d n
      · rw [if_pos o, if_pos ((eo n (by omega)).2 o)]
      · rw [if_neg o, if_neg (fun q => o ((eo n (by omega)).1 q))]
  have enr : ∀ n, n ≤ k → nrS N p d n = nrS M p d n := by
    intro n
    induction n with
    | zero => intro _; rfl
    | succ n ih =>
      intro hn
      rw [nrS_s, nrS_s, ih (by omega)]
      by_cases o : oW M p d n
      · rw [if_pos o, if_pos ((eo n (by omega)).2 o), e109 n o]
      · rw [if_neg o, if_neg (fun q => o ((eo n (by omega)).1 q))]
  have erk : ∀ c, rk N p d c = rk M p d c := fun c => by
    unfold rk tn
    rw [e68, e73, e77, e87]
  have elx : ∀ r c, lx N p d r c ↔ lx M p d r c := fun r c => by
    unfold lx
    rw [erk, erk, e84, e84]
  refine ⟨?_, ?_, ?_⟩
  · rw [(s 1).1, eon k (Nat.le_refl k)]; exact h.1
  · rw [(s 2).1, enr k (Nat.le_refl k)]; exact h.2.1
  · rcases h.2.2 with ⟨h1, h2⟩ | ⟨r, r1, r2, r3, r4, r5⟩
    · exact Or.inl ⟨(s 3).2.trans h1, fun c hc q => h2 c hc ((ew c hc).1 q)⟩
    · refine Or.inr ⟨r, r1, (s 3).2.trans r2, ?_, (ew r r1).2 r4, fun c hc q => ?_⟩
      · rw [(s 4).1, erk]; exact r3
      · rcases r5 c hc ((ew c hc).1 q) with e | e
        · exact Or.inl e
        · exact Or.inr ((elx r c).2 e)
theorem NSw_up {Y N : zS} {k p q a : Nat} {d : Int} (hd : d = 0 ∨ d = 1) (hq : q ≠ p) (w : wW N p 1 a) (h : NSw N Y k q d) : NSw (upM N p a) (upX Y p a) k q d := by
  have w1 := w.1
  have w2 := w.2.1
  have w3 := w.2.2
  rw [if_pos rfl] at w3
  have ne : ¬ wI q d = 2 * p := by rw [← wI_1]; exact wI_ne hd (Or.inr rfl) (fun z => hq z.1)
  unfold upX upM
  refine NSw_cg h (fun j => by simp only [gI_sI, gI_sR, gI_sN, gI_sCp, gI_sB, gR_sI, gR_sR, gR_sN, gR_sCp, gR_sB, gN_sI, gN_sR, gN_sN, gN_sCp, gN_sB, ↓reduceIte, and_true, true_and, and_false, false_and, and_self, or_true, true_or, or_false, false_or, or_self, Nat.reduceEqDiff, Int.reduceNeg, ne_eq, not_true_eq_false, not_false_eq_true, Int.toNat_natCast, reduceCtorEq, i10, i01, implies_true, true_implies, false_implies, g_t (c := True) trivial, ne]) (fun c _ => ?_) (fun c _ => ?_) (fun c o => ?_) (fun c => by simp only [gI_sI, gI_sR, gI_sN, gI_sCp, gI_sB, gR_sI, gR_sR, gR_sN, gR_sCp, gR_sB, gN_sI, gN_sR, gN_sN, gN_sCp, gN_sB, ↓reduceIte, and_true, true_and, and_false, false_and, and_self, or_true, true_or, or_false, false_or, or_self, Nat.reduceEqDiff, Int.reduceNeg, ne_eq, not_true_eq_false, not_false_eq_true, Int.toNat_natCast, reduceCtorEq, i10, i01, implies_true, true_implies, false_implies, g_t (c := True) trivial]) (fun c => by simp only [gI_sI, gI_sR, gI_sN, gI_sCp, gI_sB, gR_sI, gR_sR, gR_sN, gR_sCp, gR_sB, gN_sI, gN_sR, gN_sN, gN_sCp, gN_sB, ↓reduceIte, and_true, true_and, and_false, false_and, and_self, or_true, true_or, or_false, false_or, or_self, Nat.reduceEqDiff, Int.reduceNeg, ne_eq, not_true_eq_false, not_false_eq_true, Int.toNat_natCast, reduceCtorEq, i10, i01, implies_true, true_implies, false_implies, g_t (c := True) trivial]) (by simp only [gI_sI, gI_sR, gI_sN, gI_sCp, gI_sB, gR_sI, gR_sR, gR_sN, gR_sCp, gR_sB, gN_sI, gN_sR, gN_sN, gN_sCp, gN_sB, ↓reduceIte, and_true, true_and, and_false, false_and, and_self, or_true, true_or, or_false, false_or, or_self, Nat.reduceEqDiff, Int.reduceNeg, ne_eq, not_true_eq_false, not_false_eq_true, Int.toNat_natCast, reduceCtorEq, i10, i01, implies_true, true_implies, false_implies, g_t (c := True) trivial]) (by simp only [gI_sI, gI_sR, gI_sN, gI_sCp, gI_sB, gR_sI, gR_sR, gR_sN, gR_sCp, gR_sB, gN_sI, gN_sR, gN_sN, gN_sCp, gN_sB, ↓reduceIte, and_true, true_and, and_false, false_and, and_self, or_true, true_or, or_false, false_or, or_self, Nat.reduceEqDiff, Int.reduceNeg, ne_eq, not_true_eq_false, not_false_eq_true, Int.toNat_natCast, reduceCtorEq, i10, i01, implies_true, true_implies, false_implies, g_t (c := True) trivial]) (by simp only [gI_sI, gI_sR, gI_sN, gI_sCp, gI_sB, gR_sI, gR_sR, gR_sN, gR_sCp, gR_sB, gN_sI, gN_sR, gN_sN, gN_sCp, gN_sB, ↓reduceIte, and_true, true_and, and_false, false_and, and_self, or_true, true_or, or_false, false_or, or_self, Nat.reduceEqDiff, Int.reduceNeg, ne_eq, not_true_eq_false, not_false_eq_true, Int.toNat_natCast, reduceCtorEq, i10, i01, implies_true, true_implies, false_implies, g_t (c := True) trivial, hq])
  · unfold oW
    by_cases e : c = a
    · subst e
      simp only [gI_sI, gI_sR, gI_sN, gI_sCp, gI_sB, gR_sI, gR_sR, gR_sN, gR_sCp, gR_sB, gN_sI, gN_sR, gN_sN, gN_sCp, gN_sB, ↓reduceIte, and_true, true_and, and_false, false_and, and_self, or_true, true_or, or_false, false_or, or_self, Nat.reduceEqDiff, Int.reduceNeg, ne_eq, not_true_eq_false, not_false_eq_true, Int.toNat_natCast, reduceCtorEq, i10, i01, implies_true, true_implies, false_implies, g_t (c := True) trivial]
      constructor
      · rintro ⟨z, -⟩; omega
      · rintro ⟨z, -⟩; omega
    · simp only [gI_sI, gI_sR, gI_sN, gI_sCp, gI_sB, gR_sI, gR_sR, gR_sN, gR_sCp, gR_sB, gN_sI, gN_sR, gN_sN, gN_sCp, gN_sB, ↓reduceIte, and_true, true_and, and_false, false_and, and_self, or_true, true_or, or_false, false_or, or_self, Nat.reduceEqDiff, Int.reduceNeg, ne_eq, not_true_eq_false, not_false_eq_true, Int.toNat_natCast, reduceCtorEq, i10, i01, implies_true, true_implies, false_implies, g_t (c := True) trivial, e]
  · unfold wW
    by_cases e : c = a
    · subst e
      simp only [gI_sI, gI_sR, gI_sN, gI_sCp, gI_sB, gR_sI, gR_sR, gR_sN, gR_sCp, gR_sB, gN_sI, gN_sR, gN_sN, gN_sCp, gN_sB, ↓reduceIte, and_true, true_and, and_false, false_and, and_self, or_true, true_or, or_false, false_or, or_self, Nat.reduceEqDiff, Int.reduceNeg, ne_eq, not_true_eq_false, not_false_eq_true, Int.toNat_natCast, reduceCtorEq, i10, i01, implies_true, true_implies, false_implies, g_t (c := True) trivial]
      constructor
      · rintro ⟨z, -⟩; omega
      · rintro ⟨-, z, z2⟩
        rw [if_pos (by omega)] at z2
        omega
    · simp only [gI_sI, gI_sR, gI_sN, gI_sCp, gI_sB, gR_sI, gR_sR, gR_sN, gR_sCp, gR_sB, gN_sI, gN_sR, gN_sN, gN_sCp, gN_sB, ↓reduceIte, and_true, true_and, and_false, false_and, and_self, or_true, true_or, or_false, false_or, or_self, Nat.reduceEqDiff, Int.reduceNeg, ne_eq, not_true_eq_false, not_false_eq_true, Int.toNat_natCast, reduceCtorEq, i10, i01, implies_true, true_implies, false_implies, g_t (c := True) trivial, e]
  · by_cases e : c = a
    · subst e
      have := o.1
      omega
    · simp only [gI_sI, gI_sR, gI_sN, gI_sCp, gI_sB, gR_sI, gR_sR, gR_sN, gR_sCp, gR_sB, gN_sI, gN_sR, gN_sN, gN_sCp, gN_sB, ↓reduceIte, and_true, true_and, and_false, false_and, and_self, or_true, true_or, or_false, false_or, or_self, Nat.reduceEqDiff, Int.reduceNeg, ne_eq, not_true_eq_false, not_false_eq_true, Int.toNat_natCast, reduceCtorEq, i10, i01, implies_true, true_implies, false_implies, g_t (c := True) trivial, e]
theorem NSw_dn {Y N : zS} {k p q b : Nat} {d : Int} (hd : d = 0 ∨ d = 1) (hq : q ≠ p) (w : wW N p 0 b) (h : NSw N Y k q d) : NSw (dnM N p b) (dnX Y p b) k q d := by
  have w1 := w.1
  have w2 := w.2.1
  have w3 := w.2.2
  rw [if_neg (by decide)] at w3
  have ne : ¬ wI q d = 2 * p + 1 := by rw [← wI_0]; exact wI_ne hd (Or.inl rfl) (fun z => hq z.1)
  unfold dnX dnM
  refine NSw_cg h (fun j => by simp only [gI_sI, gI_sR, gI_sN, gI_sCp, gI_sB, gR_sI, gR_sR, gR_sN, gR_sCp, gR_sB, gN_sI, gN_sR, gN_sN, gN_sCp, gN_sB, ↓reduceIte, and_true, true_and, and_false, false_and, and_self, or_true, true_or, or_false, false_or, or_self, Nat.reduceEqDiff, Int.reduceNeg, ne_eq, not_true_eq_false, not_false_eq_true, Int.toNat_natCast, reduceCtorEq, i10, i01, implies_true, true_implies, false_implies, g_t (c := True) trivial, ne]) (fun c _ => ?_) (fun c _ => ?_) (fun c o => ?_) (fun c => by simp only [gI_sI, gI_sR, gI_sN, gI_sCp, gI_sB, gR_sI, gR_sR, gR_sN, gR_sCp, gR_sB, gN_sI, gN_sR, gN_sN, gN_sCp, gN_sB, ↓reduceIte, and_true, true_and, and_false, false_and, and_self, or_true, true_or, or_false, false_or, or_self, Nat.reduceEqDiff, Int.reduceNeg, ne_eq, not_true_eq_false, not_false_eq_true, Int.toNat_natCast, reduceCtorEq, i10, i01, implies_true, true_implies, false_implies, g_t (c := True) trivial]) (fun c => by simp only [gI_sI, gI_sR, gI_sN, gI_sCp, gI_sB, gR_sI, gR_sR, gR_sN, gR_sCp, gR_sB, gN_sI, gN_sR, gN_sN, gN_sCp, gN_sB, ↓reduceIte, and_true, true_and, and_false, false_and, and_self, or_true, true_or, or_false, false_or, or_self, Nat.reduceEqDiff, Int.reduceNeg, ne_eq, not_true_eq_false, not_false_eq_true, Int.toNat_natCast, reduceCtorEq, i10, i01, implies_true, true_implies, false_implies, g_t (c := True) trivial]) (by simp only [gI_sI, gI_sR, gI_sN, gI_sCp, gI_sB, gR_sI, gR_sR, gR_sN, gR_sCp, gR_sB, gN_sI, gN_sR, gN_sN, gN_sCp, gN_sB, ↓reduceIte, and_true, true_and, and_false, false_and, and_self, or_true, true_or, or_false, false_or, or_self, Nat.reduceEqDiff, Int.reduceNeg, ne_eq, not_true_eq_false, not_false_eq_true, Int.toNat_natCast, reduceCtorEq, i10, i01, implies_true, true_implies, false_implies, g_t (c := True) trivial]) (by simp only [gI_sI, gI_sR, gI_sN, gI_sCp, gI_sB, gR_sI, gR_sR, gR_sN, gR_sCp, gR_sB, gN_sI, gN_sR, gN_sN, gN_sCp, gN_sB, ↓reduceIte, and_true, true_and, and_false, false_and, and_self, or_true, true_or, or_false, false_or, or_self, Nat.reduceEqDiff, Int.reduceNeg, ne_eq, not_true_eq_false, not_false_eq_true, Int.toNat_natCast, reduceCtorEq, i10, i01, implies_true, true_implies, false_implies, g_t (c := True) trivial]) (by simp only [gI_sI, gI_sR, gI_sN, gI_sCp, gI_sB, gR_sI, gR_sR, gR_sN, gR_sCp, gR_sB, gN_sI, gN_sR, gN_sN, gN_sCp, gN_sB, ↓reduceIte, and_true, true_and, and_false, false_and, and_self, or_true, true_or, or_false, false_or, or_self, Nat.reduceEqDiff, Int.reduceNeg, ne_eq, not_true_eq_false, not_false_eq_true, Int.toNat_natCast, reduceCtorEq, i10, i01, implies_true, true_implies, false_implies, g_t (c := True) trivial])
  · unfold oW
    by_cases e : c = b
    · subst e
      simp only [gI_sI, gI_sR, gI_sN, gI_sCp, gI_sB, gR_sI, gR_sR, gR_sN, gR_sCp, gR_sB, gN_sI, gN_sR, gN_sN, gN_sCp, gN_sB, ↓reduceIte, and_true, true_and, and_false, false_and, and_self, or_true, true_or, or_false, false_or, or_self, Nat.reduceEqDiff, Int.reduceNeg, ne_eq, not_true_eq_false, not_false_eq_true, Int.toNat_natCast, reduceCtorEq, i10, i01, implies_true, true_implies, false_implies, g_t (c := True) trivial]
      constructor
      · rintro ⟨z, -⟩; omega
      · rintro ⟨z, -⟩; omega
    · simp only [gI_sI, gI_sR, gI_sN, gI_sCp, gI_sB, gR_sI, gR_sR, gR_sN, gR_sCp, gR_sB, gN_sI, gN_sR, gN_sN, gN_sCp, gN_sB, ↓reduceIte, and_true, true_and, and_false, false_and, and_self, or_true, true_or, or_false, false_or, or_self, Nat.reduceEqDiff, Int.reduceNeg, ne_eq, not_true_eq_false, not_false_eq_true, Int.toNat_natCast, reduceCtorEq, i10, i01, implies_true, true_implies, false_implies, g_t (c := True) trivial, e]
  · unfold wW
    by_cases e : c = b
    · subst e
      simp only [gI_sI, gI_sR, gI_sN, gI_sCp, gI_sB, gR_sI, gR_sR, gR_sN, gR_sCp, gR_sB, gN_sI, gN_sR, gN_sN, gN_sCp, gN_sB, ↓reduceIte, and_true, true_and, and_false, false_and, and_self, or_true, true_or, or_false, false_or, or_self, Nat.reduceEqDiff, Int.reduceNeg, ne_eq, not_true_eq_false, not_false_eq_true, Int.toNat_natCast, reduceCtorEq, i10, i01, implies_true, true_implies, false_implies, g_t (c := True) trivial]
      constructor
      · rintro ⟨z, -⟩; omega
      · rintro ⟨-, z, z2⟩
        rw [if_neg (by omega)] at z2
        omega
    · simp only [gI_sI, gI_sR, gI_sN, gI_sCp, gI_sB, gR_sI, gR_sR, gR_sN, gR_sCp, gR_sB, gN_sI, gN_sR, gN_sN, gN_sCp, gN_sB, ↓reduceIte, and_true, true_and, and_false, false_and, and_self, or_true, true_or, or_false, false_or, or_self, Nat.reduceEqDiff, Int.reduceNeg, ne_eq, not_true_eq_false, not_false_eq_true, Int.toNat_natCast, reduceCtorEq, i10, i01, implies_true, true_implies, false_implies, g_t (c := True) trivial, e]
  · by_cases e : c = b
    · subst e
      have := o.1
      omega
    · simp only [gI_sI, gI_sR, gI_sN, gI_sCp, gI_sB, gR_sI, gR_sR, gR_sN, gR_sCp, gR_sB, gN_sI, gN_sR, gN_sN, gN_sCp, gN_sB, ↓reduceIte, and_true, true_and, and_false, false_and, and_self, or_true, true_or, or_false, false_or, or_self, Nat.reduceEqDiff, Int.reduceNeg, ne_eq, not_true_eq_false, not_false_eq_true, Int.toNat_natCast, reduceCtorEq, i10, i01, implies_true, true_implies, false_implies, g_t (c := True) trivial, e]
end GO
