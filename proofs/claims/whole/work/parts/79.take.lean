/-! ===== clerks take from the row ===== -/
section TK
variable {P C K : Nat} {D : Int} {X M : zS}
theorem nk_of (hr : RR P C K D X M) {c : Nat} (z : gI M 82 0 c ≠ 4) : ∀ k, k < K → gI M 102 0 k ≠ c := fun k hk e => by
  have := (((hr.2.2.2.2.2.2.2.1 k hk).2.2.2) (by omega)).2.2.1
  rw [e, Int.toNat_natCast] at this
  exact z this
theorem take_rr (hr : RR P C K D X M) {k h : Nat} (hk : k < K) (hh : h < C) (k9 : gI M 102 0 k = -9) (z : gI M 82 0 h = 3) : RR P C K D (sI (sR (sR (sR (sR (sR (sR (sI X 5 h 3 4) 5 h 4 none) 5 h 6 none) 5 h 7 none) 5 h 8 none) 5 h 8 (some k)) 3 k 2 (some h)) 3 k 3 (gI M 101 0 k)) (sI (sI (sI M 102 0 k h) 103 0 k (gI M 101 0 k)) 82 0 h 4) := by
  have nk := nk_of hr (c := h) (by omega)
  have hr' := hr
  obtain ⟨⟨hX, hM, hN⟩, hS, hF, hB, hP, hL, hC, hK, hD, hZ⟩ := hr
  obtain ⟨⟨a0, a1, a2, a3⟩, ⟨b1, b2, b3, b4⟩, ⟨c1, c2, c3⟩, d4, d5, d6, d7, d8, d9, d10, d11, d12, d13, d14, d15, d16, d17, d18, d19, d20, d21, d22, d23, d24, d25⟩ := hC h hh
  refine hr'.gen (c := h) (fun _ => rfl) (fun _ => rfl) (by repeat first | exact .rf | refine eqS_sI rfl ?_ | refine eqS_sR rfl ?_ | refine eqS_sB (fun _ => rfl) ?_ | refine eqS_sN (fun _ => rfl) ?_) (by repeat first | exact .rf | refine eqS_sI rfl ?_ | refine eqS_sR rfl ?_ | refine eqS_sB (fun _ => rfl) ?_ | refine eqS_sN (fun _ => rfl) ?_) (fun i j hi => ?_) (fun _ _ _ _ => rfl) (fun t ht i hi => ?_) (fun _ _ => rfl) (fun k' hk' i hi e => ?_) (hS.cg (by repeat first | exact .rf | refine eqS_sI rfl ?_ | refine eqS_sR rfl ?_ | refine eqS_sB (fun _ => rfl) ?_ | refine eqS_sN (fun _ => rfl) ?_) (fun _ _ => rfl) (by repeat first | exact .rf | refine eqS_sI rfl ?_ | refine eqS_sR rfl ?_ | refine eqS_sB (fun _ => rfl) ?_ | refine eqS_sN (fun _ => rfl) ?_)) (hB.cg (by repeat first | exact .rf | refine eqS_sI rfl ?_ | refine eqS_sR rfl ?_ | refine eqS_sB (fun _ => rfl) ?_ | refine eqS_sN (fun _ => rfl) ?_) (by repeat first | exact .rf | refine eqS_sI rfl ?_ | refine eqS_sR rfl ?_ | refine eqS_sB (fun _ => rfl) ?_ | refine eqS_sN (fun _ => rfl) ?_)) (fun p hp => (hP p hp).cg (by repeat first | exact .rf | refine eqS_sI rfl ?_ | refine eqS_sR rfl ?_ | refine eqS_sB (fun _ => rfl) ?_ | refine eqS_sN (fun _ => rfl) ?_) (by repeat first | exact .rf | refine eqS_sI rfl ?_ | refine eqS_sR rfl ?_ | refine eqS_sB (fun _ => rfl) ?_ | refine eqS_sN (fun _ => rfl) ?_)) ?_ (fun k' hk' => ?_) (hD.cg (by repeat first | exact .rf | refine eqS_sI rfl ?_ | refine eqS_sR rfl ?_ | refine eqS_sB (fun _ => rfl) ?_ | refine eqS_sN (fun _ => rfl) ?_)) (by repeat first | exact hZ | refine RZ.sI (by first | rfl | (simp [zZ]; omega)) ?_)
  · simp only [gI_sI, gI_sR, gI_sN, gI_sCp, gI_sB, gR_sI, gR_sR, gR_sN, gR_sCp, gR_sB, gN_sI, gN_sR, gN_sN, gN_sCp, gN_sB, ↓reduceIte, and_true, true_and, and_false, false_and, and_self, or_true, true_or, or_false, false_or, or_self, Nat.reduceEqDiff, Int.reduceNeg, ne_eq, not_true_eq_false, not_false_eq_true, Int.toNat_natCast, reduceCtorEq, i10, i01, implies_true, true_implies, false_implies, g_t (c := True) trivial, hi]
  · rcases ht with rfl | rfl | rfl | rfl | rfl | rfl | rfl | rfl | rfl | rfl <;> simp only [gI_sI, gI_sR, gI_sN, gI_sCp, gI_sB, gR_sI, gR_sR, gR_sN, gR_sCp, gR_sB, gN_sI, gN_sR, gN_sN, gN_sCp, gN_sB, ↓reduceIte, and_true, true_and, and_false, false_and, and_self, or_true, true_or, or_false, false_or, or_self, Nat.reduceEqDiff, Int.reduceNeg, ne_eq, not_true_eq_false, not_false_eq_true, Int.toNat_natCast, reduceCtorEq, i10, i01, implies_true, true_implies, false_implies, g_t (c := True) trivial, hi]
  · have : k' ≠ k := by
      rintro rfl; omega
    simp only [gI_sI, gI_sR, gI_sN, gI_sCp, gI_sB, gR_sI, gR_sR, gR_sN, gR_sCp, gR_sB, gN_sI, gN_sR, gN_sN, gN_sCp, gN_sB, ↓reduceIte, and_true, true_and, and_false, false_and, and_self, or_true, true_or, or_false, false_or, or_self, Nat.reduceEqDiff, Int.reduceNeg, ne_eq, not_true_eq_false, not_false_eq_true, Int.toNat_natCast, reduceCtorEq, i10, i01, implies_true, true_implies, false_implies, g_t (c := True) trivial, this]
    exact e
  · unfold RC
    simp only [gI_sI, gI_sR, gI_sN, gI_sCp, gI_sB, gR_sI, gR_sR, gR_sN, gR_sCp, gR_sB, gN_sI, gN_sR, gN_sN, gN_sCp, gN_sB, ↓reduceIte, and_true, true_and, and_false, false_and, and_self, or_true, true_or, or_false, false_or, or_self, Nat.reduceEqDiff, Int.reduceNeg, ne_eq, not_true_eq_false, not_false_eq_true, Int.toNat_natCast, reduceCtorEq, i10, i01, implies_true, true_implies, false_implies, g_t (c := True) trivial]
    have d72 := d7.2
    have q : ∃ k', k' < K ∧ some k = some k' ∧ (if k' = k then (h : Int) else gI M 102 0 k') = h := ⟨k, hk, rfl, if_pos rfl⟩
    and_intros <;> first | exact True.intro | assumption | omega | (intro x; first | assumption | omega | (exfalso; omega))
  · by_cases e : k' = k
    · subst e
      obtain ⟨⟨k1, k2, k3, k4, k5⟩, -, -, -⟩ := hK k' hk'
      unfold RK
      simp only [gI_sI, gI_sR, gI_sN, gI_sCp, gI_sB, gR_sI, gR_sR, gR_sN, gR_sCp, gR_sB, gN_sI, gN_sR, gN_sN, gN_sCp, gN_sB, ↓reduceIte, and_true, true_and, and_false, false_and, and_self, or_true, true_or, or_false, false_or, or_self, Nat.reduceEqDiff, Int.reduceNeg, ne_eq, not_true_eq_false, not_false_eq_true, Int.toNat_natCast, reduceCtorEq, i10, i01, implies_true, true_implies, false_implies, g_t (c := True) trivial]
      have o : ox (h : Int) = some h := by unfold ox; rw [if_neg (by omega), Int.toNat_natCast]
      rw [o]
      have n9 : ¬ (h : Int) = -9 := by omega
      simp only [n9, ↓reduceIte, and_true, true_and, and_false, false_and, and_self, or_true, true_or, or_false, false_or, or_self, Nat.reduceEqDiff, Int.reduceNeg, ne_eq, not_true_eq_false, not_false_eq_true, Int.toNat_natCast, reduceCtorEq, i10, i01, implies_true, true_implies, false_implies, g_t (c := True) trivial]
      exact ⟨⟨k1, k2, k3, k4, k5⟩, ⟨by omega, by omega⟩, k4, k5⟩
    · refine (hK k' hk').cg3 (nk k' hk') rfl (fun j => ?_) (fun j => ?_) (fun i hi => ?_) ?_ ?_ ?_ (fun i hi => ?_) <;> simp only [gI_sI, gI_sR, gI_sN, gI_sCp, gI_sB, gR_sI, gR_sR, gR_sN, gR_sCp, gR_sB, gN_sI, gN_sR, gN_sN, gN_sCp, gN_sB, ↓reduceIte, and_true, true_and, and_false, false_and, and_self, or_true, true_or, or_false, false_or, or_self, Nat.reduceEqDiff, Int.reduceNeg, ne_eq, not_true_eq_false, not_false_eq_true, Int.toNat_natCast, reduceCtorEq, i10, i01, implies_true, true_implies, false_implies, g_t (c := True) trivial, e] <;> simp only [hi, ↓reduceIte, and_true, true_and, and_false, false_and, and_self, or_true, true_or, or_false, false_or, or_self, Nat.reduceEqDiff, Int.reduceNeg, ne_eq, not_true_eq_false, not_false_eq_true, Int.toNat_natCast, reduceCtorEq, i10, i01, implies_true, true_implies, false_implies, g_t (c := True) trivial]
/-- the model goes on over its clerks when the row is empty -/
theorem restL {nf : Nat} (hnf : 1000 ≤ nf) : ∀ (m n k : Nat) (N : zS), k + m = K → m < n → RR P C K D X N → (∀ d : Nat, d < C → gI N 82 0 d ≠ 3) → ∃ N', fX11_takeOn_L2 0 nf n N (k : Int) = some ((), N') ∧ RR P C K D X N' ∧ gI N' 64 0 13 = gI N 64 0 13
  | 0, n + 1, k, N, hk, _, hr, hd => by
    have hN := hr.1.2.2
    refine ⟨N, ?_, hr, rfl⟩
    unfold fX11_takeOn_L2
    rw [if_neg (by rw [hN.2.1.2.2]; omega)]
  | m + 1, n + 1, k, N, hk, hn, hr, hd => by
    have hM := hr.1.2.1
    have hN := hr.1.2.2
    have h16 := hN.1
    have gk : (0 : Int) ≤ (k : Int) ∧ (k : Int) < 4 := by omega
    by_cases k9 : gI N 102 0 k = -9
    · obtain ⟨N1, e1, e2, e3, e4⟩ := next_row hr hnf
      have f0 : gI N1 64 0 52 = 0 ∧ ∀ d : Nat, gI N1 82 0 d = gI N 82 0 d := by
        refine ⟨?_, fun d => e3.2.2 82 0 d (by decide) (by omega)⟩
        rcases e4 with e4 | ⟨h, h1, -, -, -, h5⟩
        · exact e4.2.1
        · exact absurd h5 (hd h h1)
      obtain ⟨N', a1, a2, a3⟩ := restL hnf m n (k + 1) N1 (by omega) (by omega) e2 (fun d hd' => by rw [f0.2]; exact hd d hd')
      refine ⟨N', ?_, a2, a3.trans (e3.2.2 64 0 13 (by decide) (by decide))⟩
      conv => lhs; unfold fX11_takeOn_L2
      rw [if_pos (by rw [hN.2.1.2.2]; omega)]
      simp only [nm_eq, up_eq, cl_some, ob_some, oe_some, oe_none, ob_none, hM.2 36 rfl, g_t gk, Int.toNat_natCast, k9, ↓reduceIte, e1, f0.1, Int.lt_irrefl, nat_wr k (by omega)]
      exact a1
    · obtain ⟨N', a1, a2⟩ := restL hnf m n (k + 1) N (by omega) (by omega) hr hd
      refine ⟨N', ?_, a2⟩
      conv => lhs; unfold fX11_takeOn_L2
      rw [if_pos (by rw [hN.2.1.2.2]; omega)]
      simp only [nm_eq, up_eq, cl_some, ob_some, oe_some, oe_none, ob_none, hM.2 36 rfl, g_t gk, Int.toNat_natCast, k9, ↓reduceIte, nat_wr k (by omega)]
      exact a1
theorem takeRowL {nf : Nat} (hnf : 1000 ≤ nf) : ∀ (m n k : Nat) (Y N : zS), k + m = K → m < n → RR P C K D Y N → ∃ Y' N', fX10_takeFromRow_L2 0 nf n Y (k : Int) = some ((), Y') ∧ fX11_takeOn_L2 0 nf n N (k : Int) = some ((), N') ∧ RR P C K D Y' N' ∧ gI N' 64 0 13 = gI N 64 0 13
  | 0, n + 1, k, Y, N, hk, _, hr => by
    have hN := hr.1.2.2
    refine ⟨Y, N, ?_, ?_, hr, rfl⟩
    · unfold fX10_takeFromRow_L2
      rw [if_neg (by rw [hN.2.2.1.2.2]; omega)]
    · unfold fX11_takeOn_L2
      rw [if_neg (by rw [hN.2.1.2.2]; omega)]
  | m + 1, n + 1, k, Y, N, hk, hn, hr => by
    have hX := hr.1.1
    have hM := hr.1.2.1
    have hN := hr.1.2.2
    have h16 := hN.1
    have hS := hr.2.1
    have gk : (0 : Int) ≤ (k : Int) ∧ (k : Int) < 4 := by omega
    have g0 : (0 : Int) ≤ 0 ∧ (0 : Int) < 24 := by omega
    obtain ⟨⟨k1, k2, k3, k4, k5⟩, k6, k7, k8⟩ := hr.2.2.2.2.2.2.2.1 k (by omega)
    by_cases k9 : gI N 102 0 k = -9
    · have r9 : ox (gI N 102 0 k) = none := by rw [k9]; rfl
      obtain ⟨N1, e1, e2, e3, e4⟩ := next_row hr hnf
      rcases e4 with ⟨e5, e6, e7⟩ | ⟨h, h1, h2, h3, h4, h5⟩
      · obtain ⟨N', a1, a2, a3⟩ := restL hnf m n (k + 1) N1 (by omega) (by omega) e2 (fun d hd' => by rw [e3.2.2 82 0 d (by decide) (by omega)]; exact e7 d hd')
        refine ⟨Y, N', ?_, ?_, a2, a3.trans (e3.2.2 64 0 13 (by decide) (by decide))⟩
        · conv => lhs; unfold fX10_takeFromRow_L2
          rw [if_pos (by rw [hN.2.2.1.2.2]; omega)]
          simp only [nm_eq, up_eq, cl_some, ob_some, oe_some, oe_none, ob_none, hX.2.1 2 (by decide), g_t gk, Int.toNat_natCast, k1, k6, r9, e5]
        · conv => lhs; unfold fX11_takeOn_L2
          rw [if_pos (by rw [hN.2.1.2.2]; omega)]
          simp only [nm_eq, up_eq, cl_some, ob_some, oe_some, oe_none, ob_none, hM.2 36 rfl, g_t gk, Int.toNat_natCast, k9, ↓reduceIte, e1, e6, Int.lt_irrefl, nat_wr k (by omega)]
          exact a1
      · have hM1 := e2.1.2.1
        have z1 : gI N1 82 0 h = 3 := by rw [e3.2.2 82 0 h (by decide) (by omega)]; exact h5
        have k91 : gI N1 102 0 k = -9 := by rw [e3.2.2 102 0 k (by decide) (by omega)]; exact k9
        have gh : (0 : Int) ≤ (h : Int) ∧ (h : Int) < 24 := by omega
        have r2 := take_rr e2 (show k < K by omega) h1 k91 z1
        obtain ⟨Y', N', a0, a1, a2, a3⟩ := takeRowL hnf m n (k + 1) _ _ (by omega) (by omega) r2
        have s1 : gI Y 3 k 1 = gI N1 101 0 k := k3.trans (e3.2.2 101 0 k (by decide) (by omega)).symm
        refine ⟨Y', N', ?_, ?_, a2, a3.trans (e3.2.2 64 0 13 (by decide) (by decide))⟩
        · conv => lhs; unfold fX10_takeFromRow_L2
          rw [if_pos (by rw [hN.2.2.1.2.2]; omega)]
          unfold fX4_leaveFor
          simp only [nm_eq, up_eq, cl_some, ob_some, oe_some, oe_none, ob_none, hX.2.1 2 (by decide), g_t gk, Int.toNat_natCast, k1, k6, r9, h2, gI_sI, gI_sR, gI_sN, gI_sCp, gI_sB, gR_sI, gR_sR, gR_sN, gR_sCp, gR_sB, gN_sI, gN_sR, gN_sN, gN_sCp, gN_sB, s1, nat_wr k (by omega)]
          exact a0
        · conv => lhs; unfold fX11_takeOn_L2
          rw [if_pos (by rw [hN.2.1.2.2]; omega)]
          simp only [nm_eq, up_eq, cl_some, ob_some, oe_some, oe_none, ob_none, hM.2 36 rfl, hM1.2 51 rfl, hM1.2 36 rfl, hM1.2 37 rfl, hM1.2 35 rfl, hM1.2 16 rfl, g_t gk, g_t g0, g_t gh, Int.toNat_natCast, Int.toNat_zero, k9, ↓reduceIte, e1, h3, h4, gI_sI, gI_sR, gI_sN, gI_sCp, gI_sB, gR_sI, gR_sR, gR_sN, gR_sCp, gR_sB, gN_sI, gN_sR, gN_sN, gN_sCp, gN_sB, ↓reduceIte, and_true, true_and, and_false, false_and, and_self, or_true, true_or, or_false, false_or, or_self, Nat.reduceEqDiff, Int.reduceNeg, ne_eq, not_true_eq_false, not_false_eq_true, Int.toNat_natCast, reduceCtorEq, i10, i01, implies_true, true_implies, false_implies, g_t (c := True) trivial, nat_wr k (by omega)]
          exact a1
    · have r9 : ox (gI N 102 0 k) = some (gI N 102 0 k).toNat := by unfold ox; rw [if_neg (by have := k8 k9; omega)]
      obtain ⟨Y', N', a0, a1, a2⟩ := takeRowL hnf m n (k + 1) Y N (by omega) (by omega) hr
      refine ⟨Y', N', ?_, ?_, a2⟩
      · conv => lhs; unfold fX10_takeFromRow_L2
        rw [if_pos (by rw [hN.2.2.1.2.2]; omega)]
        simp only [nm_eq, up_eq, cl_some, ob_some, oe_some, oe_none, ob_none, hX.2.1 2 (by decide), g_t gk, Int.toNat_natCast, k1, k6, r9, nat_wr k (by omega)]
        exact a0
      · conv => lhs; unfold fX11_takeOn_L2
        rw [if_pos (by rw [hN.2.1.2.2]; omega)]
        simp only [nm_eq, up_eq, cl_some, ob_some, oe_some, oe_none, ob_none, hM.2 36 rfl, g_t gk, Int.toNat_natCast, k9, ↓reduceIte, nat_wr k (by omega)]
        exact a1
theorem ph_take {nf : Nat} (hnf : 1000 ≤ nf) : phase (fun X => fX10_takeFromRow nf X 0) (fun M => fX11_takeOn nf M 0) 0 := by
  intro P C K D X M hr hD
  have h16 := hr.1.2.2.1
  obtain ⟨Y', N', a1, a2, a3, a4⟩ := takeRowL hnf K nf 0 X M (by omega) (by omega) hr
  exact ⟨Y', N', a1, a2, a3.le (by omega), a4⟩
end TK
