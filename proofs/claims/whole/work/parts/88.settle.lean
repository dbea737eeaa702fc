/-! ===== a clerk is done with a cup ===== -/
def vX (t _ : Nat) : Bool := !(t == 15 || t == 3)
def vM (t k : Nat) : Bool := !(t == 92 || t == 102 || t == 103 || t == 110 || t == 111 || (t == 64 && k == 46))
theorem vX_d : (∀ t k, uX t k = true → vX t k = true) ∧ (∀ t k, dPX t k = true → vX t k = true) ∧ (∀ t k, dBX t k = true → vX t k = true) ∧ (∀ t k, dCX t k = true → vX t k = true) ∧ (∀ t k, dSX t k = true → vX t k = true) := by
  and_intros <;> intro t k h <;> cases u : vX t k <;> first | rfl | (exfalso; simp [vX] at u; simp [uX, dPX, dBX, dCX, dSX] at h; omega)
theorem vM_d : (∀ t k, uM t k = true → vM t k = true) ∧ (∀ t k, dPM t k = true → vM t k = true) ∧ (∀ t k, dBM t k = true → vM t k = true) ∧ (∀ t k, dZM t k = true → vM t k = true) := by
  refine ⟨fun t k h => ?_, fun t k h => ?_, fun t k h => ?_, fun t k h => ?_⟩
  · cases u : vM t k
    · exfalso
      simp [vM] at u
      have q : t = 92 ∨ t = 102 ∨ t = 103 ∨ t = 110 ∨ t = 111 ∨ (t = 64 ∧ k = 46) := by omega
      rcases q with rfl | rfl | rfl | rfl | rfl | ⟨rfl, rfl⟩ <;> cases h
    · rfl
  · cases u : vM t k
    · exfalso
      simp [vM] at u
      have q : t = 92 ∨ t = 102 ∨ t = 103 ∨ t = 110 ∨ t = 111 ∨ (t = 64 ∧ k = 46) := by omega
      rcases q with rfl | rfl | rfl | rfl | rfl | ⟨rfl, rfl⟩ <;> cases h
    · rfl
  · cases u : vM t k
    · exfalso
      simp [vM] at u
      have q : t = 92 ∨ t = 102 ∨ t = 103 ∨ t = 110 ∨ t = 111 ∨ (t = 64 ∧ k = 46) := by omega
      rcases q with rfl | rfl | rfl | rfl | rfl | ⟨rfl, rfl⟩ <;> cases h
    · rfl
  · cases u : vM t k
    · exfalso
      simp [vM] at u
      have q : t = 92 ∨ t = 102 ∨ t = 103 ∨ t = 110 ∨ t = 111 ∨ (t = 64 ∧ k = 46) := by omega
      rcases q with rfl | rfl | rfl | rfl | rfl | ⟨rfl, rfl⟩ <;> cases h
    · rfl
section SV
variable {P C K : Nat} {D : Int} {X M : zS}
theorem settled_rr (hr : RR P C K D X M) {k c : Nat} (hk : k < K) (hc : c < C) (has : gI M 102 0 k = c) {Y N : zS} (nY : ∀ t, gN Y t = gN X t) (nN : ∀ t, gN N t = gN M t) (eV : eqS vX Y X) (fV : eqS vM N M)
    (y3i : ∀ i j, gI Y 3 i j = if i = k ∧ j = 3 then 0 else gI X 3 i j) (y3r : ∀ i j, gR Y 3 i j = if i = k ∧ j = 2 then none else gR X 3 i j) (y15 : ∀ i j, 3 ≤ i → gI Y 15 i j = gI X 15 i j)
    (n102 : ∀ i, gI N 102 0 i = if i = k then -9 else gI M 102 0 i) (n103 : ∀ i, i ≠ k → gI N 103 0 i = gI M 103 0 i)
    (L Q G H : Nat → Int) {s : Int} (hs0 : 0 ≤ s) (hs3 : s ≤ 3) (hs1 : s ≠ 1) (hL : ∀ j, j < 6 → L j = H j ∧ 0 ≤ H j ∧ H j ≤ D + 50) (hQ : ∀ j, j < 6 → Q j = G (6 * c + j) ∧ 0 ≤ G (6 * c + j) ∧ G (6 * c + j) ≤ 3000) (hG : ∀ j, (j < 6 * c ∨ 6 * c + 6 ≤ j) → G j = gI M 91 0 j)
    (res : Option Nat) (ho : oi res = -9 ∨ (0 < oi res ∧ oi res < P ∧ gI M 67 0 (oi res).toNat = 0)) : RR P C K (D + 50)
    (sI (sR (sI (sR (sR (sR (sR (sR (sI (sI (sB (sB Y 15 0 L) 15 (c + 3) Q) 5 c 12 s) 5 c 3 1) 5 c 4 none) 5 c 6 none) 5 c 7 none) 5 c 8 none) 5 c 4 (some 0)) 5 c 5 0) 5 c 7 res) 5 c 10 (gI M 64 0 13))
    (sI (sI (sI (sI (sI (sI (sB (sB N 91 0 G) 92 0 H) 88 0 c s) 82 0 c 1) 83 0 c 0) 84 0 c (gI M 64 0 13)) 85 0 c 0) 86 0 c (oi res)) := by
  have hr0 := hr
  obtain ⟨⟨hX, hM, hN⟩, hS, hF, hB, hP, hL', hC, hK, hD, hZ⟩ := hr
  have h16 := hN.1
  obtain ⟨⟨a0, a1, a2, a3⟩, ⟨b1, b2, b3, b4⟩, ⟨c1, c2, c3⟩, d4, d5, d6, d7, d8, d9, d10, d11, d12, d13, d14, d15, d16, d17, d18, d19, d20, d21, d22, d23, d24, d25⟩ := hC c hc
  obtain ⟨⟨k1, k2, k3, k4, k5⟩, k6, k7, k8⟩ := hK k hk
  have k8 := k8 (by omega)
  rw [has, Int.toNat_natCast] at k8
  have z := k8.2.2.1
  have hs := hS.1
  have s0 := ((hP 0 (by omega)).2.1 rfl).2
  have nk : ∀ k', k' < K → k' ≠ k → gI M 102 0 k' ≠ c := fun k' hk' ne e => by
    have := ((hK k' hk').2.2.2 (by omega)).2.2.2
    rw [e, Int.toNat_natCast, k8.2.2.2] at this
    exact ne (Option.some.inj this).symm
  have y5 : ∀ i j, gI Y 5 i j = gI X 5 i j := fun i j => (eV 5 j rfl).1 i
  have y5r : ∀ i j, gR Y 5 i j = gR X 5 i j := fun i j => (eV 5 j rfl).2 i
  have nn : ∀ t, t = 81 ∨ t = 82 ∨ t = 83 ∨ t = 84 ∨ t = 85 ∨ t = 86 ∨ t = 87 ∨ t = 88 ∨ t = 89 ∨ t = 90 ∨ t = 91 ∨ t = 109 ∨ t = 67 ∨ t = 68 ∨ t = 69 ∨ t = 101 ∨ t = 75 ∨ t = 95 → ∀ i, gI N t 0 i = gI M t 0 i := fun t ht i => by
    rcases ht with rfl | rfl | rfl | rfl | rfl | rfl | rfl | rfl | rfl | rfl | rfl | rfl | rfl | rfl | rfl | rfl | rfl | rfl <;> exact (fV _ i rfl).1 0
  have hP2 : ∀ p, p < P → RP P Y N p := fun p hp => (hP p hp).cg (eV.mono vX_d.2.1) (fV.mono vM_d.2.1)
  have hB2 : RB Y N := hB.cg (eV.mono vX_d.2.2.1) (fV.mono vM_d.2.2.1)
  have hZ : RZ P C N := hZ.cg (fV.mono vM_d.2.2.2)
  have hZ1 : RZ P C (sB N 91 0 G) := RZ.sB (fun j hj => by
    have e := hr0.2.2.2.2.2.2.2.2.2 91 j hj
    rw [← e]
    exact hG j (by simp [zZ] at hj; omega)) hZ
  have hZ2 : RZ P C (sB (sB N 91 0 G) 92 0 H) := RZ.sB (fun j hj => by cases hj) hZ1
  have hZ3 : RZ P C (sI (sI (sI (sI (sI (sI (sB (sB N 91 0 G) 92 0 H) 88 0 c s) 82 0 c 1) 83 0 c 0) 84 0 c (gI M 64 0 13)) 85 0 c 0) 86 0 c (oi res)) := by
    have hZ := hZ2
    exact (by repeat first | exact hZ | refine RZ.sI (by first | rfl | (simp [zZ]; omega)) ?_)
  have eU := eV.mono vX_d.1
  have fU := fV.mono vM_d.1
  refine hr0.gen (c := c) (fun _ => by simp only [gI_sI, gI_sR, gI_sN, gI_sCp, gI_sB, gR_sI, gR_sR, gR_sN, gR_sCp, gR_sB, gN_sI, gN_sR, gN_sN, gN_sCp, gN_sB, nY]) (fun _ => by simp only [gI_sI, gI_sR, gI_sN, gI_sCp, gI_sB, gR_sI, gR_sR, gR_sN, gR_sCp, gR_sB, gN_sI, gN_sR, gN_sN, gN_sCp, gN_sB, nN]) ?_ ?_ (fun i j hi => ?_) (fun i j h3 hi => ?_) (fun t ht i hi => ?_) (fun j hj => ?_) (fun k' hk' i hi e => ?_) ?_ (hB2.cg (by repeat first | refine eqS_sI rfl ?_ | refine eqS_sR rfl ?_ | refine eqS_sB (fun _ => rfl) ?_ | refine eqS_sN (fun _ => rfl) ?_ | exact .rf) (by repeat first | refine eqS_sI rfl ?_ | refine eqS_sR rfl ?_ | refine eqS_sB (fun _ => rfl) ?_ | refine eqS_sN (fun _ => rfl) ?_ | exact .rf)) (fun p hp => (hP2 p hp).cg (by repeat first | refine eqS_sI rfl ?_ | refine eqS_sR rfl ?_ | refine eqS_sB (fun _ => rfl) ?_ | refine eqS_sN (fun _ => rfl) ?_ | exact .rf) (by repeat first | refine eqS_sI rfl ?_ | refine eqS_sR rfl ?_ | refine eqS_sB (fun _ => rfl) ?_ | refine eqS_sN (fun _ => rfl) ?_ | exact .rf)) ?_ (fun k' hk' => ?_) ?_ hZ3
  · repeat first | refine eqS_sI rfl ?_ | refine eqS_sR rfl ?_ | refine eqS_sB (fun _ => rfl) ?_ | exact eU
  · repeat first | refine eqS_sI rfl ?_ | refine eqS_sR rfl ?_ | refine eqS_sB (fun _ => rfl) ?_ | exact fU
  · simp only [gI_sI, gI_sR, gI_sN, gI_sCp, gI_sB, gR_sI, gR_sR, gR_sN, gR_sCp, gR_sB, gN_sI, gN_sR, gN_sN, gN_sCp, gN_sB, ↓reduceIte, and_true, true_and, and_false, false_and, and_self, or_true, true_or, or_false, false_or, or_self, Nat.reduceEqDiff, Int.reduceNeg, ne_eq, not_true_eq_false, not_false_eq_true, Int.toNat_natCast, reduceCtorEq, i10, i01, implies_true, true_implies, false_implies, g_t (c := True) trivial, hi, y5, y5r]
  · have : ¬ i = 0 := by omega
    simp only [gI_sI, gI_sR, gI_sN, gI_sCp, gI_sB, gR_sI, gR_sR, gR_sN, gR_sCp, gR_sB, gN_sI, gN_sR, gN_sN, gN_sCp, gN_sB, ↓reduceIte, and_true, true_and, and_false, false_and, and_self, or_true, true_or, or_false, false_or, or_self, Nat.reduceEqDiff, Int.reduceNeg, ne_eq, not_true_eq_false, not_false_eq_true, Int.toNat_natCast, reduceCtorEq, i10, i01, implies_true, true_implies, false_implies, g_t (c := True) trivial, hi, this, y15 i j h3]
  · rcases ht with rfl | rfl | rfl | rfl | rfl | rfl | rfl | rfl | rfl | rfl <;> simp only [gI_sI, gI_sR, gI_sN, gI_sCp, gI_sB, gR_sI, gR_sR, gR_sN, gR_sCp, gR_sB, gN_sI, gN_sR, gN_sN, gN_sCp, gN_sB, ↓reduceIte, and_true, true_and, and_false, false_and, and_self, or_true, true_or, or_false, false_or, or_self, Nat.reduceEqDiff, Int.reduceNeg, ne_eq, not_true_eq_false, not_false_eq_true, Int.toNat_natCast, reduceCtorEq, i10, i01, implies_true, true_implies, false_implies, g_t (c := True) trivial, hi] <;> exact nn _ (by simp) i
  · simp only [gI_sI, gI_sR, gI_sN, gI_sCp, gI_sB, gR_sI, gR_sR, gR_sN, gR_sCp, gR_sB, gN_sI, gN_sR, gN_sN, gN_sCp, gN_sB, ↓reduceIte, and_true, true_and, and_false, false_and, and_self, or_true, true_or, or_false, false_or, or_self, Nat.reduceEqDiff, Int.reduceNeg, ne_eq, not_true_eq_false, not_false_eq_true, Int.toNat_natCast, reduceCtorEq, i10, i01, implies_true, true_implies, false_implies, g_t (c := True) trivial]
    exact hG j hj
  · have : k' ≠ k := by
      rintro rfl; omega
    simp only [gI_sI, gI_sR, gI_sN, gI_sCp, gI_sB, gR_sI, gR_sR, gR_sN, gR_sCp, gR_sB, gN_sI, gN_sR, gN_sN, gN_sCp, gN_sB, ↓reduceIte, and_true, true_and, and_false, false_and, and_self, or_true, true_or, or_false, false_or, or_self, Nat.reduceEqDiff, Int.reduceNeg, ne_eq, not_true_eq_false, not_false_eq_true, Int.toNat_natCast, reduceCtorEq, i10, i01, implies_true, true_implies, false_implies, g_t (c := True) trivial, n102, this]
    exact e
  · have e0 : ∀ j, gI Y 0 0 j = gI X 0 0 j := fun j => (eV 0 j rfl).1 0
    have f0 : gI N 64 0 13 = gI M 64 0 13 ∧ gI N 64 0 38 = gI M 64 0 38 ∧ gI N 64 0 27 = gI M 64 0 27 ∧ gI N 64 0 28 = gI M 64 0 28 := ⟨(fV 64 13 rfl).1 0, (fV 64 38 rfl).1 0, (fV 64 27 rfl).1 0, (fV 64 28 rfl).1 0⟩
    have c30 : ¬ 0 = c + 3 := by omega
    unfold RS at hS ⊢
    simp only [gI_sI, gI_sR, gI_sN, gI_sCp, gI_sB, gR_sI, gR_sR, gR_sN, gR_sCp, gR_sB, gN_sI, gN_sR, gN_sN, gN_sCp, gN_sB, ↓reduceIte, and_true, true_and, and_false, false_and, and_self, or_true, true_or, or_false, false_or, or_self, Nat.reduceEqDiff, Int.reduceNeg, ne_eq, not_true_eq_false, not_false_eq_true, Int.toNat_natCast, reduceCtorEq, i10, i01, implies_true, true_implies, false_implies, g_t (c := True) trivial, e0, f0, c30]
    exact ⟨hS.1, hS.2.1, hS.2.2.1, hS.2.2.2.1, fun j hj => ⟨(hL j hj).1, (hL j hj).2.1⟩⟩
  · have x12 : gR Y 12 0 c = gR X 12 0 c := (eV 12 c rfl).2 0
    have x4 : gR Y 4 (c + 1) 0 = gR X 4 (c + 1) 0 := (eV 4 0 rfl).2 _
    have f13 : gI N 64 0 13 = gI M 64 0 13 := (fV 64 13 rfl).1 0
    have hs1' : ¬ s = 1 := hs1
    unfold RC
    simp only [gI_sI, gI_sR, gI_sN, gI_sCp, gI_sB, gR_sI, gR_sR, gR_sN, gR_sCp, gR_sB, gN_sI, gN_sR, gN_sN, gN_sCp, gN_sB, ↓reduceIte, and_true, true_and, and_false, false_and, and_self, or_true, true_or, or_false, false_or, or_self, Nat.reduceEqDiff, Int.reduceNeg, ne_eq, not_true_eq_false, not_false_eq_true, Int.toNat_natCast, reduceCtorEq, i10, i01, implies_true, true_implies, false_implies, g_t (c := True) trivial, y5, y5r, x12, x4, f13, nn 81 (by simp), nn 67 (by simp), nn 68 (by simp), nn 69 (by simp), nn 87 (by simp), nn 89 (by simp), nn 90 (by simp), nn 109 (by simp), s0, ox_oi, Int.toNat_zero]
    and_intros <;> first | exact True.intro | rfl | assumption | omega | (intro x; first | assumption | omega | (exfalso; omega))
  · by_cases e : k' = k
    · subst e
      unfold RK
      have x13 : gR Y 13 0 k' = gR X 13 0 k' := (eV 13 k' rfl).2 0
      have o9 : ox (-9) = none := rfl
      simp only [gI_sI, gI_sR, gI_sN, gI_sCp, gI_sB, gR_sI, gR_sR, gR_sN, gR_sCp, gR_sB, gN_sI, gN_sR, gN_sN, gN_sCp, gN_sB, ↓reduceIte, and_true, true_and, and_false, false_and, and_self, or_true, true_or, or_false, false_or, or_self, Nat.reduceEqDiff, Int.reduceNeg, ne_eq, not_true_eq_false, not_false_eq_true, Int.toNat_natCast, reduceCtorEq, i10, i01, implies_true, true_implies, false_implies, g_t (c := True) trivial, y3i, y3r, n102, x13, nn 101 (by simp), o9]
      and_intros <;> first | exact True.intro | rfl | assumption | (intro q; first | rfl | exact absurd rfl q)
    · refine (hK k' hk').cg3 (nk k' hk' e) ?_ (fun j => ?_) (fun j => ?_) (fun i hi => ?_) ?_ ?_ ?_ (fun i hi => ?_)
      · simp only [gI_sI, gI_sR, gI_sN, gI_sCp, gI_sB, gR_sI, gR_sR, gR_sN, gR_sCp, gR_sB, gN_sI, gN_sR, gN_sN, gN_sCp, gN_sB]; exact (eV 13 k' rfl).2 0
      · simp only [gI_sI, gI_sR, gI_sN, gI_sCp, gI_sB, gR_sI, gR_sR, gR_sN, gR_sCp, gR_sB, gN_sI, gN_sR, gN_sN, gN_sCp, gN_sB, ↓reduceIte, and_true, true_and, and_false, false_and, and_self, or_true, true_or, or_false, false_or, or_self, Nat.reduceEqDiff, Int.reduceNeg, ne_eq, not_true_eq_false, not_false_eq_true, Int.toNat_natCast, reduceCtorEq, i10, i01, implies_true, true_implies, false_implies, g_t (c := True) trivial, y3i, e]
      · simp only [gI_sI, gI_sR, gI_sN, gI_sCp, gI_sB, gR_sI, gR_sR, gR_sN, gR_sCp, gR_sB, gN_sI, gN_sR, gN_sN, gN_sCp, gN_sB, ↓reduceIte, and_true, true_and, and_false, false_and, and_self, or_true, true_or, or_false, false_or, or_self, Nat.reduceEqDiff, Int.reduceNeg, ne_eq, not_true_eq_false, not_false_eq_true, Int.toNat_natCast, reduceCtorEq, i10, i01, implies_true, true_implies, false_implies, g_t (c := True) trivial, y3r, e]
      · simp only [gI_sI, gI_sR, gI_sN, gI_sCp, gI_sB, gR_sI, gR_sR, gR_sN, gR_sCp, gR_sB, gN_sI, gN_sR, gN_sN, gN_sCp, gN_sB, ↓reduceIte, and_true, true_and, and_false, false_and, and_self, or_true, true_or, or_false, false_or, or_self, Nat.reduceEqDiff, Int.reduceNeg, ne_eq, not_true_eq_false, not_false_eq_true, Int.toNat_natCast, reduceCtorEq, i10, i01, implies_true, true_implies, false_implies, g_t (c := True) trivial, hi, y5r]
      · simp only [gI_sI, gI_sR, gI_sN, gI_sCp, gI_sB, gR_sI, gR_sR, gR_sN, gR_sCp, gR_sB, gN_sI, gN_sR, gN_sN, gN_sCp, gN_sB, ↓reduceIte, and_true, true_and, and_false, false_and, and_self, or_true, true_or, or_false, false_or, or_self, Nat.reduceEqDiff, Int.reduceNeg, ne_eq, not_true_eq_false, not_false_eq_true, Int.toNat_natCast, reduceCtorEq, i10, i01, implies_true, true_implies, false_implies, g_t (c := True) trivial]; exact nn 101 (by simp) k'
      · simp only [gI_sI, gI_sR, gI_sN, gI_sCp, gI_sB, gR_sI, gR_sR, gR_sN, gR_sCp, gR_sB, gN_sI, gN_sR, gN_sN, gN_sCp, gN_sB, ↓reduceIte, and_true, true_and, and_false, false_and, and_self, or_true, true_or, or_false, false_or, or_self, Nat.reduceEqDiff, Int.reduceNeg, ne_eq, not_true_eq_false, not_false_eq_true, Int.toNat_natCast, reduceCtorEq, i10, i01, implies_true, true_implies, false_implies, g_t (c := True) trivial, n102, e]
      · simp only [gI_sI, gI_sR, gI_sN, gI_sCp, gI_sB, gR_sI, gR_sR, gR_sN, gR_sCp, gR_sB, gN_sI, gN_sR, gN_sN, gN_sCp, gN_sB, ↓reduceIte, and_true, true_and, and_false, false_and, and_self, or_true, true_or, or_false, false_or, or_self, Nat.reduceEqDiff, Int.reduceNeg, ne_eq, not_true_eq_false, not_false_eq_true, Int.toNat_natCast, reduceCtorEq, i10, i01, implies_true, true_implies, false_implies, g_t (c := True) trivial]; exact n103 k' e
      · simp only [gI_sI, gI_sR, gI_sN, gI_sCp, gI_sB, gR_sI, gR_sR, gR_sN, gR_sCp, gR_sB, gN_sI, gN_sR, gN_sN, gN_sCp, gN_sB, ↓reduceIte, and_true, true_and, and_false, false_and, and_self, or_true, true_or, or_false, false_or, or_self, Nat.reduceEqDiff, Int.reduceNeg, ne_eq, not_true_eq_false, not_false_eq_true, Int.toNat_natCast, reduceCtorEq, i10, i01, implies_true, true_implies, false_implies, g_t (c := True) trivial, hi]; exact nn 82 (by simp) i
  · have hD2 := hD.le (D' := D + 50) (by omega)
    unfold BD at hD2 ⊢
    simp only [gI_sI, gI_sR, gI_sN, gI_sCp, gI_sB, gR_sI, gR_sR, gR_sN, gR_sCp, gR_sB, gN_sI, gN_sR, gN_sN, gN_sCp, gN_sB, ↓reduceIte, and_true, true_and, and_false, false_and, and_self, or_true, true_or, or_false, false_or, or_self, Nat.reduceEqDiff, Int.reduceNeg, ne_eq, not_true_eq_false, not_false_eq_true, Int.toNat_natCast, reduceCtorEq, i10, i01, implies_true, true_implies, false_implies, g_t (c := True) trivial, nn 95 (by simp), nn 75 (by simp)]
    exact ⟨hD2.1, fun j hj => (hL j hj).2.2⟩
end SV
