/-! ===== clerks work ===== -/
theorem sB_sB {σ : zS} {t i : Nat} {f g : Nat → Int} : sB (sB σ t i f) t i g = sB σ t i g := by
  refine zS_ext (fun _ => rfl) (fun t' i' k' => ?_) (fun _ _ _ => rfl)
  rw [gI_sB, gI_sB, gI_sB]
  by_cases c : t' = t ∧ i' = i
  · rw [if_pos c, if_pos c]
  · rw [if_neg c, if_neg c, if_neg c]
section SW
variable {P C K : Nat} {D : Int} {X M : zS}
theorem left_rr (hr : RR P C K D X M) {k : Nat} (hk : k < K) (k9 : gI M 102 0 k ≠ -9) {l : Int} (h1 : 1 ≤ l) (h2 : l ≤ 30) : RR P C K D (sI X 3 k 3 l) (sI M 103 0 k l) := by
  have hr0 := hr
  obtain ⟨⟨hX, hM, hN⟩, hS, hF, hB, hP, hL, hC, hK, hD, hZ⟩ := hr
  refine ⟨⟨hX.cg rfl (by repeat first | refine eqS_sI rfl ?_ | refine eqS_sR rfl ?_ | refine eqS_sB (fun _ => rfl) ?_ | refine eqS_sN (fun _ => rfl) ?_ | exact .rf), hM.cg rfl (by repeat first | refine eqS_sI rfl ?_ | refine eqS_sR rfl ?_ | refine eqS_sB (fun _ => rfl) ?_ | refine eqS_sN (fun _ => rfl) ?_ | exact .rf), hN.cg (fun _ => rfl) (by repeat first | refine eqS_sI rfl ?_ | refine eqS_sR rfl ?_ | refine eqS_sB (fun _ => rfl) ?_ | refine eqS_sN (fun _ => rfl) ?_ | exact .rf) (by repeat first | refine eqS_sI rfl ?_ | refine eqS_sR rfl ?_ | refine eqS_sB (fun _ => rfl) ?_ | refine eqS_sN (fun _ => rfl) ?_ | exact .rf)⟩, hS.cg (by repeat first | refine eqS_sI rfl ?_ | refine eqS_sR rfl ?_ | refine eqS_sB (fun _ => rfl) ?_ | refine eqS_sN (fun _ => rfl) ?_ | exact .rf) (fun _ _ => rfl) (by repeat first | refine eqS_sI rfl ?_ | refine eqS_sR rfl ?_ | refine eqS_sB (fun _ => rfl) ?_ | refine eqS_sN (fun _ => rfl) ?_ | exact .rf), hF.cg (by repeat first | refine eqS_sI rfl ?_ | refine eqS_sR rfl ?_ | refine eqS_sB (fun _ => rfl) ?_ | refine eqS_sN (fun _ => rfl) ?_ | exact .rf) (by repeat first | refine eqS_sI rfl ?_ | refine eqS_sR rfl ?_ | refine eqS_sB (fun _ => rfl) ?_ | refine eqS_sN (fun _ => rfl) ?_ | exact .rf), hB.cg (by repeat first | refine eqS_sI rfl ?_ | refine eqS_sR rfl ?_ | refine eqS_sB (fun _ => rfl) ?_ | refine eqS_sN (fun _ => rfl) ?_ | exact .rf) (by repeat first | refine eqS_sI rfl ?_ | refine eqS_sR rfl ?_ | refine eqS_sB (fun _ => rfl) ?_ | refine eqS_sN (fun _ => rfl) ?_ | exact .rf), fun p' hp' => (hP p' hp').cg (by repeat first | refine eqS_sI rfl ?_ | refine eqS_sR rfl ?_ | refine eqS_sB (fun _ => rfl) ?_ | refine eqS_sN (fun _ => rfl) ?_ | exact .rf) (by repeat first | refine eqS_sI rfl ?_ | refine eqS_sR rfl ?_ | refine eqS_sB (fun _ => rfl) ?_ | refine eqS_sN (fun _ => rfl) ?_ | exact .rf), fun p' hp' => (hL p' hp').cg (by repeat first | refine eqS_sI rfl ?_ | refine eqS_sR rfl ?_ | refine eqS_sB (fun _ => rfl) ?_ | refine eqS_sN (fun _ => rfl) ?_ | exact .rf) (by repeat first | refine eqS_sI rfl ?_ | refine eqS_sR rfl ?_ | refine eqS_sB (fun _ => rfl) ?_ | refine eqS_sN (fun _ => rfl) ?_ | exact .rf), fun c' hc' => (hC c' hc').cg (by repeat first | refine eqS_sI rfl ?_ | refine eqS_sR rfl ?_ | refine eqS_sB (fun _ => rfl) ?_ | refine eqS_sN (fun _ => rfl) ?_ | exact .rf) (fun _ _ => rfl) (by repeat first | refine eqS_sI rfl ?_ | refine eqS_sR rfl ?_ | refine eqS_sB (fun _ => rfl) ?_ | refine eqS_sN (fun _ => rfl) ?_ | exact .rf) (Int.le_refl _), ?_, hD.cg (by repeat first | refine eqS_sI rfl ?_ | refine eqS_sR rfl ?_ | refine eqS_sB (fun _ => rfl) ?_ | refine eqS_sN (fun _ => rfl) ?_ | exact .rf), (by repeat first | exact hZ | refine RZ.sI (by first | rfl | (simp [zZ]; omega)) ?_)⟩
  intro k' hk'
  by_cases e : k' = k
  · subst e
    obtain ⟨⟨k1, k2, k3, k4, k5⟩, k6, k7, k8⟩ := hK k' hk'
    have k8 := k8 k9
    unfold RK
    simp only [gI_sI, gI_sR, gI_sN, gI_sCp, gI_sB, gR_sI, gR_sR, gR_sN, gR_sCp, gR_sB, gN_sI, gN_sR, gN_sN, gN_sCp, gN_sB, ↓reduceIte, and_true, true_and, and_false, false_and, and_self, or_true, true_or, or_false, false_or, or_self, Nat.reduceEqDiff, Int.reduceNeg, ne_eq, not_true_eq_false, not_false_eq_true, Int.toNat_natCast, reduceCtorEq, i10, i01, implies_true, true_implies, false_implies, g_t (c := True) trivial]
    exact ⟨⟨k1, k2, k3, k4, k5⟩, k6, fun q => absurd q k9, fun _ => ⟨k8.1, ⟨h1, h2⟩, k8.2.2⟩⟩
  · refine (hK k' hk').cg1 (Nat.le_refl C) rfl (fun j => ?_) (fun j => ?_) (fun i hi => rfl) (fun t ht => ?_) (fun i hi => rfl)
    · simp only [gI_sI, gI_sR, gI_sN, gI_sCp, gI_sB, gR_sI, gR_sR, gR_sN, gR_sCp, gR_sB, gN_sI, gN_sR, gN_sN, gN_sCp, gN_sB, ↓reduceIte, and_true, true_and, and_false, false_and, and_self, or_true, true_or, or_false, false_or, or_self, Nat.reduceEqDiff, Int.reduceNeg, ne_eq, not_true_eq_false, not_false_eq_true, Int.toNat_natCast, reduceCtorEq, i10, i01, implies_true, true_implies, false_implies, g_t (c := True) trivial, e]
    · simp only [gI_sI, gI_sR, gI_sN, gI_sCp, gI_sB, gR_sI, gR_sR, gR_sN, gR_sCp, gR_sB, gN_sI, gN_sR, gN_sN, gN_sCp, gN_sB, ↓reduceIte, and_true, true_and, and_false, false_and, and_self, or_true, true_or, or_false, false_or, or_self, Nat.reduceEqDiff, Int.reduceNeg, ne_eq, not_true_eq_false, not_false_eq_true, Int.toNat_natCast, reduceCtorEq, i10, i01, implies_true, true_implies, false_implies, g_t (c := True) trivial, e]
    · rcases ht with rfl | rfl | rfl <;> simp only [gI_sI, gI_sR, gI_sN, gI_sCp, gI_sB, gR_sI, gR_sR, gR_sN, gR_sCp, gR_sB, gN_sI, gN_sR, gN_sN, gN_sCp, gN_sB, ↓reduceIte, and_true, true_and, and_false, false_and, and_self, or_true, true_or, or_false, false_or, or_self, Nat.reduceEqDiff, Int.reduceNeg, ne_eq, not_true_eq_false, not_false_eq_true, Int.toNat_natCast, reduceCtorEq, i10, i01, implies_true, true_implies, false_implies, g_t (c := True) trivial, e]
/-- the state in which a clerk has given up his cup -/
theorem off_facts (hr : RR P C K D X M) {k : Nat} {l : Int} (l0 : l = 0) : (∀ t, gN (sR (sI X 3 k 3 l) 3 k 2 none) t = gN X t) ∧ (∀ t, gN (sI (sI M 103 0 k l) 102 0 k (-9)) t = gN M t) ∧ eqS vX (sR (sI X 3 k 3 l) 3 k 2 none) X ∧ eqS vM (sI (sI M 103 0 k l) 102 0 k (-9)) M ∧
    (∀ i j, gI (sR (sI X 3 k 3 l) 3 k 2 none) 3 i j = if i = k ∧ j = 3 then 0 else gI X 3 i j) ∧ (∀ i j, gR (sR (sI X 3 k 3 l) 3 k 2 none) 3 i j = if i = k ∧ j = 2 then none else gR X 3 i j) ∧ (∀ i j, 3 ≤ i → gI (sR (sI X 3 k 3 l) 3 k 2 none) 15 i j = gI X 15 i j) ∧
    (∀ i, gI (sI (sI M 103 0 k l) 102 0 k (-9)) 102 0 i = if i = k then -9 else gI M 102 0 i) ∧ (∀ i, i ≠ k → gI (sI (sI M 103 0 k l) 102 0 k (-9)) 103 0 i = gI M 103 0 i) := by
  refine ⟨fun _ => by simp only [gI_sI, gI_sR, gI_sN, gI_sCp, gI_sB, gR_sI, gR_sR, gR_sN, gR_sCp, gR_sB, gN_sI, gN_sR, gN_sN, gN_sCp, gN_sB], fun _ => by simp only [gI_sI, gI_sR, gI_sN, gI_sCp, gI_sB, gR_sI, gR_sR, gR_sN, gR_sCp, gR_sB, gN_sI, gN_sR, gN_sN, gN_sCp, gN_sB], (by repeat first | refine eqS_sI rfl ?_ | refine eqS_sR rfl ?_ | refine eqS_sB (fun _ => rfl) ?_ | refine eqS_sN (fun _ => rfl) ?_ | exact .rf), (by repeat first | refine eqS_sI rfl ?_ | refine eqS_sR rfl ?_ | refine eqS_sB (fun _ => rfl) ?_ | refine eqS_sN (fun _ => rfl) ?_ | exact .rf), fun i j => by simp only [gI_sI, gI_sR, gI_sN, gI_sCp, gI_sB, gR_sI, gR_sR, gR_sN, gR_sCp, gR_sB, gN_sI, gN_sR, gN_sN, gN_sCp, gN_sB, ↓reduceIte, and_true, true_and, and_false, false_and, and_self, or_true, true_or, or_false, false_or, or_self, Nat.reduceEqDiff, Int.reduceNeg, ne_eq, not_true_eq_false, not_false_eq_true, Int.toNat_natCast, reduceCtorEq, i10, i01, implies_true, true_implies, false_implies, g_t (c := True) trivial, l0], fun i j => by simp only [gI_sI, gI_sR, gI_sN, gI_sCp, gI_sB, gR_sI, gR_sR, gR_sN, gR_sCp, gR_sB, gN_sI, gN_sR, gN_sN, gN_sCp, gN_sB, ↓reduceIte, and_true, true_and, and_false, false_and, and_self, or_true, true_or, or_false, false_or, or_self, Nat.reduceEqDiff, Int.reduceNeg, ne_eq, not_true_eq_false, not_false_eq_true, Int.toNat_natCast, reduceCtorEq, i10, i01, implies_true, true_implies, false_implies, g_t (c := True) trivial], fun i j _ => by simp only [gI_sI, gI_sR, gI_sN, gI_sCp, gI_sB, gR_sI, gR_sR, gR_sN, gR_sCp, gR_sB, gN_sI, gN_sR, gN_sN, gN_sCp, gN_sB, ↓reduceIte, and_true, true_and, and_false, false_and, and_self, or_true, true_or, or_false, false_or, or_self, Nat.reduceEqDiff, Int.reduceNeg, ne_eq, not_true_eq_false, not_false_eq_true, Int.toNat_natCast, reduceCtorEq, i10, i01, implies_true, true_implies, false_implies, g_t (c := True) trivial], fun i => by simp only [gI_sI, gI_sR, gI_sN, gI_sCp, gI_sB, gR_sI, gR_sR, gR_sN, gR_sCp, gR_sB, gN_sI, gN_sR, gN_sN, gN_sCp, gN_sB, ↓reduceIte, and_true, true_and, and_false, false_and, and_self, or_true, true_or, or_false, false_or, or_self, Nat.reduceEqDiff, Int.reduceNeg, ne_eq, not_true_eq_false, not_false_eq_true, Int.toNat_natCast, reduceCtorEq, i10, i01, implies_true, true_implies, false_implies, g_t (c := True) trivial], fun i hi => by simp only [gI_sI, gI_sR, gI_sN, gI_sCp, gI_sB, gR_sI, gR_sR, gR_sN, gR_sCp, gR_sB, gN_sI, gN_sR, gN_sN, gN_sCp, gN_sB, ↓reduceIte, and_true, true_and, and_false, false_and, and_self, or_true, true_or, or_false, false_or, or_self, Nat.reduceEqDiff, Int.reduceNeg, ne_eq, not_true_eq_false, not_false_eq_true, Int.toNat_natCast, reduceCtorEq, i10, i01, implies_true, true_implies, false_implies, g_t (c := True) trivial, hi]⟩
/-- the settling of an open sale, on both sides -/
theorem settle_eq (hr : RR P C K D X M) (hD1 : D ≤ 60000200) {nf : Nat} (hnf : 1000 ≤ nf) {k c : Nat} (hk : k < K) (hc : c < C) (has : gI M 102 0 k = c) (hs : gI M 88 0 c = 1) {l : Int} (l0 : l = 0) : ∃ (Y N : zS) (L Q G H : Nat → Int) (s : Int),
    fX10_settle nf (sR (sI X 3 k 3 l) 3 k 2 none) 0 (some c) = some ((), sI (sB (sB Y 15 0 L) 15 (c + 3) Q) 5 c 12 s) ∧
    (∃ w : Int, fX11_worthOf nf (sI (sI M 103 0 k l) 102 0 k (-9)) 0 c = some (w, sI (sI M 103 0 k l) 102 0 k (-9)) ∧ ∀ F : zS → Option (Unit × zS), fX11_settle_L25 (fun (s_19 : zS) => cl_ (fX11_layChange nf s_19 0 (wr (w - gI M 89 0 c))) fun (_ : Unit) (s_20 : zS) => fX11_settle_L64 F 0 c nf nf s_20 0) 0 c (wr (w - gI M 89 0 c)) nf nf (sI (sI M 103 0 k l) 102 0 k (-9)) 0 = F (sB (sB N 91 0 G) 92 0 H)) ∧
    ((gI N 64 0 46 = -9 ∧ s = 3) ∨ (¬ gI N 64 0 46 = -9 ∧ s = 2)) ∧
    ((∀ t, gN Y t = gN X t) ∧ (∀ t, gN N t = gN M t) ∧ eqS vX Y X ∧ eqS vM N M ∧ (∀ i j, gI Y 3 i j = if i = k ∧ j = 3 then 0 else gI X 3 i j) ∧ (∀ i j, gR Y 3 i j = if i = k ∧ j = 2 then none else gR X 3 i j) ∧ (∀ i j, 3 ≤ i → gI Y 15 i j = gI X 15 i j) ∧ (∀ i, gI N 102 0 i = if i = k then -9 else gI M 102 0 i) ∧ (∀ i, i ≠ k → gI N 103 0 i = gI M 103 0 i)) ∧
    0 ≤ s ∧ s ≤ 3 ∧ s ≠ 1 ∧ (∀ j, j < 6 → L j = H j ∧ 0 ≤ H j ∧ H j ≤ D + 50) ∧ (∀ j, j < 6 → Q j = G (6 * c + j) ∧ 0 ≤ G (6 * c + j) ∧ G (6 * c + j) ≤ 3000) ∧ (∀ j, (j < 6 * c ∨ 6 * c + 6 ≤ j) → G j = gI M 91 0 j) := by
  have hr0 := hr
  obtain ⟨⟨hX, hM, hN⟩, hS, hF, hB, hP, hL', hC, hK, hD, hZ⟩ := hr
  have h16 := hN.1
  obtain ⟨⟨a0, a1, a2, a3⟩, ⟨b1, b2, b3, b4⟩, ⟨c1, c2, c3⟩, d4, d5, d6, d7, d8, d9, d10, d11, d12, d13, d14, d15, d16, d17, d18, d19, d20, d21, d22, d23, d24, d25⟩ := hC c hc
  have d24 := d24 hs
  have hc24 : c < 24 := by omega
  obtain ⟨p1, p2, p3, p4, p5, p6, p7, p8, p9⟩ := off_facts hr0 (k := k) l0
  generalize hX1 : sR (sI X 3 k 3 l) 3 k 2 none = X1 at p1 p3 p5 p6 p7 ⊢
  generalize hM2 : sI (sI M 103 0 k l) 102 0 k (-9) = M2 at p2 p4 p8 p9 ⊢
  -- what they read
  have x5 : ∀ j, gI X1 5 c j = gI X 5 c j := fun j => (p3 5 j rfl).1 c
  have x5r : ∀ j, gR X1 5 c j = gR X 5 c j := fun j => (p3 5 j rfl).2 c
  have x4 : ∀ i, gR X1 4 i 0 = gR X 4 i 0 := fun i => (p3 4 0 rfl).2 i
  have x0r : ∀ j, gR X1 0 0 j = gR X 0 0 j := fun j => (p3 0 j rfl).2 0
  have x2r : ∀ j, gR X1 2 0 j = gR X 2 0 j := fun j => (p3 2 j rfl).2 0
  have x150 : ∀ j, gI X1 15 0 j = gI X 15 0 j := fun j => by rw [← hX1]; simp only [gI_sI, gI_sR, gI_sN, gI_sCp, gI_sB, gR_sI, gR_sR, gR_sN, gR_sCp, gR_sB, gN_sI, gN_sR, gN_sN, gN_sCp, gN_sB, ↓reduceIte, and_true, true_and, and_false, false_and, and_self, or_true, true_or, or_false, false_or, or_self, Nat.reduceEqDiff, Int.reduceNeg, ne_eq, not_true_eq_false, not_false_eq_true, Int.toNat_natCast, reduceCtorEq, i10, i01, implies_true, true_implies, false_implies, g_t (c := True) trivial]
  have m91 : ∀ j, gI M2 91 0 j = gI M 91 0 j := fun j => (p4 91 j rfl).1 0
  have m92 : ∀ j, gI M2 92 0 j = gI M 92 0 j := fun j => by rw [← hM2]; simp only [gI_sI, gI_sR, gI_sN, gI_sCp, gI_sB, gR_sI, gR_sR, gR_sN, gR_sCp, gR_sB, gN_sI, gN_sR, gN_sN, gN_sCp, gN_sB, ↓reduceIte, and_true, true_and, and_false, false_and, and_self, or_true, true_or, or_false, false_or, or_self, Nat.reduceEqDiff, Int.reduceNeg, ne_eq, not_true_eq_false, not_false_eq_true, Int.toNat_natCast, reduceCtorEq, i10, i01, implies_true, true_implies, false_implies, g_t (c := True) trivial]
  have mr : ∀ j, gR M2 64 0 j = gR M 64 0 j := fun j => by rw [← hM2]; simp only [gI_sI, gI_sR, gI_sN, gI_sCp, gI_sB, gR_sI, gR_sR, gR_sN, gR_sCp, gR_sB, gN_sI, gN_sR, gN_sN, gN_sCp, gN_sB]
  have hM2' : RM M2 := ⟨(p2 64).trans hM.1, fun j hj => (mr j).trans (hM.2 j hj)⟩
  -- worth
  have ew : wS (fun j => gI X1 15 (c + 3) j) 6 = wS (fun j => gI M 91 0 (6 * c + j)) 6 := wS_cg fun j hj => (p7 (c + 3) j (by omega)).trans (d23 j hj).1
  have wx := worth3 hnf (X := X1) (i := c + 1) (a := c + 3) ((x4 _).trans a3)
  have em : wS (fun j => gI M2 91 0 (6 * c + j)) 6 = wS (fun j => gI M 91 0 (6 * c + j)) 6 := wS_cg fun j hj => m91 _
  have wm := worthOf (M := M2) (nf := nf) hM2' hc24 hnf
  rw [ew] at wx
  rw [em] at wm
  generalize wS (fun j => gI M 91 0 (6 * c + j)) 6 = w at wx wm d24
  have ww : wr (w - gI M 89 0 c) = w - gI M 89 0 c := wr_id (by unfold zin; omega)
  have q92 : ∀ j, j < 6 → gI X 15 0 j = gI M 92 0 j ∧ 0 ≤ gI M 92 0 j ∧ gI M 92 0 j ≤ D := fun j hj => ⟨(hS.2.2.2.2 j hj).1, (hS.2.2.2.2 j hj).2, hD.2 j hj⟩
  have wa : ∀ j, j < 6 → wr (gI M 92 0 j + gI M 91 0 (6 * c + j)) = gI M 92 0 j + gI M 91 0 (6 * c + j) := fun j hj => by
    have e1 := q92 j hj
    have e2 := d23 j hj
    exact wr_id (by unfold zin; omega)
  -- the coins go into the drawer
  have r40 : gR X1 4 0 0 = some 0 := (x4 0).trans hX.2.2.2.2.1
  have pb := putB (Y := X1) (i := 0) (a := 0) (b := c + 3) hnf (by omega) r40
  have pm := fun (κ : zS → Option (Unit × zS)) => setL1 (nf := nf) hc24 κ (w - gI M 89 0 c) 6 nf 0 M2 rfl (by omega) ((mr 25).trans (hM.2 25 rfl)) ((mr 26).trans (hM.2 26 rfl))
  generalize hX2 : (sB X1 15 0 fun j => if j < 6 then wr (gI X1 15 0 j + gI X1 15 (c + 3) j) else gI X1 15 0 j) = X2 at pb
  generalize hM3 : (sB M2 92 0 fun j => if 0 ≤ j ∧ j < 6 then wr (gI M2 92 0 j + gI M2 91 0 (6 * c + j)) else gI M2 92 0 j) = M3 at pm
  have x2a : ∀ j, j < 6 → gI X2 15 0 j = gI M 92 0 j + gI M 91 0 (6 * c + j) := fun j hj => by
    rw [← hX2]
    simp only [gI_sI, gI_sR, gI_sN, gI_sCp, gI_sB, gR_sI, gR_sR, gR_sN, gR_sCp, gR_sB, gN_sI, gN_sR, gN_sN, gN_sCp, gN_sB, ↓reduceIte, and_true, true_and, and_false, false_and, and_self, or_true, true_or, or_false, false_or, or_self, Nat.reduceEqDiff, Int.reduceNeg, ne_eq, not_true_eq_false, not_false_eq_true, Int.toNat_natCast, reduceCtorEq, i10, i01, implies_true, true_implies, false_implies, g_t (c := True) trivial]
    rw [if_pos hj, x150, p7 _ _ (by omega), (q92 j hj).1, (d23 j hj).1, wa j hj]
  have m3a : ∀ j, j < 6 → gI M3 92 0 j = gI M 92 0 j + gI M 91 0 (6 * c + j) := fun j hj => by
    rw [← hM3]
    simp only [gI_sI, gI_sR, gI_sN, gI_sCp, gI_sB, gR_sI, gR_sR, gR_sN, gR_sCp, gR_sB, gN_sI, gN_sR, gN_sN, gN_sCp, gN_sB, ↓reduceIte, and_true, true_and, and_false, false_and, and_self, or_true, true_or, or_false, false_or, or_self, Nat.reduceEqDiff, Int.reduceNeg, ne_eq, not_true_eq_false, not_false_eq_true, Int.toNat_natCast, reduceCtorEq, i10, i01, implies_true, true_implies, false_implies, g_t (c := True) trivial]
    rw [if_pos ⟨Nat.zero_le j, hj⟩, m92, m91, wa j hj]
  have x2r2 : ∀ t i j, gR X2 t i j = gR X1 t i j := fun t i j => by rw [← hX2]; simp only [gI_sI, gI_sR, gI_sN, gI_sCp, gI_sB, gR_sI, gR_sR, gR_sN, gR_sCp, gR_sB, gN_sI, gN_sR, gN_sN, gN_sCp, gN_sB]
  have m3r : ∀ t i j, gR M3 t i j = gR M2 t i j := fun t i j => by rw [← hM3]; simp only [gI_sI, gI_sR, gI_sN, gI_sCp, gI_sB, gR_sI, gR_sR, gR_sN, gR_sCp, gR_sB, gN_sI, gN_sR, gN_sN, gN_sCp, gN_sB]
  have hM3' : RM M3 := ⟨by rw [← hM3]; simp only [gI_sI, gI_sR, gI_sN, gI_sCp, gI_sB, gR_sI, gR_sR, gR_sN, gR_sCp, gR_sB, gN_sI, gN_sR, gN_sN, gN_sCp, gN_sB]; exact hM2'.1, fun j hj => (m3r 64 0 j).trans (hM2'.2 j hj)⟩
  obtain ⟨S, Y, N, f1, f2, f3, f4, f5, f6⟩ := change2 (X := X2) (M := M3) ((x2r2 2 0 0).trans ((x2r 0).trans hX.2.2.2.1.1)) ((x2r2 2 0 1).trans ((x2r 1).trans hX.2.2.2.1.2)) hM3' (T0 := fun j => gI M 92 0 j + gI M 91 0 (6 * c + j)) (fun j hj => by have e1 := q92 j hj; have e2 := d23 j hj; show 0 ≤ gI M 92 0 j + gI M 91 0 (6 * c + j); omega) x2a m3a hnf (amt := w - gI M 89 0 c) (by omega) (by omega)
  -- what the found states hold
  have yN : ∀ t, gN Y t = gN X t := fun t => (f3.1 t).trans (by rw [← hX2]; simp only [gI_sI, gI_sR, gI_sN, gI_sCp, gI_sB, gR_sI, gR_sR, gR_sN, gR_sCp, gR_sB, gN_sI, gN_sR, gN_sN, gN_sCp, gN_sB]; exact p1 t)
  have nN : ∀ t, gN N t = gN M t := fun t => (f4.1 t).trans (by rw [← hM3]; simp only [gI_sI, gI_sR, gI_sN, gI_sCp, gI_sB, gR_sI, gR_sR, gR_sN, gR_sCp, gR_sB, gN_sI, gN_sR, gN_sN, gN_sCp, gN_sB]; exact p2 t)
  have yV : eqS vX Y X := (onlX_eq f3 fun _ => rfl).tr (by rw [← hX2]; exact eqS_sB (fun _ => rfl) p3)
  have nV : eqS vM N M := (onlM_eq f4 (fun _ => ⟨rfl, rfl⟩) rfl).tr (by rw [← hM3]; exact eqS_sB (fun _ => rfl) p4)
  have y3i : ∀ i j, gI Y 3 i j = if i = k ∧ j = 3 then 0 else gI X 3 i j := fun i j => (f3.2.2 3 i j (by unfold pX; omega)).trans (by rw [← hX2]; simp only [gI_sI, gI_sR, gI_sN, gI_sCp, gI_sB, gR_sI, gR_sR, gR_sN, gR_sCp, gR_sB, gN_sI, gN_sR, gN_sN, gN_sCp, gN_sB, ↓reduceIte, and_true, true_and, and_false, false_and, and_self, or_true, true_or, or_false, false_or, or_self, Nat.reduceEqDiff, Int.reduceNeg, ne_eq, not_true_eq_false, not_false_eq_true, Int.toNat_natCast, reduceCtorEq, i10, i01, implies_true, true_implies, false_implies, g_t (c := True) trivial]; exact p5 i j)
  have y3r : ∀ i j, gR Y 3 i j = if i = k ∧ j = 2 then none else gR X 3 i j := fun i j => (f3.2.1 3 i j).trans ((x2r2 3 i j).trans (p6 i j))
  have y15 : ∀ i j, 3 ≤ i → gI Y 15 i j = gI X 15 i j := fun i j hi => (f3.2.2 15 i j (by unfold pX; omega)).trans (by
    have : ¬ i = 0 := by omega
    rw [← hX2]; simp only [gI_sI, gI_sR, gI_sN, gI_sCp, gI_sB, gR_sI, gR_sR, gR_sN, gR_sCp, gR_sB, gN_sI, gN_sR, gN_sN, gN_sCp, gN_sB, ↓reduceIte, and_true, true_and, and_false, false_and, and_self, or_true, true_or, or_false, false_or, or_self, Nat.reduceEqDiff, Int.reduceNeg, ne_eq, not_true_eq_false, not_false_eq_true, Int.toNat_natCast, reduceCtorEq, i10, i01, implies_true, true_implies, false_implies, g_t (c := True) trivial, this]; exact p7 i j hi)
  have n102 : ∀ i, gI N 102 0 i = if i = k then -9 else gI M 102 0 i := fun i => (f4.2.2 102 0 i (by unfold pM; omega)).trans (by rw [← hM3]; simp only [gI_sI, gI_sR, gI_sN, gI_sCp, gI_sB, gR_sI, gR_sR, gR_sN, gR_sCp, gR_sB, gN_sI, gN_sR, gN_sN, gN_sCp, gN_sB, ↓reduceIte, and_true, true_and, and_false, false_and, and_self, or_true, true_or, or_false, false_or, or_self, Nat.reduceEqDiff, Int.reduceNeg, ne_eq, not_true_eq_false, not_false_eq_true, Int.toNat_natCast, reduceCtorEq, i10, i01, implies_true, true_implies, false_implies, g_t (c := True) trivial]; exact p8 i)
  have n103 : ∀ i, i ≠ k → gI N 103 0 i = gI M 103 0 i := fun i hi => (f4.2.2 103 0 i (by unfold pM; omega)).trans (by rw [← hM3]; simp only [gI_sI, gI_sR, gI_sN, gI_sCp, gI_sB, gR_sI, gR_sR, gR_sN, gR_sCp, gR_sB, gN_sI, gN_sR, gN_sN, gN_sCp, gN_sB, ↓reduceIte, and_true, true_and, and_false, false_and, and_self, or_true, true_or, or_false, false_or, or_self, Nat.reduceEqDiff, Int.reduceNeg, ne_eq, not_true_eq_false, not_false_eq_true, Int.toNat_natCast, reduceCtorEq, i10, i01, implies_true, true_implies, false_implies, g_t (c := True) trivial]; exact p9 i hi)
  have y0 : ∀ j, j < 6 → gI Y 15 0 j = gI M 92 0 j + gI M 91 0 (6 * c + j) := fun j hj => (f3.2.2 15 0 j (by unfold pX; omega)).trans (x2a j hj)
  have yc : ∀ j, j < 6 → gI Y 15 (c + 3) j = gI M 91 0 (6 * c + j) := fun j hj => (y15 _ j (by omega)).trans (d23 j hj).1
  have n92 : ∀ j, j < 6 → gI N 92 0 j = gI M 92 0 j + gI M 91 0 (6 * c + j) := fun j hj => (f4.2.2 92 0 j (by unfold pM; omega)).trans (m3a j hj)
  have n91 : ∀ j, gI N 91 0 j = gI M 91 0 j := fun j => (f4.2.2 91 0 j (by unfold pM; omega)).trans (by rw [← hM3]; simp only [gI_sI, gI_sR, gI_sN, gI_sCp, gI_sB, gR_sI, gR_sR, gR_sN, gR_sCp, gR_sB, gN_sI, gN_sR, gN_sN, gN_sCp, gN_sB, ↓reduceIte, and_true, true_and, and_false, false_and, and_self, or_true, true_or, or_false, false_or, or_self, Nat.reduceEqDiff, Int.reduceNeg, ne_eq, not_true_eq_false, not_false_eq_true, Int.toNat_natCast, reduceCtorEq, i10, i01, implies_true, true_implies, false_implies, g_t (c := True) trivial]; exact m91 j)
  have yr : ∀ t i j, gR Y t i j = gR X1 t i j := fun t i j => (f3.2.1 t i j).trans (x2r2 t i j)
  have nr : ∀ j, gR N 64 0 j = gR M 64 0 j := fun j => (f4.2.1 64 0 j).trans ((m3r 64 0 j).trans (mr j))
  have cv : ∀ j, cV N c j = if S = -9 then gI M 91 0 (6 * c + j) else gI N 110 0 j := fun j => by
    unfold cV
    rw [f5, n91]
  have cvb : ∀ j, j < 6 → 0 ≤ cV N c j ∧ cV N c j ≤ gI M 92 0 j + gI M 91 0 (6 * c + j) ∧ cV N c j ≤ 3000 := fun j hj => by
    rw [cv]
    by_cases s9 : S = -9
    · rw [if_pos s9]
      have e1 := q92 j hj
      have e2 := d23 j hj
      omega
    · rw [if_neg s9]
      exact ⟨(f6 s9 j hj).2.1, (f6 s9 j hj).2.2.1, (f6 s9 j hj).2.2.2⟩
  have wv : ∀ j, j < 6 → wr (gI M 92 0 j + gI M 91 0 (6 * c + j) - cV N c j) = gI M 92 0 j + gI M 91 0 (6 * c + j) - cV N c j := fun j hj => by
    have e1 := q92 j hj
    have e2 := d23 j hj
    have e3 := cvb j hj
    exact wr_id (by unfold zin; omega)
  have l2 := fun (κ : zS → Option (Unit × zS)) => setL2 (nf := nf) hc24 κ 6 nf 0 N rfl (by omega) ((nr 25).trans (hM.2 25 rfl)) ((nr 26).trans (hM.2 26 rfl)) ((nr 44).trans (hM.2 44 rfl))
  obtain ⟨L, hL⟩ : ∃ L : Nat → Int, ∀ j, L j = if j < 6 then wr (gI M 92 0 j + gI M 91 0 (6 * c + j) - cV N c j) else gI Y 15 0 j := ⟨_, fun _ => rfl⟩
  obtain ⟨Q, hQ⟩ : ∃ Q : Nat → Int, ∀ j, Q j = if j < 6 then cV N c j else gI Y 15 (c + 3) j := ⟨_, fun _ => rfl⟩
  refine ⟨Y, N, L, Q, fun j => if 6 * c + 0 ≤ j ∧ j < 6 * c + 6 then cV N c (j - 6 * c) else gI N 91 0 j, fun j => if 0 ≤ j ∧ j < 6 then wr (gI N 92 0 j - cV N c j) else gI N 92 0 j, if S = -9 then 3 else 2, ?_, ⟨w, wm, fun F => ?_⟩, ?_, ⟨yN, nN, yV, nV, y3i, y3r, y15, n102, n103⟩, ?_, ?_, ?_, fun j hj => ?_, fun j hj => ?_, fun j hj => ?_⟩
  · have ta := takeB (Y := Y) (i := 0) (a := 0) (b := c + 3) hnf (by omega) ((yr 4 0 0).trans r40)
    have tb := takeB (Y := Y) (i := 0) (a := 0) (b := 1) hnf (by omega) ((yr 4 0 0).trans r40)
    unfold fX10_settle
    simp only [nm_eq, up_eq, cl_some, ob_some, oe_some, oe_none, ob_none, x5r, a2, wx, x5, d21, ww, x0r, hX.2.1 4 (by decide), hX.2.1 5 (by decide), x4, a3, hX.2.2.2.2.1, pb, x2r2, x2r, hX.2.2.2.1.1, f1, yr, ta, tb]
    by_cases s9 : S = -9
    · rw [if_pos s9, if_pos s9]
      have eQ : sB (sB Y 15 0 L) 15 (c + 3) Q = sB Y 15 0 L := sB_self (fun j => by
        have c30 : ¬ c + 3 = 0 := by omega
        rw [hQ]
        simp only [gI_sI, gI_sR, gI_sN, gI_sCp, gI_sB, gR_sI, gR_sR, gR_sN, gR_sCp, gR_sB, gN_sI, gN_sR, gN_sN, gN_sCp, gN_sB, ↓reduceIte, and_true, true_and, and_false, false_and, and_self, or_true, true_or, or_false, false_or, or_self, Nat.reduceEqDiff, Int.reduceNeg, ne_eq, not_true_eq_false, not_false_eq_true, Int.toNat_natCast, reduceCtorEq, i10, i01, implies_true, true_implies, false_implies, g_t (c := True) trivial, c30]
        by_cases hj : j < 6
        · rw [if_pos hj, cv, if_pos s9, yc j hj]
        · rw [if_neg hj])
      have eL : (sB Y 15 0 fun j => if j < 6 then wr (gI Y 15 0 j - gI Y 15 (c + 3) j) else gI Y 15 0 j) = sB Y 15 0 L := sB_ext fun j => by
        rw [hL]
        by_cases hj : j < 6
        · rw [if_pos hj, if_pos hj, y0 j hj, yc j hj, cv, if_pos s9]
        · rw [if_neg hj, if_neg hj]
      rw [eQ, eL]
    · rw [if_neg s9, if_neg s9]
      have f6 := f6 s9
      have eL : (sB Y 15 0 fun j => if j < 6 then wr (gI Y 15 0 j - gI Y 15 1 j) else gI Y 15 0 j) = sB Y 15 0 L := sB_ext fun j => by
        rw [hL]
        by_cases hj : j < 6
        · rw [if_pos hj, if_pos hj, y0 j hj, (f6 j hj).1, cv, if_neg s9]
        · rw [if_neg hj, if_neg hj]
      have r4c : gR (sB Y 15 0 L) 4 (c + 1) 0 = some (c + 3) := by simp only [gI_sI, gI_sR, gI_sN, gI_sCp, gI_sB, gR_sI, gR_sR, gR_sN, gR_sCp, gR_sB, gN_sI, gN_sR, gN_sN, gN_sCp, gN_sB, yr, x4]; exact a3
      have te := emptyB (Y := sB Y 15 0 L) (i := c + 1) (a := c + 3) hnf r4c
      have tp := putB (Y := sB (sB Y 15 0 L) 15 (c + 3) fun j => if j < 6 then 0 else gI (sB Y 15 0 L) 15 (c + 3) j) (i := c + 1) (a := c + 3) (b := 1) hnf (by omega) (by simp only [gI_sI, gI_sR, gI_sN, gI_sCp, gI_sB, gR_sI, gR_sR, gR_sN, gR_sCp, gR_sB, gN_sI, gN_sR, gN_sN, gN_sCp, gN_sB, yr, x4]; exact a3)
      rw [eL]
      simp only [nm_eq, up_eq, cl_some, ob_some, oe_some, oe_none, ob_none, gI_sI, gI_sR, gI_sN, gI_sCp, gI_sB, gR_sI, gR_sR, gR_sN, gR_sCp, gR_sB, gN_sI, gN_sR, gN_sN, gN_sCp, gN_sB, yr, x5r, a2, x0r, x2r, hX.2.1 5 (by decide), hX.2.2.2.1.1] at te tp ⊢
      rw [te, cl_some]
      simp only [nm_eq, up_eq, cl_some, ob_some, oe_some, oe_none, ob_none, gI_sI, gI_sR, gI_sN, gI_sCp, gI_sB, gR_sI, gR_sR, gR_sN, gR_sCp, gR_sB, gN_sI, gN_sR, gN_sN, gN_sCp, gN_sB, yr, x5r, a2, x0r, x2r, hX.2.1 5 (by decide), hX.2.2.2.1.1]
      rw [tp, cl_some, sB_sB]
      have eQ : ∀ F : Nat → Int, (∀ j, F j = Q j) → some ((), sI (sB (sB Y 15 0 L) 15 (c + 3) F) 5 c 12 2) = some ((), sI (sB (sB Y 15 0 L) 15 (c + 3) Q) 5 c 12 2) := fun F h => by rw [sB_ext h]
      refine eQ _ fun j => ?_
      have c30 : ¬ c + 3 = 0 := by omega
      have c31 : ¬ 1 = c + 3 := by omega
      rw [hQ]
      simp only [gI_sI, gI_sR, gI_sN, gI_sCp, gI_sB, gR_sI, gR_sR, gR_sN, gR_sCp, gR_sB, gN_sI, gN_sR, gN_sN, gN_sCp, gN_sB, ↓reduceIte, and_true, true_and, and_false, false_and, and_self, or_true, true_or, or_false, false_or, or_self, Nat.reduceEqDiff, Int.reduceNeg, ne_eq, not_true_eq_false, not_false_eq_true, Int.toNat_natCast, reduceCtorEq, i10, i01, implies_true, true_implies, false_implies, g_t (c := True) trivial, c30, c31]
      by_cases hj : j < 6
      · rw [if_pos hj, if_pos hj, if_pos hj, (f6 j hj).1, cv, if_neg s9]
        have e1 := f6 j hj
        exact (congrArg wr (Int.zero_add _)).trans (wr_id (by unfold zin; omega))
      · rw [if_neg hj, if_neg hj, if_neg hj]
  · rw [ww]
    refine (pm _).trans ?_
    rw [f2, cl_some]
    exact l2 _
  · rw [f5]
    by_cases s9 : S = -9
    · rw [if_pos s9]; exact Or.inl ⟨s9, rfl⟩
    · rw [if_neg s9]; exact Or.inr ⟨s9, rfl⟩
  · split <;> omega
  · split <;> omega
  · split <;> omega
  · have e1 := q92 j hj
    have e2 := d23 j hj
    have e3 := cvb j hj
    have e4 := d24.1 j hj
    show L j = (if 0 ≤ j ∧ j < 6 then wr (gI N 92 0 j - cV N c j) else gI N 92 0 j) ∧ 0 ≤ (if 0 ≤ j ∧ j < 6 then wr (gI N 92 0 j - cV N c j) else gI N 92 0 j) ∧ (if 0 ≤ j ∧ j < 6 then wr (gI N 92 0 j - cV N c j) else gI N 92 0 j) ≤ D + 50
    rw [hL, if_pos hj, if_pos ⟨Nat.zero_le j, hj⟩, n92 j hj, wv j hj]
    exact ⟨rfl, by omega, by omega⟩
  · show Q j = (if 6 * c + 0 ≤ 6 * c + j ∧ 6 * c + j < 6 * c + 6 then cV N c (6 * c + j - 6 * c) else gI N 91 0 (6 * c + j)) ∧ 0 ≤ (if 6 * c + 0 ≤ 6 * c + j ∧ 6 * c + j < 6 * c + 6 then cV N c (6 * c + j - 6 * c) else gI N 91 0 (6 * c + j)) ∧ (if 6 * c + 0 ≤ 6 * c + j ∧ 6 * c + j < 6 * c + 6 then cV N c (6 * c + j - 6 * c) else gI N 91 0 (6 * c + j)) ≤ 3000
    rw [hQ, if_pos hj, if_pos (by omega), show 6 * c + j - 6 * c = j by omega]
    exact ⟨rfl, (cvb j hj).1, (cvb j hj).2.2⟩
  · show (if 6 * c + 0 ≤ j ∧ j < 6 * c + 6 then cV N c (j - 6 * c) else gI N 91 0 j) = gI M 91 0 j
    rw [if_neg (by omega), n91]
end SW
