/-! ===== cups that are sent, and sent again ===== -/
theorem wS_one (v : Int) (h0 : 0 ≤ v) (h1 : v ≤ 50) : ∀ j, j < 6 → wS (fun k => if k = j then v else 0) 6 = v * zWt j ∧ wr (v * zWt j) = v * zWt j ∧ 0 ≤ v * zWt j ∧ v * zWt j ≤ 3000 := by
  intro j hj
  have : j = 0 ∨ j = 1 ∨ j = 2 ∨ j = 3 ∨ j = 4 ∨ j = 5 := by omega
  rcases this with rfl | rfl | rfl | rfl | rfl | rfl <;> simp [wS, zWt] <;> unfold wr <;> omega
section SE
variable {P C K : Nat} {D : Int} {X M : zS}
theorem P_resend (h : zR X M) {nf : Nat} (hnf : 1000 ≤ nf) (x1 : Int) (h1 : zin x1) : ∃ r X' M', fX10_resend X 0 x1 = some (r, X') ∧ fX11_resend M 0 x1 = some (r, M') ∧ zR X' M' := by
  obtain ⟨P, C, K, hr⟩ := id h
  obtain ⟨⟨hX, hM, hN⟩, hS, hF, hB, hP, hL, hC, hK, hD, hZ⟩ := id hr
  have h16 := hN.1
  unfold fX10_resend fX11_resend
  rcases idx0 x1 C with hx | ⟨c, hc, rfl⟩
  · simp only [findCup_out hr hx, isCup_eq hr, nm_eq, up_eq, cl_some, ob_some, oe_some, oe_none, ob_none, i10]
    rw [if_pos (by omega)]
    exact ⟨_, _, _, rfl, rfl, h⟩
  have hg : 0 ≤ (c : Int) ∧ (c : Int) < 24 := by omega
  obtain ⟨⟨a0, a1, a2, a3⟩, ⟨b1, b2, b3, b4⟩, ⟨c1, c2, c3⟩, d4, d5, d6, d7, d8, d9, d10, d11, d12, d13, d14, d15, d16, d17, d18, d19, d20, d21, d22, d23, d24, d25⟩ := hC c hc
  simp only [findCup_in hr hc, isCup_eq hr, nm_eq, up_eq, cl_some, ob_some, oe_some, oe_none, ob_none, i10, hM.2 16 rfl, hM.2 17 rfl, g_t hg, Int.toNat_natCast, c1]
  rw [if_neg (by omega : ¬ ¬ (0 ≤ (c : Int) ∧ (c : Int) < C))]
  by_cases z : ¬ gI M 82 0 c = 5
  · rw [if_neg z, if_neg z]; exact ⟨_, _, _, rfl, rfl, h⟩
  have z := Decidable.not_not.mp z
  rw [if_pos z, if_pos z]
  have e4 := d5 (by omega)
  obtain ⟨q, hq⟩ : ∃ q : Nat, gI M 83 0 c = q := ⟨(gI M 83 0 c).toNat, by omega⟩
  have s := d25 z
  rw [hq] at e4 s
  simp only [Int.toNat_natCast] at e4 s
  have hqP : q < P := by omega
  have h0q : 0 < q := by
    rcases Nat.eq_zero_or_pos q with e | e
    · subst e; rw [((hP 0 hqP).2.1 rfl).2] at s; omega
    · exact e
  unfold fX4_waitToGoUp fX4_leaveFor fX11_waitAt
  have g01 : ((1 : Int) = 0 ∨ (1 : Int) = 1) := Or.inr rfl
  simp only [gI_sI, gI_sR, gI_sN, gI_sCp, gI_sB, gR_sI, gR_sR, gR_sN, gR_sCp, gR_sB, gN_sI, gN_sR, gN_sN, gN_sCp, gN_sB, ↓reduceIte, and_true, true_and, and_false, false_and, and_self, or_true, true_or, or_false, false_or, or_self, Nat.reduceEqDiff, Int.reduceNeg, ne_eq, not_true_eq_false, not_false_eq_true, Int.toNat_natCast, reduceCtorEq, i10, i01, implies_true, true_implies, false_implies, g_t (c := True) trivial, nm_eq, up_eq, cl_some, ob_some, oe_some, oe_none, ob_none, hM.2 16 rfl, hM.2 17 rfl, hM.2 18 rfl, hM.2 19 rfl, hM.2 20 rfl, g_t hg, g_t g01, e4.1, hq, hS.1.1, (hP q hqP).1.2.1]
  have nk : ∀ k, k < K → gI M 102 0 k ≠ c := fun k hk e => by
    have := ((hK k hk).2.2.2 (by omega)).2.2.1
    rw [e, Int.toNat_natCast, z] at this
    cases this
  refine ⟨_, _, _, rfl, rfl, P, C, K, hr.cup hc (fun _ => rfl) (fun _ => rfl) (by repeat first | exact .rf | refine eqS_sI rfl ?_ | refine eqS_sR rfl ?_ | refine eqS_sB (fun _ => rfl) ?_ | refine eqS_sN (fun _ => rfl) ?_) (fun i k hi => ?_) (fun _ _ _ => rfl) (by repeat first | exact .rf | refine eqS_sI rfl ?_ | refine eqS_sR rfl ?_ | refine eqS_sB (fun _ => rfl) ?_ | refine eqS_sN (fun _ => rfl) ?_) (fun t ht i hi => ?_) (fun _ _ => rfl) (hS.cg (by repeat first | exact .rf | refine eqS_sI rfl ?_ | refine eqS_sR rfl ?_ | refine eqS_sB (fun _ => rfl) ?_ | refine eqS_sN (fun _ => rfl) ?_) (fun _ _ => rfl) (by repeat first | exact .rf | refine eqS_sI rfl ?_ | refine eqS_sR rfl ?_ | refine eqS_sB (fun _ => rfl) ?_ | refine eqS_sN (fun _ => rfl) ?_)) ?_ nk⟩
  · simp only [gI_sI, gI_sR, gI_sN, gI_sCp, gI_sB, gR_sI, gR_sR, gR_sN, gR_sCp, gR_sB, gN_sI, gN_sR, gN_sN, gN_sCp, gN_sB, ↓reduceIte, and_true, true_and, and_false, false_and, and_self, or_true, true_or, or_false, false_or, or_self, Nat.reduceEqDiff, Int.reduceNeg, ne_eq, not_true_eq_false, not_false_eq_true, Int.toNat_natCast, reduceCtorEq, i10, i01, implies_true, true_implies, false_implies, g_t (c := True) trivial, hi]
  · rcases ht with rfl | rfl | rfl | rfl | rfl | rfl | rfl | rfl | rfl | rfl <;> simp only [gI_sI, gI_sR, gI_sN, gI_sCp, gI_sB, gR_sI, gR_sR, gR_sN, gR_sCp, gR_sB, gN_sI, gN_sR, gN_sN, gN_sCp, gN_sB, ↓reduceIte, and_true, true_and, and_false, false_and, and_self, or_true, true_or, or_false, false_or, or_self, Nat.reduceEqDiff, Int.reduceNeg, ne_eq, not_true_eq_false, not_false_eq_true, Int.toNat_natCast, reduceCtorEq, i10, i01, implies_true, true_implies, false_implies, g_t (c := True) trivial, hi]
  · unfold RC
    simp only [gI_sI, gI_sR, gI_sN, gI_sCp, gI_sB, gR_sI, gR_sR, gR_sN, gR_sCp, gR_sB, gN_sI, gN_sR, gN_sN, gN_sCp, gN_sB, ↓reduceIte, and_true, true_and, and_false, false_and, and_self, or_true, true_or, or_false, false_or, or_self, Nat.reduceEqDiff, Int.reduceNeg, ne_eq, not_true_eq_false, not_false_eq_true, Int.toNat_natCast, reduceCtorEq, i10, i01, implies_true, true_implies, false_implies, g_t (c := True) trivial]
    have hs := hS.1
    rw [s]
    and_intros <;> first | exact True.intro | assumption | omega | (intro x; first | assumption | omega | (exfalso; omega))
theorem P_send (h : zR X M) {nf : Nat} (hnf : 1000 ≤ nf) (x1 x2 x3 x4 : Int) (h1 : zin x1) (h2 : zin x2) (h3 : zin x3) (h4 : zin x4) : ∃ r X' M', fX10_send X 0 x1 x2 x3 x4 = some (r, X') ∧ fX11_send M 0 x1 x2 x3 x4 = some (r, M') ∧ zR X' M' := by
  obtain ⟨P, C, K, hr⟩ := id h
  obtain ⟨⟨hX, hM, hN⟩, hS, hF, hB, hP, hL, hC, hK, hD, hZ⟩ := id hr
  have h16 := hN.1
  unfold fX10_send fX11_send
  rcases idx0 x1 C with hx | ⟨c, hc, rfl⟩
  · simp only [findCup_out hr hx, isCup_eq hr, nm_eq, up_eq, cl_some, ob_some, oe_some, oe_none, ob_none, i10]
    rw [if_pos (by omega)]
    exact ⟨_, _, _, rfl, rfl, h⟩
  have hg : 0 ≤ (c : Int) ∧ (c : Int) < 24 := by omega
  obtain ⟨⟨a0, a1, a2, a3⟩, ⟨b1, b2, b3, b4⟩, ⟨c1, c2, c3⟩, d4, d5, d6, d7, d8, d9, d10, d11, d12, d13, d14, d15, d16, d17, d18, d19, d20, d21, d22, d23, d24, d25⟩ := hC c hc
  simp only [findCup_in hr hc, isCup_eq hr, within_eq, in_eq, nm_eq, up_eq, cl_some, ob_some, oe_some, oe_none, ob_none, i10, hM.2 16 rfl, g_t hg, Int.toNat_natCast, c1]
  rw [if_neg (by omega : ¬ ¬ (0 ≤ (c : Int) ∧ (c : Int) < C))]
  by_cases u2 : ¬ (1 ≤ x2 ∧ x2 ≤ 3000)
  · rw [if_pos u2, if_pos u2]; exact ⟨_, _, _, rfl, rfl, h⟩
  rw [if_neg u2, if_neg u2]
  by_cases u3 : ¬ (0 ≤ x3 ∧ x3 ≤ 5)
  · rw [if_pos u3, if_pos u3]; exact ⟨_, _, _, rfl, rfl, h⟩
  rw [if_neg u3, if_neg u3]
  by_cases u4 : ¬ (1 ≤ x4 ∧ x4 ≤ 50)
  · rw [if_pos u4, if_pos u4]; exact ⟨_, _, _, rfl, rfl, h⟩
  rw [if_neg u4, if_neg u4]
  have u2 := Decidable.not_not.mp u2
  have u3 := Decidable.not_not.mp u3
  have u4 := Decidable.not_not.mp u4
  obtain ⟨j, rfl⟩ : ∃ j : Nat, x3 = j := ⟨x3.toNat, by omega⟩
  have hj : j < 6 := by omega
  have gj : (0 : Int) ≤ (j : Int) ∧ (j : Int) < 6 := by omega
  have g6 : (0 : Int) ≤ ((6 * c + j : Nat) : Int) ∧ ((6 * c + j : Nat) : Int) < 144 := by omega
  obtain ⟨w1, w2, w3, w4⟩ := wS_one x4 (by omega) u4.2 j hj
  simp only [g_t gj, Int.toNat_natCast, worth_eq _ hj, nm_eq, up_eq, cl_some, ob_some, oe_some, oe_none, ob_none, w2]
  by_cases z : ¬ gI M 82 0 c = 0
  · rw [if_neg z, if_neg z]; exact ⟨_, _, _, rfl, rfl, h⟩
  have z := Decidable.not_not.mp z
  rw [if_pos z, if_pos z]
  by_cases lt : x4 * zWt j < x2
  · rw [if_pos lt, if_pos lt]; exact ⟨_, _, _, rfl, rfl, h⟩
  rw [if_neg lt, if_neg lt]
  obtain ⟨q, hq⟩ : ∃ q : Nat, gI M 81 0 c = q := ⟨(gI M 81 0 c).toNat, by omega⟩
  rw [hq] at b1 b2 b3 b4
  simp only [Int.toNat_natCast] at b1 b4
  unfold fX4_waitToGoUp fX4_leaveFor fX11_waitAt
  simp only [gI_sI, gI_sR, gI_sN, gI_sCp, gI_sB, gR_sI, gR_sR, gR_sN, gR_sCp, gR_sB, gN_sI, gN_sR, gN_sN, gN_sCp, gN_sB, ↓reduceIte, and_true, true_and, and_false, false_and, and_self, or_true, true_or, or_false, false_or, or_self, Nat.reduceEqDiff, Int.reduceNeg, ne_eq, not_true_eq_false, not_false_eq_true, Int.toNat_natCast, reduceCtorEq, i10, i01, implies_true, true_implies, false_implies, g_t (c := True) trivial, nm_eq, up_eq, cl_some, ob_some, oe_some, oe_none, ob_none, hM.2 1 rfl, hM.2 2 rfl, hM.2 3 rfl, hM.2 4 rfl, hM.2 5 rfl, hM.2 6 rfl, hM.2 7 rfl, hM.2 8 rfl, hM.2 9 rfl, hM.2 10 rfl, hM.2 11 rfl, hM.2 12 rfl, hM.2 15 rfl, hM.2 16 rfl, hM.2 17 rfl, hM.2 18 rfl, hM.2 19 rfl, hM.2 20 rfl, hM.2 21 rfl, hM.2 22 rfl, hM.2 23 rfl, hM.2 24 rfl, hM.2 25 rfl, hM.2 26 rfl, hM.2 29 rfl, hM.2 30 rfl, hM.2 31 rfl, hM.2 32 rfl, hM.2 33 rfl, hM.2 35 rfl, hM.2 36 rfl, hM.2 37 rfl, hM.2 40 rfl, hM.2 41 rfl, hM.2 42 rfl, hM.2 43 rfl, hM.2 44 rfl, hM.2 45 rfl, hM.2 49 rfl, hM.2 50 rfl, hM.2 51 rfl, hM.2 53 rfl, hM.2 56 rfl, hM.2 58 rfl, g_t hg, g_t gj, wr6 c j (by omega) hj, g_t g6, a2, a3, b1, hq, hS.1.1, hS.2.2.1, w2]
  have nk : ∀ k, k < K → gI M 102 0 k ≠ c := fun k hk e => by
    have := ((hK k hk).2.2.2 (by omega)).2.2.1
    rw [e, Int.toNat_natCast, z] at this
    cases this
  have z91 := (d4 z).2
  refine ⟨_, _, _, rfl, rfl, P, C, K, hr.cup hc (fun _ => rfl) (fun _ => rfl) (by repeat first | exact .rf | refine eqS_sI rfl ?_ | refine eqS_sR rfl ?_ | refine eqS_sB (fun _ => rfl) ?_ | refine eqS_sN (fun _ => rfl) ?_) (fun i k hi => ?_) (fun i k hi => ?_) (by repeat first | exact .rf | refine eqS_sI rfl ?_ | refine eqS_sR rfl ?_ | refine eqS_sB (fun _ => rfl) ?_ | refine eqS_sN (fun _ => rfl) ?_) (fun t ht i hi => ?_) (fun i hi => ?_) ?_ ?_ nk⟩
  · simp only [gI_sI, gI_sR, gI_sN, gI_sCp, gI_sB, gR_sI, gR_sR, gR_sN, gR_sCp, gR_sB, gN_sI, gN_sR, gN_sN, gN_sCp, gN_sB, ↓reduceIte, and_true, true_and, and_false, false_and, and_self, or_true, true_or, or_false, false_or, or_self, Nat.reduceEqDiff, Int.reduceNeg, ne_eq, not_true_eq_false, not_false_eq_true, Int.toNat_natCast, reduceCtorEq, i10, i01, implies_true, true_implies, false_implies, g_t (c := True) trivial, hi]
  · simp only [gI_sI, gI_sR, gI_sN, gI_sCp, gI_sB, gR_sI, gR_sR, gR_sN, gR_sCp, gR_sB, gN_sI, gN_sR, gN_sN, gN_sCp, gN_sB, ↓reduceIte, and_true, true_and, and_false, false_and, and_self, or_true, true_or, or_false, false_or, or_self, Nat.reduceEqDiff, Int.reduceNeg, ne_eq, not_true_eq_false, not_false_eq_true, Int.toNat_natCast, reduceCtorEq, i10, i01, implies_true, true_implies, false_implies, g_t (c := True) trivial, hi]
  · rcases ht with rfl | rfl | rfl | rfl | rfl | rfl | rfl | rfl | rfl | rfl <;> simp only [gI_sI, gI_sR, gI_sN, gI_sCp, gI_sB, gR_sI, gR_sR, gR_sN, gR_sCp, gR_sB, gN_sI, gN_sR, gN_sN, gN_sCp, gN_sB, ↓reduceIte, and_true, true_and, and_false, false_and, and_self, or_true, true_or, or_false, false_or, or_self, Nat.reduceEqDiff, Int.reduceNeg, ne_eq, not_true_eq_false, not_false_eq_true, Int.toNat_natCast, reduceCtorEq, i10, i01, implies_true, true_implies, false_implies, g_t (c := True) trivial, hi]
  · have e : ¬ i = 6 * c + j := by omega
    simp only [gI_sI, gI_sR, gI_sN, gI_sCp, gI_sB, gR_sI, gR_sR, gR_sN, gR_sCp, gR_sB, gN_sI, gN_sR, gN_sN, gN_sCp, gN_sB, ↓reduceIte, and_true, true_and, and_false, false_and, and_self, or_true, true_or, or_false, false_or, or_self, Nat.reduceEqDiff, Int.reduceNeg, ne_eq, not_true_eq_false, not_false_eq_true, Int.toNat_natCast, reduceCtorEq, i10, i01, implies_true, true_implies, false_implies, g_t (c := True) trivial, e]
  · unfold RS at hS ⊢
    simp only [gI_sI, gI_sR, gI_sN, gI_sCp, gI_sB, gR_sI, gR_sR, gR_sN, gR_sCp, gR_sB, gN_sI, gN_sR, gN_sN, gN_sCp, gN_sB, ↓reduceIte, and_true, true_and, and_false, false_and, and_self, or_true, true_or, or_false, false_or, or_self, Nat.reduceEqDiff, Int.reduceNeg, ne_eq, not_true_eq_false, not_false_eq_true, Int.toNat_natCast, reduceCtorEq, i10, i01, implies_true, true_implies, false_implies, g_t (c := True) trivial]
    refine ⟨hS.1, hS.2.1, hS.2.2.2.1, fun k hk => ?_⟩
    exact hS.2.2.2.2 k hk
  · have wc : wS (fun k => if 6 * c + k = 6 * c + j then x4 else gI M 91 0 (6 * c + k)) 6 = x4 * zWt j := by
      rw [← w1]
      refine wS_cg fun k hk => ?_
      by_cases e : k = j
      · subst e; simp
      · rw [if_neg (by omega), if_neg e, z91 k hk]
    unfold RC
    simp only [gI_sI, gI_sR, gI_sN, gI_sCp, gI_sB, gR_sI, gR_sR, gR_sN, gR_sCp, gR_sB, gN_sI, gN_sR, gN_sN, gN_sCp, gN_sB, ↓reduceIte, and_true, true_and, and_false, false_and, and_self, or_true, true_or, or_false, false_or, or_self, Nat.reduceEqDiff, Int.reduceNeg, ne_eq, not_true_eq_false, not_false_eq_true, Int.toNat_natCast, reduceCtorEq, i10, i01, implies_true, true_implies, false_implies, g_t (c := True) trivial, wc]
    have hs := hS.1
    rw [hq, Int.toNat_natCast, b4]
    have zc : ∀ k, k < 6 → (if k = j then x4 else gI X 15 (c + 3) k) = (if k = j then x4 else gI M 91 0 (6 * c + k)) ∧ (0 ≤ if k = j then x4 else gI M 91 0 (6 * c + k)) ∧ (if k = j then x4 else gI M 91 0 (6 * c + k)) ≤ 3000 := by
      intro k hk
      have := d23 k hk
      by_cases e : k = j
      · simp only [e, ↓reduceIte, and_true, true_and, and_false, false_and, and_self, or_true, true_or, or_false, false_or, or_self, Nat.reduceEqDiff, Int.reduceNeg, ne_eq, not_true_eq_false, not_false_eq_true, Int.toNat_natCast, reduceCtorEq, i10, i01, implies_true, true_implies, false_implies, g_t (c := True) trivial]; omega
      · simp only [e, ↓reduceIte, and_true, true_and, and_false, false_and, and_self, or_true, true_or, or_false, false_or, or_self, Nat.reduceEqDiff, Int.reduceNeg, ne_eq, not_true_eq_false, not_false_eq_true, Int.toNat_natCast, reduceCtorEq, i10, i01, implies_true, true_implies, false_implies, g_t (c := True) trivial]; omega
    have zd : ∀ k, k < 6 → (if k = j then x4 else gI M 91 0 (6 * c + k)) ≤ 50 := by
      intro k hk
      have := z91 k hk
      by_cases e : k = j
      · simp only [e, ↓reduceIte, and_true, true_and, and_false, false_and, and_self, or_true, true_or, or_false, false_or, or_self, Nat.reduceEqDiff, Int.reduceNeg, ne_eq, not_true_eq_false, not_false_eq_true, Int.toNat_natCast, reduceCtorEq, i10, i01, implies_true, true_implies, false_implies, g_t (c := True) trivial]; omega
      · simp only [e, ↓reduceIte, and_true, true_and, and_false, false_and, and_self, or_true, true_or, or_false, false_or, or_self, Nat.reduceEqDiff, Int.reduceNeg, ne_eq, not_true_eq_false, not_false_eq_true, Int.toNat_natCast, reduceCtorEq, i10, i01, implies_true, true_implies, false_implies, g_t (c := True) trivial]; omega
    have ej : ∀ k, (6 * c + k = 6 * c + j) = (k = j) := fun k => propext ⟨fun x => by omega, fun x => by omega⟩
    simp only [ej]
    and_intros <;> first | exact True.intro | assumption | omega | (intro x; first | assumption | omega | (exfalso; omega))
end SE
