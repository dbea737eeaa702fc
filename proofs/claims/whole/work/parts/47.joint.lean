/-! ===== joints, coins to be fetched ===== -/
section JO
variable {X M : zS}
theorem gg {c : Prop} [Decidable c] : ¬ c ∨ (if c then (1 : Int) else 0) = 1 := by
  by_cases h : c
  · exact Or.inr (if_pos h)
  · exact Or.inl h
theorem P_fetch (h : zR X M) {nf : Nat} (hnf : 1000 ≤ nf) (x1 x2 x3 : Int) (h1 : zin x1) (h2 : zin x2) (h3 : zin x3) : ∃ r X' M', fX10_fetch X 0 x1 x2 x3 = some (r, X') ∧ fX11_fetch M 0 x1 x2 x3 = some (r, M') ∧ zR X' M' := by
  obtain ⟨P, C, K, hr⟩ := id h
  obtain ⟨⟨hX, hM, hN⟩, hS, hF, hB, hP, hL, hC, hK, hD, hZ⟩ := id hr
  unfold fX10_fetch fX11_fetch fX5_add
  simp only [within_eq, in_eq, nm_eq, up_eq, cl_some, ob_some, oe_some, oe_none, ob_none, i10]
  by_cases hx : 0 ≤ x1 ∧ x1 ≤ 5
  · rw [if_neg (nn hx), if_neg (nn hx)]
    by_cases hy : 1 ≤ x2 ∧ x2 ≤ 100
    · rw [if_neg (nn hy), if_neg (nn hy)]
      by_cases hz : 1 ≤ x3 ∧ x3 ≤ 200
      · rw [if_neg (nn hz), if_neg (nn hz)]
        have f := hF
        unfold RF at f
        obtain ⟨f1, f2, f3, f4⟩ := f
        obtain ⟨n, hn⟩ : ∃ n : Nat, gI M 64 0 39 = n := ⟨(gI M 64 0 39).toNat, by omega⟩
        rw [hn] at f1 f2 f3 f4
        simp only [gI_sI, gI_sR, gI_sN, gI_sCp, gI_sB, gR_sI, gR_sR, gR_sN, gR_sCp, gR_sB, gN_sI, gN_sR, gN_sN, gN_sCp, gN_sB, ↓reduceIte, and_true, true_and, and_false, false_and, and_self, or_true, true_or, or_false, false_or, or_self, Nat.reduceEqDiff, Int.reduceNeg, ne_eq, not_true_eq_false, not_false_eq_true, Int.toNat_natCast, reduceCtorEq, i10, i01, implies_true, true_implies, false_implies, g_t (c := True) trivial, hX.2.1 0 (by decide), hX.2.1 1 (by decide), hX.2.1 2 (by decide), hX.2.1 3 (by decide), hX.2.1 4 (by decide), hX.2.1 5 (by decide), hX.2.1 6 (by decide), hX.2.1 7 (by decide), hX.2.1 8 (by decide), hX.2.1 9 (by decide), hX.2.2.1.1, hX.2.2.1.2, hX.2.2.2.1.1, hX.2.2.2.1.2, hX.2.2.2.2.1, hX.2.2.2.2.2.1.1, hX.2.2.2.2.2.1.2.1, hX.2.2.2.2.2.1.2.2, hX.2.2.2.2.2.2.1.1, hX.2.2.2.2.2.2.1.2.1, hX.2.2.2.2.2.2.1.2.2.1, hX.2.2.2.2.2.2.1.2.2.2.1, hX.2.2.2.2.2.2.1.2.2.2.2.1, hX.2.2.2.2.2.2.1.2.2.2.2.2.1, hX.2.2.2.2.2.2.1.2.2.2.2.2.2, hM.2 1 rfl, hM.2 2 rfl, hM.2 3 rfl, hM.2 4 rfl, hM.2 5 rfl, hM.2 6 rfl, hM.2 7 rfl, hM.2 8 rfl, hM.2 9 rfl, hM.2 10 rfl, hM.2 11 rfl, hM.2 12 rfl, hM.2 15 rfl, hM.2 16 rfl, hM.2 17 rfl, hM.2 18 rfl, hM.2 19 rfl, hM.2 20 rfl, hM.2 21 rfl, hM.2 22 rfl, hM.2 23 rfl, hM.2 24 rfl, hM.2 25 rfl, hM.2 26 rfl, hM.2 29 rfl, hM.2 30 rfl, hM.2 31 rfl, hM.2 32 rfl, hM.2 33 rfl, hM.2 35 rfl, hM.2 36 rfl, hM.2 37 rfl, hM.2 40 rfl, hM.2 41 rfl, hM.2 42 rfl, hM.2 43 rfl, hM.2 44 rfl, hM.2 45 rfl, hM.2 49 rfl, hM.2 50 rfl, hM.2 51 rfl, hM.2 53 rfl, hM.2 56 rfl, hM.2 58 rfl, nm_eq, up_eq, cl_some, ob_some, oe_some, oe_none, ob_none, f1, hn, hS.1.1]
        by_cases e : n = 20
        · rw [if_neg (by omega), if_pos (by omega)]
          exact ⟨_, _, _, rfl, rfl, h⟩
        · have g : (0 : Int) ≤ (n : Int) ∧ (n : Int) < 20 := by omega
          rw [if_pos (by omega), if_pos (by omega), if_neg (by omega)]
          simp only [g_t g, gI_sI, gI_sR, gI_sN, gI_sCp, gI_sB, gR_sI, gR_sR, gR_sN, gR_sCp, gR_sB, gN_sI, gN_sR, gN_sN, gN_sCp, gN_sB, ↓reduceIte, and_true, true_and, and_false, false_and, and_self, or_true, true_or, or_false, false_or, or_self, Nat.reduceEqDiff, Int.reduceNeg, ne_eq, not_true_eq_false, not_false_eq_true, Int.toNat_natCast, reduceCtorEq, i10, i01, implies_true, true_implies, false_implies, g_t (c := True) trivial, nm_eq, up_eq, cl_some, ob_some, oe_some, oe_none, ob_none, f1, hn, hS.1.1, nat_wr n (by omega)]
          refine ⟨_, _, _, rfl, rfl, P, C, K, ⟨⟨hX.cg rfl (by repeat first | exact .rf | refine eqS_sI rfl ?_ | refine eqS_sR rfl ?_ | refine eqS_sB (fun _ => rfl) ?_ | refine eqS_sN (fun _ => rfl) ?_), hM.cg rfl (by repeat first | exact .rf | refine eqS_sI rfl ?_ | refine eqS_sR rfl ?_ | refine eqS_sB (fun _ => rfl) ?_ | refine eqS_sN (fun _ => rfl) ?_), hN.cg (fun _ => rfl) (by repeat first | exact .rf | refine eqS_sI rfl ?_ | refine eqS_sR rfl ?_ | refine eqS_sB (fun _ => rfl) ?_ | refine eqS_sN (fun _ => rfl) ?_) (by repeat first | exact .rf | refine eqS_sI rfl ?_ | refine eqS_sR rfl ?_ | refine eqS_sB (fun _ => rfl) ?_ | refine eqS_sN (fun _ => rfl) ?_)⟩, hS.cg (by repeat first | exact .rf | refine eqS_sI rfl ?_ | refine eqS_sR rfl ?_ | refine eqS_sB (fun _ => rfl) ?_ | refine eqS_sN (fun _ => rfl) ?_) (fun _ _ => rfl) (by repeat first | exact .rf | refine eqS_sI rfl ?_ | refine eqS_sR rfl ?_ | refine eqS_sB (fun _ => rfl) ?_ | refine eqS_sN (fun _ => rfl) ?_), ?_, hB.cg (by repeat first | exact .rf | refine eqS_sI rfl ?_ | refine eqS_sR rfl ?_ | refine eqS_sB (fun _ => rfl) ?_ | refine eqS_sN (fun _ => rfl) ?_) (by repeat first | exact .rf | refine eqS_sI rfl ?_ | refine eqS_sR rfl ?_ | refine eqS_sB (fun _ => rfl) ?_ | refine eqS_sN (fun _ => rfl) ?_), fun p' hp' => (hP p' hp').cg (by repeat first | exact .rf | refine eqS_sI rfl ?_ | refine eqS_sR rfl ?_ | refine eqS_sB (fun _ => rfl) ?_ | refine eqS_sN (fun _ => rfl) ?_) (by repeat first | exact .rf | refine eqS_sI rfl ?_ | refine eqS_sR rfl ?_ | refine eqS_sB (fun _ => rfl) ?_ | refine eqS_sN (fun _ => rfl) ?_), fun p' hp' => (hL p' hp').cg (by repeat first | exact .rf | refine eqS_sI rfl ?_ | refine eqS_sR rfl ?_ | refine eqS_sB (fun _ => rfl) ?_ | refine eqS_sN (fun _ => rfl) ?_) (by repeat first | exact .rf | refine eqS_sI rfl ?_ | refine eqS_sR rfl ?_ | refine eqS_sB (fun _ => rfl) ?_ | refine eqS_sN (fun _ => rfl) ?_), fun c' hc' => (hC c' hc').cg (by repeat first | exact .rf | refine eqS_sI rfl ?_ | refine eqS_sR rfl ?_ | refine eqS_sB (fun _ => rfl) ?_ | refine eqS_sN (fun _ => rfl) ?_) (fun _ _ => rfl) (by repeat first | exact .rf | refine eqS_sI rfl ?_ | refine eqS_sR rfl ?_ | refine eqS_sB (fun _ => rfl) ?_ | refine eqS_sN (fun _ => rfl) ?_) (Int.le_refl _), fun k' hk' => (hK k' hk').cg (by repeat first | exact .rf | refine eqS_sI rfl ?_ | refine eqS_sR rfl ?_ | refine eqS_sB (fun _ => rfl) ?_ | refine eqS_sN (fun _ => rfl) ?_) (by repeat first | exact .rf | refine eqS_sI rfl ?_ | refine eqS_sR rfl ?_ | refine eqS_sB (fun _ => rfl) ?_ | refine eqS_sN (fun _ => rfl) ?_), hD.cg (by repeat first | exact .rf | refine eqS_sI rfl ?_ | refine eqS_sR rfl ?_ | refine eqS_sB (fun _ => rfl) ?_ | refine eqS_sN (fun _ => rfl) ?_), (by repeat first | exact hZ | refine RZ.sI (by first | rfl | (simp [zZ]; omega)) ?_)⟩⟩
          unfold RF
          simp only [gI_sI, gI_sR, gI_sN, gI_sCp, gI_sB, gR_sI, gR_sR, gR_sN, gR_sCp, gR_sB, gN_sI, gN_sR, gN_sN, gN_sCp, gN_sB, ↓reduceIte, and_true, true_and, and_false, false_and, and_self, or_true, true_or, or_false, false_or, or_self, Nat.reduceEqDiff, Int.reduceNeg, ne_eq, not_true_eq_false, not_false_eq_true, Int.toNat_natCast, reduceCtorEq, i10, i01, implies_true, true_implies, false_implies, g_t (c := True) trivial]
          refine ⟨by omega, by omega, fun j hj => ?_⟩
          by_cases e : j = n
          · simp only [e, ↓reduceIte, and_true, true_and, and_false, false_and, and_self, or_true, true_or, or_false, false_or, or_self, Nat.reduceEqDiff, Int.reduceNeg, ne_eq, not_true_eq_false, not_false_eq_true, Int.toNat_natCast, reduceCtorEq, i10, i01, implies_true, true_implies, false_implies, g_t (c := True) trivial]
            exact ⟨hx, hy⟩
          · simp only [e, ↓reduceIte, and_true, true_and, and_false, false_and, and_self, or_true, true_or, or_false, false_or, or_self, Nat.reduceEqDiff, Int.reduceNeg, ne_eq, not_true_eq_false, not_false_eq_true, Int.toNat_natCast, reduceCtorEq, i10, i01, implies_true, true_implies, false_implies, g_t (c := True) trivial]
            exact f4 j (by omega)
      · rw [if_pos hz, if_pos hz]
        exact ⟨_, _, _, rfl, rfl, h⟩
    · rw [if_pos hy, if_pos hy]
      exact ⟨_, _, _, rfl, rfl, h⟩
  · rw [if_pos hx, if_pos hx]
    exact ⟨_, _, _, rfl, rfl, h⟩
theorem P_joint (h : zR X M) {nf : Nat} (hnf : 1000 ≤ nf) (x1 x2 x3 : Int) (h1 : zin x1) (h2 : zin x2) (h3 : zin x3) : ∃ r X' M', fX10_joint X 0 x1 x2 x3 = some (r, X') ∧ fX11_joint M 0 x1 x2 x3 = some (r, M') ∧ zR X' M' := by
  obtain ⟨P, C, K, hr⟩ := id h
  obtain ⟨⟨hX, hM, hN⟩, hS, hF, hB, hP, hL, hC, hK, hD, hZ⟩ := id hr
  have h16 := hN.1
  unfold fX10_joint fX11_joint fX10_fitsJoint fX7_wearBy
  rcases idx0 x1 P with hx | ⟨p, hp, rfl⟩
  · simp only [findPost_out hr hx, isPost_eq hr, nm_eq, up_eq, cl_some, ob_some, oe_some, oe_none, ob_none, i10]
    rw [if_pos (by omega)]
    exact ⟨_, _, _, rfl, rfl, h⟩
  have q := hP p hp
  have hg : 0 ≤ (p : Int) ∧ (p : Int) < 16 := by omega
  simp only [findPost_in hr hp, isPost_eq hr, nm_eq, up_eq, cl_some, ob_some, oe_some, oe_none, ob_none, i10, within_eq, in_eq, hM.2 2 rfl, hM.2 7 rfl, hM.2 8 rfl, hM.2 9 rfl, hM.2 10 rfl, g_t hg, Int.toNat_natCast, q.2.2.2.1.1, gR_sI, gI_sI]
  rw [if_neg (by omega : ¬ ¬ (0 ≤ (p : Int) ∧ (p : Int) < P))]
  by_cases s : ¬ gI M 68 0 p = 1
  · rw [if_neg s, if_neg s]
    exact ⟨_, _, _, rfl, rfl, h⟩
  have s : gI M 68 0 p = 1 := Decidable.not_not.mp s
  rw [if_pos s, if_pos s]
  by_cases e0 : x2 = 0
  · subst e0
    simp only [Int.reduceEq, ↓reduceIte, g_t gg, cl_some]
    by_cases hy : 0 ≤ x3 ∧ x3 ≤ 2
    · simp only [if_pos hy, if_neg (nn hy), Int.reduceEq, ↓reduceIte, q.2.2.2.2.2.2.1.1, i10]
      have key : zR (sI X 8 p 9 x3) (sI M 73 0 p x3) := by
        refine ⟨P, C, K, ⟨⟨hX.cg rfl (by repeat first | exact .rf | refine eqS_sI rfl ?_ | refine eqS_sR rfl ?_ | refine eqS_sB (fun _ => rfl) ?_ | refine eqS_sN (fun _ => rfl) ?_), hM.cg rfl (by repeat first | exact .rf | refine eqS_sI rfl ?_ | refine eqS_sR rfl ?_ | refine eqS_sB (fun _ => rfl) ?_ | refine eqS_sN (fun _ => rfl) ?_), hN.cg (fun _ => rfl) (by repeat first | exact .rf | refine eqS_sI rfl ?_ | refine eqS_sR rfl ?_ | refine eqS_sB (fun _ => rfl) ?_ | refine eqS_sN (fun _ => rfl) ?_) (by repeat first | exact .rf | refine eqS_sI rfl ?_ | refine eqS_sR rfl ?_ | refine eqS_sB (fun _ => rfl) ?_ | refine eqS_sN (fun _ => rfl) ?_)⟩, hS.cg (by repeat first | exact .rf | refine eqS_sI rfl ?_ | refine eqS_sR rfl ?_ | refine eqS_sB (fun _ => rfl) ?_ | refine eqS_sN (fun _ => rfl) ?_) (fun _ _ => rfl) (by repeat first | exact .rf | refine eqS_sI rfl ?_ | refine eqS_sR rfl ?_ | refine eqS_sB (fun _ => rfl) ?_ | refine eqS_sN (fun _ => rfl) ?_), hF.cg (by repeat first | exact .rf | refine eqS_sI rfl ?_ | refine eqS_sR rfl ?_ | refine eqS_sB (fun _ => rfl) ?_ | refine eqS_sN (fun _ => rfl) ?_) (by repeat first | exact .rf | refine eqS_sI rfl ?_ | refine eqS_sR rfl ?_ | refine eqS_sB (fun _ => rfl) ?_ | refine eqS_sN (fun _ => rfl) ?_), hB.cg (by repeat first | exact .rf | refine eqS_sI rfl ?_ | refine eqS_sR rfl ?_ | refine eqS_sB (fun _ => rfl) ?_ | refine eqS_sN (fun _ => rfl) ?_) (by repeat first | exact .rf | refine eqS_sI rfl ?_ | refine eqS_sR rfl ?_ | refine eqS_sB (fun _ => rfl) ?_ | refine eqS_sN (fun _ => rfl) ?_), ?_, fun p' hp' => (hL p' hp').cg (by repeat first | exact .rf | refine eqS_sI rfl ?_ | refine eqS_sR rfl ?_ | refine eqS_sB (fun _ => rfl) ?_ | refine eqS_sN (fun _ => rfl) ?_) (by repeat first | exact .rf | refine eqS_sI rfl ?_ | refine eqS_sR rfl ?_ | refine eqS_sB (fun _ => rfl) ?_ | refine eqS_sN (fun _ => rfl) ?_), fun c' hc' => (hC c' hc').cg (by repeat first | exact .rf | refine eqS_sI rfl ?_ | refine eqS_sR rfl ?_ | refine eqS_sB (fun _ => rfl) ?_ | refine eqS_sN (fun _ => rfl) ?_) (fun _ _ => rfl) (by repeat first | exact .rf | refine eqS_sI rfl ?_ | refine eqS_sR rfl ?_ | refine eqS_sB (fun _ => rfl) ?_ | refine eqS_sN (fun _ => rfl) ?_) (Int.le_refl _), fun k' hk' => (hK k' hk').cg (by repeat first | exact .rf | refine eqS_sI rfl ?_ | refine eqS_sR rfl ?_ | refine eqS_sB (fun _ => rfl) ?_ | refine eqS_sN (fun _ => rfl) ?_) (by repeat first | exact .rf | refine eqS_sI rfl ?_ | refine eqS_sR rfl ?_ | refine eqS_sB (fun _ => rfl) ?_ | refine eqS_sN (fun _ => rfl) ?_), hD.cg (by repeat first | exact .rf | refine eqS_sI rfl ?_ | refine eqS_sR rfl ?_ | refine eqS_sB (fun _ => rfl) ?_ | refine eqS_sN (fun _ => rfl) ?_), (by repeat first | exact hZ | refine RZ.sI (by first | rfl | (simp [zZ]; omega)) ?_)⟩⟩
        intro p' hp'
        have q' := hP p' hp'
        unfold RP at q' ⊢
        by_cases e : p' = p
        · subst e
          simp only [gI_sI, gI_sR, gI_sN, gI_sCp, gI_sB, gR_sI, gR_sR, gR_sN, gR_sCp, gR_sB, gN_sI, gN_sR, gN_sN, gN_sCp, gN_sB, ↓reduceIte, and_true, true_and, and_false, false_and, and_self, or_true, true_or, or_false, false_or, or_self, Nat.reduceEqDiff, Int.reduceNeg, ne_eq, not_true_eq_false, not_false_eq_true, Int.toNat_natCast, reduceCtorEq, i10, i01, implies_true, true_implies, false_implies, g_t (c := True) trivial]
          obtain ⟨a1, a2, a3, a4, a5, a6, a7, a8⟩ := q'
          exact ⟨a1, a2, a3, a4, a5, a6, hy, a8⟩
        · simp only [gI_sI, gI_sR, gI_sN, gI_sCp, gI_sB, gR_sI, gR_sR, gR_sN, gR_sCp, gR_sB, gN_sI, gN_sR, gN_sN, gN_sCp, gN_sB, ↓reduceIte, and_true, true_and, and_false, false_and, and_self, or_true, true_or, or_false, false_or, or_self, Nat.reduceEqDiff, Int.reduceNeg, ne_eq, not_true_eq_false, not_false_eq_true, Int.toNat_natCast, reduceCtorEq, i10, i01, implies_true, true_implies, false_implies, g_t (c := True) trivial, e]
          exact q'
      exact ⟨_, _, _, rfl, rfl, key⟩
    · simp only [if_neg hy, if_pos hy, Int.reduceEq, ↓reduceIte]
      exact ⟨_, _, _, rfl, rfl, h⟩
  by_cases e1 : x2 = 1
  · subst e1
    have key : (x3 = 0 ∨ 2 ≤ x3 ∧ x3 ≤ 9) → zR (sI (sI X 8 p 11 x3) 8 p 12 0) (sI (sI M 74 0 p x3) 75 0 p 0) := by
      intro hy
      refine ⟨P, C, K, ⟨⟨hX.cg rfl (by repeat first | exact .rf | refine eqS_sI rfl ?_ | refine eqS_sR rfl ?_ | refine eqS_sB (fun _ => rfl) ?_ | refine eqS_sN (fun _ => rfl) ?_), hM.cg rfl (by repeat first | exact .rf | refine eqS_sI rfl ?_ | refine eqS_sR rfl ?_ | refine eqS_sB (fun _ => rfl) ?_ | refine eqS_sN (fun _ => rfl) ?_), hN.cg (fun _ => rfl) (by repeat first | exact .rf | refine eqS_sI rfl ?_ | refine eqS_sR rfl ?_ | refine eqS_sB (fun _ => rfl) ?_ | refine eqS_sN (fun _ => rfl) ?_) (by repeat first | exact .rf | refine eqS_sI rfl ?_ | refine eqS_sR rfl ?_ | refine eqS_sB (fun _ => rfl) ?_ | refine eqS_sN (fun _ => rfl) ?_)⟩, hS.cg (by repeat first | exact .rf | refine eqS_sI rfl ?_ | refine eqS_sR rfl ?_ | refine eqS_sB (fun _ => rfl) ?_ | refine eqS_sN (fun _ => rfl) ?_) (fun _ _ => rfl) (by repeat first | exact .rf | refine eqS_sI rfl ?_ | refine eqS_sR rfl ?_ | refine eqS_sB (fun _ => rfl) ?_ | refine eqS_sN (fun _ => rfl) ?_), hF.cg (by repeat first | exact .rf | refine eqS_sI rfl ?_ | refine eqS_sR rfl ?_ | refine eqS_sB (fun _ => rfl) ?_ | refine eqS_sN (fun _ => rfl) ?_) (by repeat first | exact .rf | refine eqS_sI rfl ?_ | refine eqS_sR rfl ?_ | refine eqS_sB (fun _ => rfl) ?_ | refine eqS_sN (fun _ => rfl) ?_), hB.cg (by repeat first | exact .rf | refine eqS_sI rfl ?_ | refine eqS_sR rfl ?_ | refine eqS_sB (fun _ => rfl) ?_ | refine eqS_sN (fun _ => rfl) ?_) (by repeat first | exact .rf | refine eqS_sI rfl ?_ | refine eqS_sR rfl ?_ | refine eqS_sB (fun _ => rfl) ?_ | refine eqS_sN (fun _ => rfl) ?_), ?_, fun p' hp' => (hL p' hp').cg (by repeat first | exact .rf | refine eqS_sI rfl ?_ | refine eqS_sR rfl ?_ | refine eqS_sB (fun _ => rfl) ?_ | refine eqS_sN (fun _ => rfl) ?_) (by repeat first | exact .rf | refine eqS_sI rfl ?_ | refine eqS_sR rfl ?_ | refine eqS_sB (fun _ => rfl) ?_ | refine eqS_sN (fun _ => rfl) ?_), fun c' hc' => (hC c' hc').cg (by repeat first | exact .rf | refine eqS_sI rfl ?_ | refine eqS_sR rfl ?_ | refine eqS_sB (fun _ => rfl) ?_ | refine eqS_sN (fun _ => rfl) ?_) (fun _ _ => rfl) (by repeat first | exact .rf | refine eqS_sI rfl ?_ | refine eqS_sR rfl ?_ | refine eqS_sB (fun _ => rfl) ?_ | refine eqS_sN (fun _ => rfl) ?_) (Int.le_refl _), fun k' hk' => (hK k' hk').cg (by repeat first | exact .rf | refine eqS_sI rfl ?_ | refine eqS_sR rfl ?_ | refine eqS_sB (fun _ => rfl) ?_ | refine eqS_sN (fun _ => rfl) ?_) (by repeat first | exact .rf | refine eqS_sI rfl ?_ | refine eqS_sR rfl ?_ | refine eqS_sB (fun _ => rfl) ?_ | refine eqS_sN (fun _ => rfl) ?_), ?_, (by repeat first | exact hZ | refine RZ.sI (by first | rfl | (simp [zZ]; omega)) ?_)⟩⟩
      · intro p' hp'
        have q' := hP p' hp'
        unfold RP at q' ⊢
        by_cases e : p' = p
        · subst e
          simp only [gI_sI, gI_sR, gI_sN, gI_sCp, gI_sB, gR_sI, gR_sR, gR_sN, gR_sCp, gR_sB, gN_sI, gN_sR, gN_sN, gN_sCp, gN_sB, ↓reduceIte, and_true, true_and, and_false, false_and, and_self, or_true, true_or, or_false, false_or, or_self, Nat.reduceEqDiff, Int.reduceNeg, ne_eq, not_true_eq_false, not_false_eq_true, Int.toNat_natCast, reduceCtorEq, i10, i01, implies_true, true_implies, false_implies, g_t (c := True) trivial]
          obtain ⟨a1, a2, a3, a4, a5, a6, a7, a8, a9⟩ := q'
          exact ⟨a1, a2, a3, a4, a5, a6, a7, ⟨hy, by omega, by simp⟩, a9⟩
        · simp only [gI_sI, gI_sR, gI_sN, gI_sCp, gI_sB, gR_sI, gR_sR, gR_sN, gR_sCp, gR_sB, gN_sI, gN_sR, gN_sN, gN_sCp, gN_sB, ↓reduceIte, and_true, true_and, and_false, false_and, and_self, or_true, true_or, or_false, false_or, or_self, Nat.reduceEqDiff, Int.reduceNeg, ne_eq, not_true_eq_false, not_false_eq_true, Int.toNat_natCast, reduceCtorEq, i10, i01, implies_true, true_implies, false_implies, g_t (c := True) trivial, e]
          exact q'
      · unfold BD at hD ⊢
        simp only [gI_sI, gI_sR, gI_sN, gI_sCp, gI_sB, gR_sI, gR_sR, gR_sN, gR_sCp, gR_sB, gN_sI, gN_sR, gN_sN, gN_sCp, gN_sB, ↓reduceIte, and_true, true_and, and_false, false_and, and_self, or_true, true_or, or_false, false_or, or_self, Nat.reduceEqDiff, Int.reduceNeg, ne_eq, not_true_eq_false, not_false_eq_true, Int.toNat_natCast, reduceCtorEq, i10, i01, implies_true, true_implies, false_implies, g_t (c := True) trivial]
        refine ⟨fun p' hp' => ⟨(hD.1 p' hp').1, ?_⟩, hD.2⟩
        by_cases e : p' = p
        · rw [if_pos e]; have := hS.1; omega
        · rw [if_neg e]; exact (hD.1 p' hp').2
    simp only [Int.reduceEq, ↓reduceIte]
    by_cases hz : x3 = 0
    · simp only [if_pos hz, cl_some, Int.reduceEq, ↓reduceIte, q.2.2.2.2.2.2.2.1.1]
      exact ⟨_, _, _, rfl, rfl, key (Or.inl hz)⟩
    · simp only [if_neg hz]
      by_cases hy : 2 ≤ x3 ∧ x3 ≤ 9
      · simp only [if_neg (nn hy), cl_some, Int.reduceEq, ↓reduceIte, q.2.2.2.2.2.2.2.1.1]
        exact ⟨_, _, _, rfl, rfl, key (Or.inr hy)⟩
      · simp only [if_pos hy, cl_some, Int.reduceEq, ↓reduceIte]
        exact ⟨_, _, _, rfl, rfl, h⟩
  simp only [if_neg e0, if_neg e1]
  by_cases e2 : x2 = 2
  · subst e2
    simp only [Int.reduceEq, ↓reduceIte, g_t gg, cl_some]
    by_cases hy : 0 ≤ x3 ∧ x3 ≤ 1
    · have key : zR (sI X 8 p 13 x3) (sI M 76 0 p x3) := by
        refine ⟨P, C, K, ⟨⟨hX.cg rfl (by repeat first | exact .rf | refine eqS_sI rfl ?_ | refine eqS_sR rfl ?_ | refine eqS_sB (fun _ => rfl) ?_ | refine eqS_sN (fun _ => rfl) ?_), hM.cg rfl (by repeat first | exact .rf | refine eqS_sI rfl ?_ | refine eqS_sR rfl ?_ | refine eqS_sB (fun _ => rfl) ?_ | refine eqS_sN (fun _ => rfl) ?_), hN.cg (fun _ => rfl) (by repeat first | exact .rf | refine eqS_sI rfl ?_ | refine eqS_sR rfl ?_ | refine eqS_sB (fun _ => rfl) ?_ | refine eqS_sN (fun _ => rfl) ?_) (by repeat first | exact .rf | refine eqS_sI rfl ?_ | refine eqS_sR rfl ?_ | refine eqS_sB (fun _ => rfl) ?_ | refine eqS_sN (fun _ => rfl) ?_)⟩, hS.cg (by repeat first | exact .rf | refine eqS_sI rfl ?_ | refine eqS_sR rfl ?_ | refine eqS_sB (fun _ => rfl) ?_ | refine eqS_sN (fun _ => rfl) ?_) (fun _ _ => rfl) (by repeat first | exact .rf | refine eqS_sI rfl ?_ | refine eqS_sR rfl ?_ | refine eqS_sB (fun _ => rfl) ?_ | refine eqS_sN (fun _ => rfl) ?_), hF.cg (by repeat first | exact .rf | refine eqS_sI rfl ?_ | refine eqS_sR rfl ?_ | refine eqS_sB (fun _ => rfl) ?_ | refine eqS_sN (fun _ => rfl) ?_) (by repeat first | exact .rf | refine eqS_sI rfl ?_ | refine eqS_sR rfl ?_ | refine eqS_sB (fun _ => rfl) ?_ | refine eqS_sN (fun _ => rfl) ?_), hB.cg (by repeat first | exact .rf | refine eqS_sI rfl ?_ | refine eqS_sR rfl ?_ | refine eqS_sB (fun _ => rfl) ?_ | refine eqS_sN (fun _ => rfl) ?_) (by repeat first | exact .rf | refine eqS_sI rfl ?_ | refine eqS_sR rfl ?_ | refine eqS_sB (fun _ => rfl) ?_ | refine eqS_sN (fun _ => rfl) ?_), ?_, fun p' hp' => (hL p' hp').cg (by repeat first | exact .rf | refine eqS_sI rfl ?_ | refine eqS_sR rfl ?_ | refine eqS_sB (fun _ => rfl) ?_ | refine eqS_sN (fun _ => rfl) ?_) (by repeat first | exact .rf | refine eqS_sI rfl ?_ | refine eqS_sR rfl ?_ | refine eqS_sB (fun _ => rfl) ?_ | refine eqS_sN (fun _ => rfl) ?_), fun c' hc' => (hC c' hc').cg (by repeat first | exact .rf | refine eqS_sI rfl ?_ | refine eqS_sR rfl ?_ | refine eqS_sB (fun _ => rfl) ?_ | refine eqS_sN (fun _ => rfl) ?_) (fun _ _ => rfl) (by repeat first | exact .rf | refine eqS_sI rfl ?_ | refine eqS_sR rfl ?_ | refine eqS_sB (fun _ => rfl) ?_ | refine eqS_sN (fun _ => rfl) ?_) (Int.le_refl _), fun k' hk' => (hK k' hk').cg (by repeat first | exact .rf | refine eqS_sI rfl ?_ | refine eqS_sR rfl ?_ | refine eqS_sB (fun _ => rfl) ?_ | refine eqS_sN (fun _ => rfl) ?_) (by repeat first | exact .rf | refine eqS_sI rfl ?_ | refine eqS_sR rfl ?_ | refine eqS_sB (fun _ => rfl) ?_ | refine eqS_sN (fun _ => rfl) ?_), hD.cg (by repeat first | exact .rf | refine eqS_sI rfl ?_ | refine eqS_sR rfl ?_ | refine eqS_sB (fun _ => rfl) ?_ | refine eqS_sN (fun _ => rfl) ?_), (by repeat first | exact hZ | refine RZ.sI (by first | rfl | (simp [zZ]; omega)) ?_)⟩⟩
        intro p' hp'
        have q' := hP p' hp'
        unfold RP at q' ⊢
        by_cases e : p' = p
        · subst e
          simp only [gI_sI, gI_sR, gI_sN, gI_sCp, gI_sB, gR_sI, gR_sR, gR_sN, gR_sCp, gR_sB, gN_sI, gN_sR, gN_sN, gN_sCp, gN_sB, ↓reduceIte, and_true, true_and, and_false, false_and, and_self, or_true, true_or, or_false, false_or, or_self, Nat.reduceEqDiff, Int.reduceNeg, ne_eq, not_true_eq_false, not_false_eq_true, Int.toNat_natCast, reduceCtorEq, i10, i01, implies_true, true_implies, false_implies, g_t (c := True) trivial]
          obtain ⟨a1, a2, a3, a4, a5, a6, a7, a8, a9, a10⟩ := q'
          exact ⟨a1, a2, a3, a4, a5, a6, a7, a8, by omega, a10⟩
        · simp only [gI_sI, gI_sR, gI_sN, gI_sCp, gI_sB, gR_sI, gR_sR, gR_sN, gR_sCp, gR_sB, gN_sI, gN_sR, gN_sN, gN_sCp, gN_sB, ↓reduceIte, and_true, true_and, and_false, false_and, and_self, or_true, true_or, or_false, false_or, or_self, Nat.reduceEqDiff, Int.reduceNeg, ne_eq, not_true_eq_false, not_false_eq_true, Int.toNat_natCast, reduceCtorEq, i10, i01, implies_true, true_implies, false_implies, g_t (c := True) trivial, e]
          exact q'
      simp only [if_pos hy, if_neg (nn hy), Int.reduceEq, ↓reduceIte, q.2.2.2.2.2.2.2.2.1.1]
      have x01 : x3 = 0 ∨ x3 = 1 := by omega
      rcases q.2.2.2.2.2.2.2.2.1.2 with z | z <;> rcases x01 with rfl | rfl <;> simp only [z, Int.reduceEq, ↓reduceIte] <;> exact ⟨_, _, _, rfl, rfl, key⟩
    · simp only [if_neg hy, if_pos hy, ↓reduceIte]
      exact ⟨_, _, _, rfl, rfl, h⟩
  · simp only [if_neg e2, cl_some, ↓reduceIte]
    exact ⟨_, _, _, rfl, rfl, h⟩
end JO
