/-! ===== the small calls ===== -/
section SM
variable {X M : zS}
/-- what only reads -/
theorem rd {α : Type} {a b : Option (α × zS)} (h : zR X M) (e : ∃ r, a = some (r, X) ∧ b = some (r, M)) : ∃ r X' M', a = some (r, X') ∧ b = some (r, M') ∧ zR X' M' := by
  obtain ⟨r, e1, e2⟩ := e
  exact ⟨r, X, M, e1, e2, h⟩
theorem P_order (h : zR X M) {nf : Nat} (hnf : 1000 ≤ nf) (x1 : Int) (h1 : zin x1) : ∃ r X' M', fX10_order X 0 x1 = some (r, X') ∧ fX11_order M 0 x1 = some (r, M') ∧ zR X' M' := by
  obtain ⟨P, C, K, hr⟩ := id h
  obtain ⟨⟨hX, hM, hN⟩, hS, hF, hB, hP, hL, hC, hK, hD, hZ⟩ := id hr
  unfold fX10_order fX11_order
  simp only [within_eq, in_eq, nm_eq, up_eq, cl_some, ob_some, oe_some, oe_none, ob_none, i10]
  by_cases hx : 0 ≤ x1 ∧ x1 ≤ 2
  · have key : zR (sI X 0 0 14 x1) (sI M 64 0 38 x1) := by
      refine ⟨P, C, K, ⟨⟨hX.cg rfl (by repeat first | exact .rf | refine eqS_sI rfl ?_ | refine eqS_sR rfl ?_ | refine eqS_sB (fun _ => rfl) ?_ | refine eqS_sN (fun _ => rfl) ?_), hM.cg rfl (by repeat first | exact .rf | refine eqS_sI rfl ?_ | refine eqS_sR rfl ?_ | refine eqS_sB (fun _ => rfl) ?_ | refine eqS_sN (fun _ => rfl) ?_), hN.cg (fun _ => rfl) (by repeat first | exact .rf | refine eqS_sI rfl ?_ | refine eqS_sR rfl ?_ | refine eqS_sB (fun _ => rfl) ?_ | refine eqS_sN (fun _ => rfl) ?_) (by repeat first | exact .rf | refine eqS_sI rfl ?_ | refine eqS_sR rfl ?_ | refine eqS_sB (fun _ => rfl) ?_ | refine eqS_sN (fun _ => rfl) ?_)⟩, ?_, hF.cg (by repeat first | exact .rf | refine eqS_sI rfl ?_ | refine eqS_sR rfl ?_ | refine eqS_sB (fun _ => rfl) ?_ | refine eqS_sN (fun _ => rfl) ?_) (by repeat first | exact .rf | refine eqS_sI rfl ?_ | refine eqS_sR rfl ?_ | refine eqS_sB (fun _ => rfl) ?_ | refine eqS_sN (fun _ => rfl) ?_), hB.cg (by repeat first | exact .rf | refine eqS_sI rfl ?_ | refine eqS_sR rfl ?_ | refine eqS_sB (fun _ => rfl) ?_ | refine eqS_sN (fun _ => rfl) ?_) (by repeat first | exact .rf | refine eqS_sI rfl ?_ | refine eqS_sR rfl ?_ | refine eqS_sB (fun _ => rfl) ?_ | refine eqS_sN (fun _ => rfl) ?_), fun p' hp' => (hP p' hp').cg (by repeat first | exact .rf | refine eqS_sI rfl ?_ | refine eqS_sR rfl ?_ | refine eqS_sB (fun _ => rfl) ?_ | refine eqS_sN (fun _ => rfl) ?_) (by repeat first | exact .rf | refine eqS_sI rfl ?_ | refine eqS_sR rfl ?_ | refine eqS_sB (fun _ => rfl) ?_ | refine eqS_sN (fun _ => rfl) ?_), fun p' hp' => (hL p' hp').cg (by repeat first | exact .rf | refine eqS_sI rfl ?_ | refine eqS_sR rfl ?_ | refine eqS_sB (fun _ => rfl) ?_ | refine eqS_sN (fun _ => rfl) ?_) (by repeat first | exact .rf | refine eqS_sI rfl ?_ | refine eqS_sR rfl ?_ | refine eqS_sB (fun _ => rfl) ?_ | refine eqS_sN (fun _ => rfl) ?_), fun c' hc' => (hC c' hc').cg (by repeat first | exact .rf | refine eqS_sI rfl ?_ | refine eqS_sR rfl ?_ | refine eqS_sB (fun _ => rfl) ?_ | refine eqS_sN (fun _ => rfl) ?_) (fun _ _ => rfl) (by repeat first | exact .rf | refine eqS_sI rfl ?_ | refine eqS_sR rfl ?_ | refine eqS_sB (fun _ => rfl) ?_ | refine eqS_sN (fun _ => rfl) ?_) (Int.le_refl _), fun k' hk' => (hK k' hk').cg (by repeat first | exact .rf | refine eqS_sI rfl ?_ | refine eqS_sR rfl ?_ | refine eqS_sB (fun _ => rfl) ?_ | refine eqS_sN (fun _ => rfl) ?_) (by repeat first | exact .rf | refine eqS_sI rfl ?_ | refine eqS_sR rfl ?_ | refine eqS_sB (fun _ => rfl) ?_ | refine eqS_sN (fun _ => rfl) ?_), hD.cg (by repeat first | exact .rf | refine eqS_sI rfl ?_ | refine eqS_sR rfl ?_ | refine eqS_sB (fun _ => rfl) ?_ | refine eqS_sN (fun _ => rfl) ?_), (by repeat first | exact hZ | refine RZ.sI (by first | rfl | (simp [zZ]; omega)) ?_)⟩⟩
      unfold RS at hS ⊢
      simp only [gI_sI, gI_sR, gI_sN, gI_sCp, gI_sB, gR_sI, gR_sR, gR_sN, gR_sCp, gR_sB, gN_sI, gN_sR, gN_sN, gN_sCp, gN_sB, ↓reduceIte, and_true, true_and, and_false, false_and, and_self, or_true, true_or, or_false, false_or, or_self, Nat.reduceEqDiff, Int.reduceNeg, ne_eq, not_true_eq_false, not_false_eq_true, Int.toNat_natCast, reduceCtorEq, i10, i01, implies_true, true_implies, false_implies, g_t (c := True) trivial]
      exact ⟨hS.1, ⟨hx.1, hx.2⟩, hS.2.2⟩
    rw [if_neg (by simpa using hx), if_neg (by simpa using hx), hS.2.1.1]
    exact ⟨_, _, _, rfl, rfl, key⟩
  · rw [if_pos (by simpa using hx), if_pos (by simpa using hx)]
    exact ⟨_, _, _, rfl, rfl, h⟩
theorem P_bells (h : zR X M) {nf : Nat} (hnf : 1000 ≤ nf) : ∃ r X' M', fX10_bells X 0 = some (r, X') ∧ fX11_bells M 0 = some (r, M') ∧ zR X' M' := by
  obtain ⟨P, C, K, hr⟩ := id h
  obtain ⟨⟨hX, hM, hN⟩, hS, hF, hB, -⟩ := id hr
  unfold fX10_bells fX11_bells
  simp only [nm_eq, up_eq, cl_some, ob_some, oe_some, oe_none, ob_none, hX.2.1 0 (by decide), hX.2.1 1 (by decide), hX.2.1 2 (by decide), hX.2.1 3 (by decide), hX.2.1 4 (by decide), hX.2.1 5 (by decide), hX.2.1 6 (by decide), hX.2.1 7 (by decide), hX.2.1 8 (by decide), hX.2.1 9 (by decide), hX.2.2.1.1, hX.2.2.1.2, hX.2.2.2.1.1, hX.2.2.2.1.2, hX.2.2.2.2.1, hX.2.2.2.2.2.1.1, hX.2.2.2.2.2.1.2.1, hX.2.2.2.2.2.1.2.2, hX.2.2.2.2.2.2.1.1, hX.2.2.2.2.2.2.1.2.1, hX.2.2.2.2.2.2.1.2.2.1, hX.2.2.2.2.2.2.1.2.2.2.1, hX.2.2.2.2.2.2.1.2.2.2.2.1, hX.2.2.2.2.2.2.1.2.2.2.2.2.1, hX.2.2.2.2.2.2.1.2.2.2.2.2.2]
  exact ⟨_, _, _, rfl, by rw [hB.2.1.1], P, C, K, hr⟩
theorem P_about (h : zR X M) {nf : Nat} (hnf : 1000 ≤ nf) (x1 x2 : Int) (h1 : zin x1) (h2 : zin x2) : ∃ r X' M', fX10_about X 0 x1 x2 = some (r, X') ∧ fX11_about M 0 x1 x2 = some (r, M') ∧ zR X' M' := by
  obtain ⟨P, C, K, hr⟩ := id h
  obtain ⟨⟨hX, hM, hN⟩, hS, hF, hB, hP, -⟩ := id hr
  unfold fX10_about fX11_about
  refine rd h ?_
  rcases idx0 x1 P with hx | ⟨p, hp, rfl⟩
  · simp only [findPost_out hr hx, isPost_eq hr, nm_eq, up_eq, cl_some, ob_some, oe_some, oe_none, ob_none, i10]
    rw [if_pos (by omega)]
    exact ⟨_, rfl, rfl⟩
  · have q := hP p hp
    have hg : 0 ≤ (p : Int) ∧ (p : Int) < 16 := by have := hN.1; omega
    simp only [findPost_in hr hp, isPost_eq hr, within_eq, g_t hg, nm_eq, up_eq, cl_some, ob_some, oe_some, oe_none, ob_none, i10, hM.2 1 rfl, hM.2 2 rfl, hM.2 3 rfl, hM.2 4 rfl, hM.2 5 rfl, hM.2 6 rfl, hM.2 7 rfl, hM.2 8 rfl, hM.2 9 rfl, hM.2 10 rfl, hM.2 11 rfl, hM.2 12 rfl, hM.2 15 rfl, hM.2 16 rfl, hM.2 17 rfl, hM.2 18 rfl, hM.2 19 rfl, hM.2 20 rfl, hM.2 21 rfl, hM.2 22 rfl, hM.2 23 rfl, hM.2 24 rfl, hM.2 25 rfl, hM.2 26 rfl, hM.2 29 rfl, hM.2 30 rfl, hM.2 31 rfl, hM.2 32 rfl, hM.2 33 rfl, hM.2 35 rfl, hM.2 36 rfl, hM.2 37 rfl, hM.2 40 rfl, hM.2 41 rfl, hM.2 42 rfl, hM.2 43 rfl, hM.2 44 rfl, hM.2 45 rfl, hM.2 49 rfl, hM.2 50 rfl, hM.2 51 rfl, hM.2 53 rfl, hM.2 56 rfl, hM.2 58 rfl, Int.toNat_natCast]
    rw [if_neg (by omega : ¬ ¬ (0 ≤ (p : Int) ∧ (p : Int) < P))]
    obtain ⟨⟨q1, q2, -, -, -, -, q3⟩, q4, q5, ⟨q6, q7, q8⟩, ⟨q9, q10⟩, ⟨q11, q12⟩, -⟩ := q
    rw [q3, q6, q7, q8, q9, q11]
    by_cases h0 : p = 0
    · subst h0
      rw [(q4 rfl).1, (q4 rfl).2]
      simp only [ox, nm_eq, up_eq, cl_some, ob_some, oe_some, oe_none, ob_none]
      by_cases e0 : x2 = 0
      · subst e0; simp [h]
      by_cases e1 : x2 = 1
      · subst e1; simp [h]
      by_cases e2 : x2 = 2
      · subst e2; simp [h]
      by_cases e3 : x2 = 3
      · subst e3; simp [h]
      by_cases e4 : x2 = 4
      · subst e4; simp [h]
      by_cases e5 : x2 = 5
      · subst e5; simp [h]
      rw [if_pos (by omega)]
      simp [e0, e1, e2, e3, e4, e5]
    · have q13 := q5 (by omega)
      have q14 : gI M 67 0 p = ((gI M 67 0 p).toNat : Int) := by omega
      have q15 := hP (gI M 67 0 p).toNat (by omega)
      have e9 : ox (gI M 67 0 p) = some (gI M 67 0 p).toNat := by unfold ox; rw [if_neg (by omega)]
      rw [e9]
      simp only [nm_eq, up_eq, cl_some, ob_some, oe_some, oe_none, ob_none, q15.1.2.1]
      have hp0 : ¬ (p : Int) = 0 := by omega
      have hp1 : ¬ p = 0 := h0
      rw [q14]
      simp only [Int.toNat_natCast]
      by_cases e0 : x2 = 0
      · subst e0; simp [hp0, hp1]
      by_cases e1 : x2 = 1
      · subst e1; simp [hp0, hp1]
      by_cases e2 : x2 = 2
      · subst e2; simp [hp0, hp1]
      by_cases e3 : x2 = 3
      · subst e3; simp [hp0, hp1]
      by_cases e4 : x2 = 4
      · subst e4; rcases q10 with q10 | q10 <;> simp [hp0, hp1, q10]
      by_cases e5 : x2 = 5
      · subst e5; rcases q12 with q12 | q12 <;> simp [hp0, hp1, q12]
      rw [if_pos (by omega)]
      simp [e0, e1, e2, e3, e4, e5]
theorem P_cord (h : zR X M) {nf : Nat} (hnf : 1000 ≤ nf) (x1 x2 : Int) (h1 : zin x1) (h2 : x2 = 0 ∨ x2 = 1) : ∃ r X' M', fX10_cord X 0 x1 x2 = some (r, X') ∧ fX11_cord M 0 x1 x2 = some (r, M') ∧ zR X' M' := by
  obtain ⟨P, C, K, hr⟩ := id h
  obtain ⟨⟨hX, hM, hN⟩, hS, hF, hB, hP, hL, hC, hK, hD, hZ⟩ := id hr
  unfold fX10_cord fX11_cord
  rcases idx1 x1 P with hx | ⟨p, hp0, hp, rfl⟩
  · simp only [findWire_out hr hx, isWire_eq hr, nm_eq, up_eq, cl_some, ob_some, oe_some, oe_none, ob_none, i10]
    rw [if_pos (by omega)]
    exact ⟨_, _, _, rfl, rfl, P, C, K, hr⟩
  · have q := hP p hp
    have hg : 0 ≤ (p : Int) ∧ (p : Int) < 16 := by have := hN.1; omega
    simp only [findWire_in hr hp0 hp, isWire_eq hr, g_t hg, g_t h2, nm_eq, up_eq, cl_some, ob_some, oe_some, oe_none, ob_none, i10, hM.2 1 rfl, hM.2 2 rfl, hM.2 3 rfl, hM.2 4 rfl, hM.2 5 rfl, hM.2 6 rfl, hM.2 7 rfl, hM.2 8 rfl, hM.2 9 rfl, hM.2 10 rfl, hM.2 11 rfl, hM.2 12 rfl, hM.2 15 rfl, hM.2 16 rfl, hM.2 17 rfl, hM.2 18 rfl, hM.2 19 rfl, hM.2 20 rfl, hM.2 21 rfl, hM.2 22 rfl, hM.2 23 rfl, hM.2 24 rfl, hM.2 25 rfl, hM.2 26 rfl, hM.2 29 rfl, hM.2 30 rfl, hM.2 31 rfl, hM.2 32 rfl, hM.2 33 rfl, hM.2 35 rfl, hM.2 36 rfl, hM.2 37 rfl, hM.2 40 rfl, hM.2 41 rfl, hM.2 42 rfl, hM.2 43 rfl, hM.2 44 rfl, hM.2 45 rfl, hM.2 49 rfl, hM.2 50 rfl, hM.2 51 rfl, hM.2 53 rfl, hM.2 56 rfl, hM.2 58 rfl, Int.toNat_natCast]
    rw [if_neg (by omega : ¬ ¬ (1 ≤ (p : Int) ∧ (p : Int) < P))]
    have key : ∀ v w : Int, v = 1 - w → (w = 0 ∨ w = 1) → zR (sI X 8 p 6 v) (sI M 72 0 p w) := by
      intro v w hv hw
      refine ⟨P, C, K, ⟨⟨hX.cg rfl (by repeat first | exact .rf | refine eqS_sI rfl ?_ | refine eqS_sR rfl ?_ | refine eqS_sB (fun _ => rfl) ?_ | refine eqS_sN (fun _ => rfl) ?_), hM.cg rfl (by repeat first | exact .rf | refine eqS_sI rfl ?_ | refine eqS_sR rfl ?_ | refine eqS_sB (fun _ => rfl) ?_ | refine eqS_sN (fun _ => rfl) ?_), hN.cg (fun _ => rfl) (by repeat first | exact .rf | refine eqS_sI rfl ?_ | refine eqS_sR rfl ?_ | refine eqS_sB (fun _ => rfl) ?_ | refine eqS_sN (fun _ => rfl) ?_) (by repeat first | exact .rf | refine eqS_sI rfl ?_ | refine eqS_sR rfl ?_ | refine eqS_sB (fun _ => rfl) ?_ | refine eqS_sN (fun _ => rfl) ?_)⟩, hS.cg (by repeat first | exact .rf | refine eqS_sI rfl ?_ | refine eqS_sR rfl ?_ | refine eqS_sB (fun _ => rfl) ?_ | refine eqS_sN (fun _ => rfl) ?_) (fun _ _ => rfl) (by repeat first | exact .rf | refine eqS_sI rfl ?_ | refine eqS_sR rfl ?_ | refine eqS_sB (fun _ => rfl) ?_ | refine eqS_sN (fun _ => rfl) ?_), hF.cg (by repeat first | exact .rf | refine eqS_sI rfl ?_ | refine eqS_sR rfl ?_ | refine eqS_sB (fun _ => rfl) ?_ | refine eqS_sN (fun _ => rfl) ?_) (by repeat first | exact .rf | refine eqS_sI rfl ?_ | refine eqS_sR rfl ?_ | refine eqS_sB (fun _ => rfl) ?_ | refine eqS_sN (fun _ => rfl) ?_), hB.cg (by repeat first | exact .rf | refine eqS_sI rfl ?_ | refine eqS_sR rfl ?_ | refine eqS_sB (fun _ => rfl) ?_ | refine eqS_sN (fun _ => rfl) ?_) (by repeat first | exact .rf | refine eqS_sI rfl ?_ | refine eqS_sR rfl ?_ | refine eqS_sB (fun _ => rfl) ?_ | refine eqS_sN (fun _ => rfl) ?_), ?_, fun p' hp' => (hL p' hp').cg (by repeat first | exact .rf | refine eqS_sI rfl ?_ | refine eqS_sR rfl ?_ | refine eqS_sB (fun _ => rfl) ?_ | refine eqS_sN (fun _ => rfl) ?_) (by repeat first | exact .rf | refine eqS_sI rfl ?_ | refine eqS_sR rfl ?_ | refine eqS_sB (fun _ => rfl) ?_ | refine eqS_sN (fun _ => rfl) ?_), fun c' hc' => (hC c' hc').cg (by repeat first | exact .rf | refine eqS_sI rfl ?_ | refine eqS_sR rfl ?_ | refine eqS_sB (fun _ => rfl) ?_ | refine eqS_sN (fun _ => rfl) ?_) (fun _ _ => rfl) (by repeat first | exact .rf | refine eqS_sI rfl ?_ | refine eqS_sR rfl ?_ | refine eqS_sB (fun _ => rfl) ?_ | refine eqS_sN (fun _ => rfl) ?_) (Int.le_refl _), fun k' hk' => (hK k' hk').cg (by repeat first | exact .rf | refine eqS_sI rfl ?_ | refine eqS_sR rfl ?_ | refine eqS_sB (fun _ => rfl) ?_ | refine eqS_sN (fun _ => rfl) ?_) (by repeat first | exact .rf | refine eqS_sI rfl ?_ | refine eqS_sR rfl ?_ | refine eqS_sB (fun _ => rfl) ?_ | refine eqS_sN (fun _ => rfl) ?_), hD.cg (by repeat first | exact .rf | refine eqS_sI rfl ?_ | refine eqS_sR rfl ?_ | refine eqS_sB (fun _ => rfl) ?_ | refine eqS_sN (fun _ => rfl) ?_), (by repeat first | exact hZ | refine RZ.sI (by first | rfl | (simp [zZ]; omega)) ?_)⟩⟩
      intro p' hp'
      have q' := hP p' hp'
      by_cases e : p' = p
      · subst e
        unfold RP at q' ⊢
        simp only [gI_sI, gI_sR, gI_sN, gI_sCp, gI_sB, gR_sI, gR_sR, gR_sN, gR_sCp, gR_sB, gN_sI, gN_sR, gN_sN, gN_sCp, gN_sB, ↓reduceIte, and_true, true_and, and_false, false_and, and_self, or_true, true_or, or_false, false_or, or_self, Nat.reduceEqDiff, Int.reduceNeg, ne_eq, not_true_eq_false, not_false_eq_true, Int.toNat_natCast, reduceCtorEq, i10, i01, implies_true, true_implies, false_implies, g_t (c := True) trivial]
        exact ⟨q'.1, q'.2.1, q'.2.2.1, q'.2.2.2.1, q'.2.2.2.2.1, ⟨hv, hw⟩, q'.2.2.2.2.2.2⟩
      · unfold RP at q' ⊢
        simp only [gI_sI, gI_sR, gI_sN, gI_sCp, gI_sB, gR_sI, gR_sR, gR_sN, gR_sCp, gR_sB, gN_sI, gN_sR, gN_sN, gN_sCp, gN_sB, ↓reduceIte, and_true, true_and, and_false, false_and, and_self, or_true, true_or, or_false, false_or, or_self, Nat.reduceEqDiff, Int.reduceNeg, ne_eq, not_true_eq_false, not_false_eq_true, Int.toNat_natCast, reduceCtorEq, i10, i01, implies_true, true_implies, false_implies, g_t (c := True) trivial, e]
        exact q'
    obtain ⟨q9, q12⟩ := q.2.2.2.2.2.1
    rw [q9]
    rcases h2 with rfl | rfl <;> rcases q12 with q12 | q12 <;> simp only [q12] <;> exact ⟨_, _, _, rfl, rfl, key _ _ (by decide) (by decide)⟩
end SM
