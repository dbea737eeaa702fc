/-! ===== coming home, on both sides ===== -/
section HB
variable {P C K : Nat} {D : Int} {X M X' M' : zS}
theorem home_both (hr : RR P C K D X M) {nf : Nat} (hnf : 1000 ≤ nf) {c : Nat} (hc : c < C) (z : gI M 82 0 c = 2 ∨ gI M 82 0 c = 6) (v : Int) (hD1 : D ≤ 60000100) : ∃ X' M', fX10_comeHome nf (sI X 5 c 9 v) 0 (some c) = some ((), X') ∧ fX11_comeHome nf (sI M 109 0 c v) 0 c = some ((), M') ∧ RR P C K (D + 1) X' M' ∧ gI M' 64 0 13 = gI M 64 0 13 := by
  have hr0 := hr
  obtain ⟨⟨hX, hM, hN⟩, hS, hF, hB, hP, hL, hC, hK, hD, hZ⟩ := hr
  obtain ⟨⟨a0, a1, a2, a3⟩, ⟨b1, b2, b3, b4⟩, ⟨c1, c2, c3⟩, d4, d5, d6, d7, d8, d9, d10, d11, d12, d13, d14, d15, d16, d17, d18, d19, d20, d21, d22, d23, d24, d25⟩ := hC c hc
  have h16 := hN.1
  have hs := hS.1
  obtain ⟨h, eh⟩ : ∃ h : Nat, gI M 81 0 c = h := ⟨(gI M 81 0 c).toNat, by omega⟩
  rw [eh] at b1 b2 b3 b4
  simp only [Int.toNat_natCast] at b1 b4
  have hh : h < P := by omega
  have gc : (0 : Int) ≤ (c : Int) ∧ (c : Int) < 24 := by omega
  have gh : (0 : Int) ≤ (h : Int) ∧ (h : Int) < 16 := by omega
  have hc24 : c < 24 := by omega
  obtain ⟨q1, q2, q3, q4, q5, q6, q7, q8, q9, q10, q11, q12, q13, q14, q15, q16⟩ := hP h hh
  have hD95 := (hD.1 h hh).1
  have ew : wS (fun k => gI X 15 (c + 3) k) 6 = wS (fun k => gI M 91 0 (6 * c + k)) 6 := wS_cg fun k hk => (d23 k hk).1
  have wx := worth3 hnf (X := sI X 5 c 9 v) (i := c + 1) (a := c + 3) a3
  have wm := worthOf (M := sI M 109 0 c v) (nf := nf) hM hc24 hnf
  simp only [gI_sI, gI_sR, gI_sN, gI_sCp, gI_sB, gR_sI, gR_sR, gR_sN, gR_sCp, gR_sB, gN_sI, gN_sR, gN_sN, gN_sCp, gN_sB, ↓reduceIte, and_true, true_and, and_false, false_and, and_self, or_true, true_or, or_false, false_or, or_self, Nat.reduceEqDiff, Int.reduceNeg, ne_eq, not_true_eq_false, not_false_eq_true, Int.toNat_natCast, reduceCtorEq, i10, i01, implies_true, true_implies, false_implies, g_t (c := True) trivial] at wx wm
  rw [ew] at wx
  generalize wS (fun k => gI M 91 0 (6 * c + k)) 6 = w at wx wm
  have eb : ∀ Y : zS, gR Y 4 (c + 1) 0 = some (c + 3) → fX3_empty nf Y (c + 1) = some ((), sB Y 15 (c + 3) fun j => if j < 6 then 0 else gI Y 15 (c + 3) j) := fun Y hy => emptyB hnf hy
  have hl : ∀ (κ : zS → Option (Unit × zS)) (N : zS), gR N 64 0 25 = some 0 → fX11_comeHome_L36 κ 0 (c : Int) (h : Int) nf nf N 0 = κ (sB N 91 0 fun j => if 6 * c ≤ j ∧ j < 6 * c + 6 then 0 else gI N 91 0 j) := fun κ N hy => homeL hc24 κ h 6 nf 0 N rfl (by omega) hy
  have ww : wr (gI M 64 0 13 - gI M 90 0 c) = gI M 64 0 13 - gI M 90 0 c := wr_id (by unfold zin; omega)
  have w95 : wr (gI M 95 0 h + 1) = gI M 95 0 h + 1 := wr_id (by unfold zin; omega)
  unfold fX10_comeHome fX11_comeHome fX8_handOut fX8_finish fX4_leaveFor
  simp only [nm_eq, up_eq, cl_some, ob_some, oe_some, oe_none, ob_none, a2, wx, wm, gI_sI, gI_sR, gI_sN, gI_sCp, gI_sB, gR_sI, gR_sR, gR_sN, gR_sCp, gR_sB, gN_sI, gN_sR, gN_sN, gN_sCp, gN_sB, ↓reduceIte, and_true, true_and, and_false, false_and, and_self, or_true, true_or, or_false, false_or, or_self, Nat.reduceEqDiff, Int.reduceNeg, ne_eq, not_true_eq_false, not_false_eq_true, Int.toNat_natCast, reduceCtorEq, i10, i01, implies_true, true_implies, false_implies, g_t (c := True) trivial, b1, q1.2.2.2.2.2.1, hS.2.2.2.1, q11.1, q12, q15, q16, a3, eb, d20.1, d22.1, hS.1.1, ww, w95, hM.2 15 rfl, hM.2 16 rfl, hM.2 22 rfl, hM.2 24 rfl, hM.2 25 rfl, hM.2 29 rfl, hM.2 30 rfl, hM.2 31 rfl, hM.2 32 rfl, hM.2 33 rfl, g_t gc, g_t gh, Int.toNat_natCast, eh, hl]
  by_cases s0 : gI M 88 0 c = 0
  · rw [if_pos s0, if_neg (show ¬ 0 < gI M 88 0 c by omega)]
    exact ⟨_, _, rfl, rfl, home_rr0 hr0 hc z eh v _ _, by simp only [gI_sI, gI_sR, gI_sN, gI_sCp, gI_sB, gR_sI, gR_sR, gR_sN, gR_sCp, gR_sB, gN_sI, gN_sR, gN_sN, gN_sCp, gN_sB, ↓reduceIte, and_true, true_and, and_false, false_and, and_self, or_true, true_or, or_false, false_or, or_self, Nat.reduceEqDiff, Int.reduceNeg, ne_eq, not_true_eq_false, not_false_eq_true, Int.toNat_natCast, reduceCtorEq, i10, i01, implies_true, true_implies, false_implies, g_t (c := True) trivial]⟩
  · rw [if_neg s0, if_pos (show 0 < gI M 88 0 c by omega)]
    have gm : ∀ u : Int, imax (gI X 9 h 2) (gI M 64 0 13 - gI M 90 0 c) = (if gI M 95 0 h = 0 then gI M 64 0 13 - gI M 90 0 c else if gI M 97 0 h < gI M 64 0 13 - gI M 90 0 c then gI M 64 0 13 - gI M 90 0 c else gI M 97 0 h) := by
      intro _
      rw [q13]
      unfold imax
      by_cases e : gI M 95 0 h = 0
      · rw [if_pos e, if_pos e, if_pos (by omega)]
      · rw [if_neg e, if_neg e]
    rw [gm 0]
    by_cases e : gI M 95 0 h = 0
    · simp only [e, ↓reduceIte, and_true, true_and, and_false, false_and, and_self, or_true, true_or, or_false, false_or, or_self, Nat.reduceEqDiff, Int.reduceNeg, ne_eq, not_true_eq_false, not_false_eq_true, Int.toNat_natCast, reduceCtorEq, i10, i01, implies_true, true_implies, false_implies, g_t (c := True) trivial]
      by_cases s3 : gI M 88 0 c = 3
      · simp only [s3, Int.reduceEq, b1, nm_eq, up_eq, cl_some, ob_some, oe_some, oe_none, ob_none, gI_sI, gI_sR, gI_sN, gI_sCp, gI_sB, gR_sI, gR_sR, gR_sN, gR_sCp, gR_sB, gN_sI, gN_sR, gN_sN, gN_sCp, gN_sB, ↓reduceIte, and_true, true_and, and_false, false_and, and_self, or_true, true_or, or_false, false_or, or_self, Nat.reduceEqDiff, Int.reduceNeg, ne_eq, not_true_eq_false, not_false_eq_true, Int.toNat_natCast, reduceCtorEq, i10, i01, implies_true, true_implies, false_implies, g_t (c := True) trivial]
        exact ⟨_, _, rfl, rfl, home_rr1 hr0 hc z eh v _ _ _ _ _ _ (by omega) (by omega) (by omega), by simp only [gI_sI, gI_sR, gI_sN, gI_sCp, gI_sB, gR_sI, gR_sR, gR_sN, gR_sCp, gR_sB, gN_sI, gN_sR, gN_sN, gN_sCp, gN_sB, ↓reduceIte, and_true, true_and, and_false, false_and, and_self, or_true, true_or, or_false, false_or, or_self, Nat.reduceEqDiff, Int.reduceNeg, ne_eq, not_true_eq_false, not_false_eq_true, Int.toNat_natCast, reduceCtorEq, i10, i01, implies_true, true_implies, false_implies, g_t (c := True) trivial]⟩
      · simp only [s3, Int.reduceEq, b1, nm_eq, up_eq, cl_some, ob_some, oe_some, oe_none, ob_none, gI_sI, gI_sR, gI_sN, gI_sCp, gI_sB, gR_sI, gR_sR, gR_sN, gR_sCp, gR_sB, gN_sI, gN_sR, gN_sN, gN_sCp, gN_sB, ↓reduceIte, and_true, true_and, and_false, false_and, and_self, or_true, true_or, or_false, false_or, or_self, Nat.reduceEqDiff, Int.reduceNeg, ne_eq, not_true_eq_false, not_false_eq_true, Int.toNat_natCast, reduceCtorEq, i10, i01, implies_true, true_implies, false_implies, g_t (c := True) trivial]
        exact ⟨_, _, rfl, rfl, home_rr1 hr0 hc z eh v _ _ _ _ _ _ (by omega) (by omega) (by omega), by simp only [gI_sI, gI_sR, gI_sN, gI_sCp, gI_sB, gR_sI, gR_sR, gR_sN, gR_sCp, gR_sB, gN_sI, gN_sR, gN_sN, gN_sCp, gN_sB, ↓reduceIte, and_true, true_and, and_false, false_and, and_self, or_true, true_or, or_false, false_or, or_self, Nat.reduceEqDiff, Int.reduceNeg, ne_eq, not_true_eq_false, not_false_eq_true, Int.toNat_natCast, reduceCtorEq, i10, i01, implies_true, true_implies, false_implies, g_t (c := True) trivial]⟩
    · have q14 := q14 (by omega)
      by_cases l : gI M 97 0 h < gI M 64 0 13 - gI M 90 0 c
      · simp only [e, l, ↓reduceIte, and_true, true_and, and_false, false_and, and_self, or_true, true_or, or_false, false_or, or_self, Nat.reduceEqDiff, Int.reduceNeg, ne_eq, not_true_eq_false, not_false_eq_true, Int.toNat_natCast, reduceCtorEq, i10, i01, implies_true, true_implies, false_implies, g_t (c := True) trivial]
        by_cases s3 : gI M 88 0 c = 3
        · simp only [s3, Int.reduceEq, b1, nm_eq, up_eq, cl_some, ob_some, oe_some, oe_none, ob_none, gI_sI, gI_sR, gI_sN, gI_sCp, gI_sB, gR_sI, gR_sR, gR_sN, gR_sCp, gR_sB, gN_sI, gN_sR, gN_sN, gN_sCp, gN_sB, ↓reduceIte, and_true, true_and, and_false, false_and, and_self, or_true, true_or, or_false, false_or, or_self, Nat.reduceEqDiff, Int.reduceNeg, ne_eq, not_true_eq_false, not_false_eq_true, Int.toNat_natCast, reduceCtorEq, i10, i01, implies_true, true_implies, false_implies, g_t (c := True) trivial]
          exact ⟨_, _, rfl, rfl, home_rr1 hr0 hc z eh v _ _ _ _ _ _ (by omega) (by omega) (by omega), by simp only [gI_sI, gI_sR, gI_sN, gI_sCp, gI_sB, gR_sI, gR_sR, gR_sN, gR_sCp, gR_sB, gN_sI, gN_sR, gN_sN, gN_sCp, gN_sB, ↓reduceIte, and_true, true_and, and_false, false_and, and_self, or_true, true_or, or_false, false_or, or_self, Nat.reduceEqDiff, Int.reduceNeg, ne_eq, not_true_eq_false, not_false_eq_true, Int.toNat_natCast, reduceCtorEq, i10, i01, implies_true, true_implies, false_implies, g_t (c := True) trivial]⟩
        · simp only [s3, Int.reduceEq, b1, nm_eq, up_eq, cl_some, ob_some, oe_some, oe_none, ob_none, gI_sI, gI_sR, gI_sN, gI_sCp, gI_sB, gR_sI, gR_sR, gR_sN, gR_sCp, gR_sB, gN_sI, gN_sR, gN_sN, gN_sCp, gN_sB, ↓reduceIte, and_true, true_and, and_false, false_and, and_self, or_true, true_or, or_false, false_or, or_self, Nat.reduceEqDiff, Int.reduceNeg, ne_eq, not_true_eq_false, not_false_eq_true, Int.toNat_natCast, reduceCtorEq, i10, i01, implies_true, true_implies, false_implies, g_t (c := True) trivial]
          exact ⟨_, _, rfl, rfl, home_rr1 hr0 hc z eh v _ _ _ _ _ _ (by omega) (by omega) (by omega), by simp only [gI_sI, gI_sR, gI_sN, gI_sCp, gI_sB, gR_sI, gR_sR, gR_sN, gR_sCp, gR_sB, gN_sI, gN_sR, gN_sN, gN_sCp, gN_sB, ↓reduceIte, and_true, true_and, and_false, false_and, and_self, or_true, true_or, or_false, false_or, or_self, Nat.reduceEqDiff, Int.reduceNeg, ne_eq, not_true_eq_false, not_false_eq_true, Int.toNat_natCast, reduceCtorEq, i10, i01, implies_true, true_implies, false_implies, g_t (c := True) trivial]⟩
      · simp only [e, l, ↓reduceIte, and_true, true_and, and_false, false_and, and_self, or_true, true_or, or_false, false_or, or_self, Nat.reduceEqDiff, Int.reduceNeg, ne_eq, not_true_eq_false, not_false_eq_true, Int.toNat_natCast, reduceCtorEq, i10, i01, implies_true, true_implies, false_implies, g_t (c := True) trivial]
        by_cases s3 : gI M 88 0 c = 3
        · simp only [s3, Int.reduceEq, b1, nm_eq, up_eq, cl_some, ob_some, oe_some, oe_none, ob_none, gI_sI, gI_sR, gI_sN, gI_sCp, gI_sB, gR_sI, gR_sR, gR_sN, gR_sCp, gR_sB, gN_sI, gN_sR, gN_sN, gN_sCp, gN_sB, ↓reduceIte, and_true, true_and, and_false, false_and, and_self, or_true, true_or, or_false, false_or, or_self, Nat.reduceEqDiff, Int.reduceNeg, ne_eq, not_true_eq_false, not_false_eq_true, Int.toNat_natCast, reduceCtorEq, i10, i01, implies_true, true_implies, false_implies, g_t (c := True) trivial]
          exact ⟨_, _, rfl, rfl, home_rr1 hr0 hc z eh v _ _ _ _ _ _ (by omega) (by omega) (by omega), by simp only [gI_sI, gI_sR, gI_sN, gI_sCp, gI_sB, gR_sI, gR_sR, gR_sN, gR_sCp, gR_sB, gN_sI, gN_sR, gN_sN, gN_sCp, gN_sB, ↓reduceIte, and_true, true_and, and_false, false_and, and_self, or_true, true_or, or_false, false_or, or_self, Nat.reduceEqDiff, Int.reduceNeg, ne_eq, not_true_eq_false, not_false_eq_true, Int.toNat_natCast, reduceCtorEq, i10, i01, implies_true, true_implies, false_implies, g_t (c := True) trivial]⟩
        · simp only [s3, Int.reduceEq, b1, nm_eq, up_eq, cl_some, ob_some, oe_some, oe_none, ob_none, gI_sI, gI_sR, gI_sN, gI_sCp, gI_sB, gR_sI, gR_sR, gR_sN, gR_sCp, gR_sB, gN_sI, gN_sR, gN_sN, gN_sCp, gN_sB, ↓reduceIte, and_true, true_and, and_false, false_and, and_self, or_true, true_or, or_false, false_or, or_self, Nat.reduceEqDiff, Int.reduceNeg, ne_eq, not_true_eq_false, not_false_eq_true, Int.toNat_natCast, reduceCtorEq, i10, i01, implies_true, true_implies, false_implies, g_t (c := True) trivial]
          exact ⟨_, _, rfl, rfl, home_rr1 hr0 hc z eh v _ _ _ _ _ _ (by omega) (by omega) (by omega), by simp only [gI_sI, gI_sR, gI_sN, gI_sCp, gI_sB, gR_sI, gR_sR, gR_sN, gR_sCp, gR_sB, gN_sI, gN_sR, gN_sN, gN_sCp, gN_sB, ↓reduceIte, and_true, true_and, and_false, false_and, and_self, or_true, true_or, or_false, false_or, or_self, Nat.reduceEqDiff, Int.reduceNeg, ne_eq, not_true_eq_false, not_false_eq_true, Int.toNat_natCast, reduceCtorEq, i10, i01, implies_true, true_implies, false_implies, g_t (c := True) trivial]⟩
end HB
