/-! ===== a cup comes to the end of a wire ===== -/
theorem md_s (a w : Int) (h : 0 ≤ a) (h2 : 2 ≤ w) (h9 : w ≤ 9) : (a + 1) % w = if a % w + 1 < w then a % w + 1 else 0 := by
  have : w = 2 ∨ w = 3 ∨ w = 4 ∨ w = 5 ∨ w = 6 ∨ w = 7 ∨ w = 8 ∨ w = 9 := by omega
  rcases this with rfl | rfl | rfl | rfl | rfl | rfl | rfl | rfl <;> split <;> omega
theorem md_b (a w : Int) (h : 0 ≤ a) (h2 : 2 ≤ w) (h9 : w ≤ 9) : 0 ≤ a % w ∧ a % w < w := ⟨Int.emod_nonneg _ (by omega), Int.emod_lt_of_pos _ (by omega)⟩
theorem sI_self {σ : zS} {t i k : Nat} {v : Int} (h : v = gI σ t i k) : sI σ t i k v = σ := by
  refine zS_ext (fun _ => rfl) (fun t' i' k' => ?_) (fun _ _ _ => rfl)
  rw [gI_sI]
  by_cases c : t' = t ∧ i' = i ∧ k' = k
  · rw [if_pos c, h, c.1, c.2.1, c.2.2]
  · rw [if_neg c]
theorem sI_sI {σ : zS} {t i k : Nat} {v w : Int} : sI (sI σ t i k v) t i k w = sI σ t i k w := by
  refine zS_ext (fun _ => rfl) (fun t' i' k' => ?_) (fun _ _ _ => rfl)
  rw [gI_sI, gI_sI, gI_sI]
  by_cases c : t' = t ∧ i' = i ∧ k' = k
  · rw [if_pos c, if_pos c]
  · rw [if_neg c, if_neg c, if_neg c]
section CM
variable {P C K : Nat} {D : Int} {X M : zS}
theorem wear_eq {Y : zS} {p : Nat} {a w : Int} (h11 : gI Y 8 p 11 = w) (hw : w = 0 ∨ (2 ≤ w ∧ w ≤ 9)) (ha : 0 ≤ a) (h12 : w ≠ 0 → gI Y 8 p 12 = a % w) : ∃ y t : Int, fX7_wearsThrough Y p = some (t, sI Y 8 p 12 y) ∧ (w ≠ 0 → y = (a + 1) % w) ∧ (¬ t = 0 ↔ (0 < w ∧ (a + 1) % w = 0)) := by
  unfold fX7_wearsThrough
  by_cases w0 : w = 0
  · refine ⟨gI Y 8 p 12, 0, ?_, fun q => absurd w0 q, by omega⟩
    rw [h11, if_pos w0, sI_self rfl]
  · have h12 := h12 w0
    have m := md_s a w ha (by omega) (by omega)
    have b := md_b a w ha (by omega) (by omega)
    have e : wr (a % w + 1) = a % w + 1 := wr_id (by unfold zin; omega)
    simp only [nm_eq, up_eq, cl_some, ob_some, oe_some, oe_none, ob_none, gI_sI, gI_sR, gI_sN, gI_sCp, gI_sB, gR_sI, gR_sR, gR_sN, gR_sCp, gR_sB, gN_sI, gN_sR, gN_sN, gN_sCp, gN_sB, ↓reduceIte, and_true, true_and, and_false, false_and, and_self, or_true, true_or, or_false, false_or, or_self, Nat.reduceEqDiff, Int.reduceNeg, ne_eq, not_true_eq_false, not_false_eq_true, Int.toNat_natCast, reduceCtorEq, i10, i01, implies_true, true_implies, false_implies, g_t (c := True) trivial, h11, h12, e]
    rw [if_neg w0]
    by_cases l : a % w + 1 < w
    · rw [if_pos l] at m ⊢
      exact ⟨_, _, rfl, fun _ => m.symm, by omega⟩
    · rw [if_neg l] at m ⊢
      refine ⟨0, 1, by rw [sI_sI], fun _ => m.symm, by omega⟩
theorem up_rr (hr : RR P C K D X M) {c p u : Nat} (hc : c < C) (z : gI M 82 0 c = 2) (z3 : gI M 83 0 c = p) (e67 : gI M 67 0 p = u) (u0 : 0 < u) (u1 : gI M 68 0 u = 1) (hp0 : 0 < p) (hpP : p < P) (huP : u < P) (v : Int) : RR P C K D
    (sR (sI (sI (sR (sR (sR (sR (sR (sI (sI X 5 c 9 v) 5 c 3 1) 5 c 4 none) 5 c 6 none) 5 c 7 none) 5 c 8 none) 5 c 4 (some u)) 5 c 5 1) 5 c 10 (gI M 64 0 13)) 5 c 6 (some p))
    (sI (sI (sI (sI (sI (sI (sI M 109 0 c v) 82 0 c 1) 83 0 c u) 84 0 c (gI M 64 0 13)) 85 0 c 1) 86 0 c (-9)) 87 0 c p) := by
  have nk := nk_of hr (c := c) (by omega)
  have hr0 := hr
  obtain ⟨⟨hX, hM, hN⟩, hS, hF, hB, hP, hL, hC, hK, hD, hZ⟩ := hr
  obtain ⟨⟨a0, a1, a2, a3⟩, ⟨b1, b2, b3, b4⟩, ⟨c1, c2, c3⟩, d4, d5, d6, d7, d8, d9, d10, d11, d12, d13, d14, d15, d16, d17, d18, d19, d20, d21, d22, d23, d24, d25⟩ := hC c hc
  have hs := hS.1
  refine hr0.cup hc (fun _ => by simp only [gI_sI, gI_sR, gI_sN, gI_sCp, gI_sB, gR_sI, gR_sR, gR_sN, gR_sCp, gR_sB, gN_sI, gN_sR, gN_sN, gN_sCp, gN_sB]) (fun _ => by simp only [gI_sI, gI_sR, gI_sN, gI_sCp, gI_sB, gR_sI, gR_sR, gR_sN, gR_sCp, gR_sB, gN_sI, gN_sR, gN_sN, gN_sCp, gN_sB]) (by repeat first | refine eqS_sI rfl ?_ | refine eqS_sR rfl ?_ | refine eqS_sB (fun _ => rfl) ?_ | refine eqS_sN (fun _ => rfl) ?_ | exact .rf) (fun i k hi => ?_) (fun _ _ _ => by simp only [gI_sI, gI_sR, gI_sN, gI_sCp, gI_sB, gR_sI, gR_sR, gR_sN, gR_sCp, gR_sB, gN_sI, gN_sR, gN_sN, gN_sCp, gN_sB, ↓reduceIte, and_true, true_and, and_false, false_and, and_self, or_true, true_or, or_false, false_or, or_self, Nat.reduceEqDiff, Int.reduceNeg, ne_eq, not_true_eq_false, not_false_eq_true, Int.toNat_natCast, reduceCtorEq, i10, i01, implies_true, true_implies, false_implies, g_t (c := True) trivial]) (by repeat first | refine eqS_sI rfl ?_ | refine eqS_sR rfl ?_ | refine eqS_sB (fun _ => rfl) ?_ | refine eqS_sN (fun _ => rfl) ?_ | exact .rf) (fun t ht i hi => ?_) (fun _ _ => by simp only [gI_sI, gI_sR, gI_sN, gI_sCp, gI_sB, gR_sI, gR_sR, gR_sN, gR_sCp, gR_sB, gN_sI, gN_sR, gN_sN, gN_sCp, gN_sB, ↓reduceIte, and_true, true_and, and_false, false_and, and_self, or_true, true_or, or_false, false_or, or_self, Nat.reduceEqDiff, Int.reduceNeg, ne_eq, not_true_eq_false, not_false_eq_true, Int.toNat_natCast, reduceCtorEq, i10, i01, implies_true, true_implies, false_implies, g_t (c := True) trivial]) (hS.cg (by repeat first | refine eqS_sI rfl ?_ | refine eqS_sR rfl ?_ | refine eqS_sB (fun _ => rfl) ?_ | refine eqS_sN (fun _ => rfl) ?_ | exact .rf) (fun _ _ => by simp only [gI_sI, gI_sR, gI_sN, gI_sCp, gI_sB, gR_sI, gR_sR, gR_sN, gR_sCp, gR_sB, gN_sI, gN_sR, gN_sN, gN_sCp, gN_sB, ↓reduceIte, and_true, true_and, and_false, false_and, and_self, or_true, true_or, or_false, false_or, or_self, Nat.reduceEqDiff, Int.reduceNeg, ne_eq, not_true_eq_false, not_false_eq_true, Int.toNat_natCast, reduceCtorEq, i10, i01, implies_true, true_implies, false_implies, g_t (c := True) trivial]) (by repeat first | refine eqS_sI rfl ?_ | refine eqS_sR rfl ?_ | refine eqS_sB (fun _ => rfl) ?_ | refine eqS_sN (fun _ => rfl) ?_ | exact .rf)) ?_ nk
  · simp only [gI_sI, gI_sR, gI_sN, gI_sCp, gI_sB, gR_sI, gR_sR, gR_sN, gR_sCp, gR_sB, gN_sI, gN_sR, gN_sN, gN_sCp, gN_sB, ↓reduceIte, and_true, true_and, and_false, false_and, and_self, or_true, true_or, or_false, false_or, or_self, Nat.reduceEqDiff, Int.reduceNeg, ne_eq, not_true_eq_false, not_false_eq_true, Int.toNat_natCast, reduceCtorEq, i10, i01, implies_true, true_implies, false_implies, g_t (c := True) trivial, hi]
  · rcases ht with rfl | rfl | rfl | rfl | rfl | rfl | rfl | rfl | rfl | rfl <;> simp only [gI_sI, gI_sR, gI_sN, gI_sCp, gI_sB, gR_sI, gR_sR, gR_sN, gR_sCp, gR_sB, gN_sI, gN_sR, gN_sN, gN_sCp, gN_sB, ↓reduceIte, and_true, true_and, and_false, false_and, and_self, or_true, true_or, or_false, false_or, or_self, Nat.reduceEqDiff, Int.reduceNeg, ne_eq, not_true_eq_false, not_false_eq_true, Int.toNat_natCast, reduceCtorEq, i10, i01, implies_true, true_implies, false_implies, g_t (c := True) trivial, hi]
  · unfold RC
    simp only [gI_sI, gI_sR, gI_sN, gI_sCp, gI_sB, gR_sI, gR_sR, gR_sN, gR_sCp, gR_sB, gN_sI, gN_sR, gN_sN, gN_sCp, gN_sB, ↓reduceIte, and_true, true_and, and_false, false_and, and_self, or_true, true_or, or_false, false_or, or_self, Nat.reduceEqDiff, Int.reduceNeg, ne_eq, not_true_eq_false, not_false_eq_true, Int.toNat_natCast, reduceCtorEq, i10, i01, implies_true, true_implies, false_implies, g_t (c := True) trivial, u1, e67]
    and_intros <;> first | exact True.intro | rfl | assumption | omega | (intro x; first | assumption | omega | (exfalso; omega))
theorem row_rr (hr : RR P C K D X M) {c : Nat} (hc : c < C) (z : gI M 82 0 c = 2) (v : Int) : RR P C K D
    (sI (sR (sR (sR (sR (sI (sI X 5 c 9 v) 5 c 3 3) 5 c 4 none) 5 c 6 none) 5 c 7 none) 5 c 8 none) 5 c 10 (gI M 64 0 13))
    (sI (sI (sI M 109 0 c v) 82 0 c 3) 84 0 c (gI M 64 0 13)) := by
  have nk := nk_of hr (c := c) (by omega)
  have hr0 := hr
  obtain ⟨⟨hX, hM, hN⟩, hS, hF, hB, hP, hL, hC, hK, hD, hZ⟩ := hr
  obtain ⟨⟨a0, a1, a2, a3⟩, ⟨b1, b2, b3, b4⟩, ⟨c1, c2, c3⟩, d4, d5, d6, d7, d8, d9, d10, d11, d12, d13, d14, d15, d16, d17, d18, d19, d20, d21, d22, d23, d24, d25⟩ := hC c hc
  have hs := hS.1
  have d72 := d7.2
  refine hr0.cup hc (fun _ => by simp only [gI_sI, gI_sR, gI_sN, gI_sCp, gI_sB, gR_sI, gR_sR, gR_sN, gR_sCp, gR_sB, gN_sI, gN_sR, gN_sN, gN_sCp, gN_sB]) (fun _ => by simp only [gI_sI, gI_sR, gI_sN, gI_sCp, gI_sB, gR_sI, gR_sR, gR_sN, gR_sCp, gR_sB, gN_sI, gN_sR, gN_sN, gN_sCp, gN_sB]) (by repeat first | refine eqS_sI rfl ?_ | refine eqS_sR rfl ?_ | refine eqS_sB (fun _ => rfl) ?_ | refine eqS_sN (fun _ => rfl) ?_ | exact .rf) (fun i k hi => ?_) (fun _ _ _ => by simp only [gI_sI, gI_sR, gI_sN, gI_sCp, gI_sB, gR_sI, gR_sR, gR_sN, gR_sCp, gR_sB, gN_sI, gN_sR, gN_sN, gN_sCp, gN_sB, ↓reduceIte, and_true, true_and, and_false, false_and, and_self, or_true, true_or, or_false, false_or, or_self, Nat.reduceEqDiff, Int.reduceNeg, ne_eq, not_true_eq_false, not_false_eq_true, Int.toNat_natCast, reduceCtorEq, i10, i01, implies_true, true_implies, false_implies, g_t (c := True) trivial]) (by repeat first | refine eqS_sI rfl ?_ | refine eqS_sR rfl ?_ | refine eqS_sB (fun _ => rfl) ?_ | refine eqS_sN (fun _ => rfl) ?_ | exact .rf) (fun t ht i hi => ?_) (fun _ _ => by simp only [gI_sI, gI_sR, gI_sN, gI_sCp, gI_sB, gR_sI, gR_sR, gR_sN, gR_sCp, gR_sB, gN_sI, gN_sR, gN_sN, gN_sCp, gN_sB, ↓reduceIte, and_true, true_and, and_false, false_and, and_self, or_true, true_or, or_false, false_or, or_self, Nat.reduceEqDiff, Int.reduceNeg, ne_eq, not_true_eq_false, not_false_eq_true, Int.toNat_natCast, reduceCtorEq, i10, i01, implies_true, true_implies, false_implies, g_t (c := True) trivial]) (hS.cg (by repeat first | refine eqS_sI rfl ?_ | refine eqS_sR rfl ?_ | refine eqS_sB (fun _ => rfl) ?_ | refine eqS_sN (fun _ => rfl) ?_ | exact .rf) (fun _ _ => by simp only [gI_sI, gI_sR, gI_sN, gI_sCp, gI_sB, gR_sI, gR_sR, gR_sN, gR_sCp, gR_sB, gN_sI, gN_sR, gN_sN, gN_sCp, gN_sB, ↓reduceIte, and_true, true_and, and_false, false_and, and_self, or_true, true_or, or_false, false_or, or_self, Nat.reduceEqDiff, Int.reduceNeg, ne_eq, not_true_eq_false, not_false_eq_true, Int.toNat_natCast, reduceCtorEq, i10, i01, implies_true, true_implies, false_implies, g_t (c := True) trivial]) (by repeat first | refine eqS_sI rfl ?_ | refine eqS_sR rfl ?_ | refine eqS_sB (fun _ => rfl) ?_ | refine eqS_sN (fun _ => rfl) ?_ | exact .rf)) ?_ nk
  · simp only [gI_sI, gI_sR, gI_sN, gI_sCp, gI_sB, gR_sI, gR_sR, gR_sN, gR_sCp, gR_sB, gN_sI, gN_sR, gN_sN, gN_sCp, gN_sB, ↓reduceIte, and_true, true_and, and_false, false_and, and_self, or_true, true_or, or_false, false_or, or_self, Nat.reduceEqDiff, Int.reduceNeg, ne_eq, not_true_eq_false, not_false_eq_true, Int.toNat_natCast, reduceCtorEq, i10, i01, implies_true, true_implies, false_implies, g_t (c := True) trivial, hi]
  · rcases ht with rfl | rfl | rfl | rfl | rfl | rfl | rfl | rfl | rfl | rfl <;> simp only [gI_sI, gI_sR, gI_sN, gI_sCp, gI_sB, gR_sI, gR_sR, gR_sN, gR_sCp, gR_sB, gN_sI, gN_sR, gN_sN, gN_sCp, gN_sB, ↓reduceIte, and_true, true_and, and_false, false_and, and_self, or_true, true_or, or_false, false_or, or_self, Nat.reduceEqDiff, Int.reduceNeg, ne_eq, not_true_eq_false, not_false_eq_true, Int.toNat_natCast, reduceCtorEq, i10, i01, implies_true, true_implies, false_implies, g_t (c := True) trivial, hi]
  · unfold RC
    simp only [gI_sI, gI_sR, gI_sN, gI_sCp, gI_sB, gR_sI, gR_sR, gR_sN, gR_sCp, gR_sB, gN_sI, gN_sR, gN_sN, gN_sCp, gN_sB, ↓reduceIte, and_true, true_and, and_false, false_and, and_self, or_true, true_or, or_false, false_or, or_self, Nat.reduceEqDiff, Int.reduceNeg, ne_eq, not_true_eq_false, not_false_eq_true, Int.toNat_natCast, reduceCtorEq, i10, i01, implies_true, true_implies, false_implies, g_t (c := True) trivial]
    and_intros <;> first | exact True.intro | rfl | assumption | omega | (intro x; first | assumption | omega | (exfalso; omega))
theorem up_both (hr : RR P C K D X M) {c p : Nat} (hc : c < C) (z : gI M 82 0 c = 2) (z3 : gI M 83 0 c = p) (v : Int) : ∃ X' M', fX10_comeUp (sI X 5 c 9 v) 0 (some c) (some p) = some ((), X') ∧ fX11_comeUp (sI M 109 0 c v) 0 c p = some ((), M') ∧ RR P C K D X' M' ∧ gI M' 64 0 13 = gI M 64 0 13 := by
  have hM := hr.1.2.1
  have hS := hr.2.1
  have h16 := hr.1.2.2.1
  have hP := hr.2.2.2.2.1
  have hC := hr.2.2.2.2.2.2.1 c hc
  have q5 := hC.2.2.2.2.1 (by omega)
  have q16 := hC.2.2.2.2.2.2.2.2.2.2.2.2.2.2.2.1 z
  have hp0 : 0 < p := by omega
  have hpP : p < P := by omega
  have gc : (0 : Int) ≤ (c : Int) ∧ (c : Int) < 24 := by omega
  have gp : (0 : Int) ≤ (p : Int) ∧ (p : Int) < 16 := by omega
  obtain ⟨u, u1, u2, u3⟩ := par hr hp0 hpP
  have eu : gR X 8 p 1 = some u := by rw [(hP p hpP).1.2.2.2.2.2.2, ox_eq]; exact u2
  have s8 := (hP u (by omega)).2.2.2.1.1
  have g1 : (1 : Int) = 0 ∨ (1 : Int) = 1 := Or.inr rfl
  unfold fX10_comeUp fX11_comeUp fX4_waitToGoUp fX4_leaveFor fX11_waitAt
  simp only [nm_eq, up_eq, cl_some, ob_some, oe_some, oe_none, ob_none, gI_sI, gI_sR, gI_sN, gI_sCp, gI_sB, gR_sI, gR_sR, gR_sN, gR_sCp, gR_sB, gN_sI, gN_sR, gN_sN, gN_sCp, gN_sB, ↓reduceIte, and_true, true_and, and_false, false_and, and_self, or_true, true_or, or_false, false_or, or_self, Nat.reduceEqDiff, Int.reduceNeg, ne_eq, not_true_eq_false, not_false_eq_true, Int.toNat_natCast, reduceCtorEq, i10, i01, implies_true, true_implies, false_implies, g_t (c := True) trivial, eu, s8, hS.1.1, hM.2 1 rfl, hM.2 16 rfl, hM.2 17 rfl, hM.2 18 rfl, hM.2 19 rfl, hM.2 20 rfl, hM.2 21 rfl, g_t gc, g_t gp, g_t g1, Int.toNat_natCast, u2]
  rcases Nat.eq_zero_or_pos u with h0 | h0
  · subst h0
    rw [((hP 0 (by omega)).2.1 rfl).2, if_pos rfl, if_pos (show ((0 : Nat) : Int) = 0 by rfl)]
    exact ⟨_, _, rfl, rfl, row_rr hr hc z v, by simp only [gI_sI, gI_sR, gI_sN, gI_sCp, gI_sB, gR_sI, gR_sR, gR_sN, gR_sCp, gR_sB, gN_sI, gN_sR, gN_sN, gN_sCp, gN_sB, ↓reduceIte, and_true, true_and, and_false, false_and, and_self, or_true, true_or, or_false, false_or, or_self, Nat.reduceEqDiff, Int.reduceNeg, ne_eq, not_true_eq_false, not_false_eq_true, Int.toNat_natCast, reduceCtorEq, i10, i01, implies_true, true_implies, false_implies, g_t (c := True) trivial]⟩
  · have s1 : gI M 68 0 u = 1 := by
      have := ((hP u (by omega)).2.2.1 h0).2.1
      omega
    have r2 := up_rr hr hc z z3 u2 h0 s1 hp0 hpP (by omega) v
    obtain ⟨X', M', f1, f2, f3, f4⟩ := ring_both r2 (p := u) (by omega)
    rw [if_neg (show ¬ gI M 68 0 u = 0 by omega), if_neg (show ¬ (u : Int) = 0 by omega), f1, f2]
    exact ⟨_, _, rfl, rfl, f3, f4.trans (by simp only [gI_sI, gI_sR, gI_sN, gI_sCp, gI_sB, gR_sI, gR_sR, gR_sN, gR_sCp, gR_sB, gN_sI, gN_sR, gN_sN, gN_sCp, gN_sB, ↓reduceIte, and_true, true_and, and_false, false_and, and_self, or_true, true_or, or_false, false_or, or_self, Nat.reduceEqDiff, Int.reduceNeg, ne_eq, not_true_eq_false, not_false_eq_true, Int.toNat_natCast, reduceCtorEq, i10, i01, implies_true, true_implies, false_implies, g_t (c := True) trivial])⟩
theorem stray_rr (hr : RR P C K D X M) {c p : Nat} (hc : c < C) (z : gI M 82 0 c = 2) (hpP : p < P) (s2 : gI M 68 0 p = 2) (v : Int) : RR P C K D
    (sR (sR (sR (sR (sR (sI (sI X 5 c 9 v) 5 c 3 5) 5 c 4 none) 5 c 6 none) 5 c 7 none) 5 c 8 none) 5 c 4 (some p))
    (sI (sI (sI M 109 0 c v) 82 0 c 5) 83 0 c p) := by
  have nk := nk_of hr (c := c) (by omega)
  have hr0 := hr
  obtain ⟨⟨hX, hM, hN⟩, hS, hF, hB, hP, hL, hC, hK, hD, hZ⟩ := hr
  obtain ⟨⟨a0, a1, a2, a3⟩, ⟨b1, b2, b3, b4⟩, ⟨c1, c2, c3⟩, d4, d5, d6, d7, d8, d9, d10, d11, d12, d13, d14, d15, d16, d17, d18, d19, d20, d21, d22, d23, d24, d25⟩ := hC c hc
  have hs := hS.1
  have d72 := d7.2
  refine hr0.cup hc (fun _ => by simp only [gI_sI, gI_sR, gI_sN, gI_sCp, gI_sB, gR_sI, gR_sR, gR_sN, gR_sCp, gR_sB, gN_sI, gN_sR, gN_sN, gN_sCp, gN_sB]) (fun _ => by simp only [gI_sI, gI_sR, gI_sN, gI_sCp, gI_sB, gR_sI, gR_sR, gR_sN, gR_sCp, gR_sB, gN_sI, gN_sR, gN_sN, gN_sCp, gN_sB]) (by repeat first | refine eqS_sI rfl ?_ | refine eqS_sR rfl ?_ | refine eqS_sB (fun _ => rfl) ?_ | refine eqS_sN (fun _ => rfl) ?_ | exact .rf) (fun i k hi => ?_) (fun _ _ _ => by simp only [gI_sI, gI_sR, gI_sN, gI_sCp, gI_sB, gR_sI, gR_sR, gR_sN, gR_sCp, gR_sB, gN_sI, gN_sR, gN_sN, gN_sCp, gN_sB, ↓reduceIte, and_true, true_and, and_false, false_and, and_self, or_true, true_or, or_false, false_or, or_self, Nat.reduceEqDiff, Int.reduceNeg, ne_eq, not_true_eq_false, not_false_eq_true, Int.toNat_natCast, reduceCtorEq, i10, i01, implies_true, true_implies, false_implies, g_t (c := True) trivial]) (by repeat first | refine eqS_sI rfl ?_ | refine eqS_sR rfl ?_ | refine eqS_sB (fun _ => rfl) ?_ | refine eqS_sN (fun _ => rfl) ?_ | exact .rf) (fun t ht i hi => ?_) (fun _ _ => by simp only [gI_sI, gI_sR, gI_sN, gI_sCp, gI_sB, gR_sI, gR_sR, gR_sN, gR_sCp, gR_sB, gN_sI, gN_sR, gN_sN, gN_sCp, gN_sB, ↓reduceIte, and_true, true_and, and_false, false_and, and_self, or_true, true_or, or_false, false_or, or_self, Nat.reduceEqDiff, Int.reduceNeg, ne_eq, not_true_eq_false, not_false_eq_true, Int.toNat_natCast, reduceCtorEq, i10, i01, implies_true, true_implies, false_implies, g_t (c := True) trivial]) (hS.cg (by repeat first | refine eqS_sI rfl ?_ | refine eqS_sR rfl ?_ | refine eqS_sB (fun _ => rfl) ?_ | refine eqS_sN (fun _ => rfl) ?_ | exact .rf) (fun _ _ => by simp only [gI_sI, gI_sR, gI_sN, gI_sCp, gI_sB, gR_sI, gR_sR, gR_sN, gR_sCp, gR_sB, gN_sI, gN_sR, gN_sN, gN_sCp, gN_sB, ↓reduceIte, and_true, true_and, and_false, false_and, and_self, or_true, true_or, or_false, false_or, or_self, Nat.reduceEqDiff, Int.reduceNeg, ne_eq, not_true_eq_false, not_false_eq_true, Int.toNat_natCast, reduceCtorEq, i10, i01, implies_true, true_implies, false_implies, g_t (c := True) trivial]) (by repeat first | refine eqS_sI rfl ?_ | refine eqS_sR rfl ?_ | refine eqS_sB (fun _ => rfl) ?_ | refine eqS_sN (fun _ => rfl) ?_ | exact .rf)) ?_ nk
  · simp only [gI_sI, gI_sR, gI_sN, gI_sCp, gI_sB, gR_sI, gR_sR, gR_sN, gR_sCp, gR_sB, gN_sI, gN_sR, gN_sN, gN_sCp, gN_sB, ↓reduceIte, and_true, true_and, and_false, false_and, and_self, or_true, true_or, or_false, false_or, or_self, Nat.reduceEqDiff, Int.reduceNeg, ne_eq, not_true_eq_false, not_false_eq_true, Int.toNat_natCast, reduceCtorEq, i10, i01, implies_true, true_implies, false_implies, g_t (c := True) trivial, hi]
  · rcases ht with rfl | rfl | rfl | rfl | rfl | rfl | rfl | rfl | rfl | rfl <;> simp only [gI_sI, gI_sR, gI_sN, gI_sCp, gI_sB, gR_sI, gR_sR, gR_sN, gR_sCp, gR_sB, gN_sI, gN_sR, gN_sN, gN_sCp, gN_sB, ↓reduceIte, and_true, true_and, and_false, false_and, and_self, or_true, true_or, or_false, false_or, or_self, Nat.reduceEqDiff, Int.reduceNeg, ne_eq, not_true_eq_false, not_false_eq_true, Int.toNat_natCast, reduceCtorEq, i10, i01, implies_true, true_implies, false_implies, g_t (c := True) trivial, hi]
  · unfold RC
    simp only [gI_sI, gI_sR, gI_sN, gI_sCp, gI_sB, gR_sI, gR_sR, gR_sN, gR_sCp, gR_sB, gN_sI, gN_sR, gN_sN, gN_sCp, gN_sB, ↓reduceIte, and_true, true_and, and_false, false_and, and_self, or_true, true_or, or_false, false_or, or_self, Nat.reduceEqDiff, Int.reduceNeg, ne_eq, not_true_eq_false, not_false_eq_true, Int.toNat_natCast, reduceCtorEq, i10, i01, implies_true, true_implies, false_implies, g_t (c := True) trivial, s2]
    and_intros <;> first | exact True.intro | rfl | assumption | omega | (intro x; first | assumption | omega | (exfalso; omega))
theorem down_rr (hr : RR P C K D X M) {c p : Nat} (hc : c < C) (z : gI M 82 0 c = 2) (hpP : p < P) (s1 : gI M 68 0 p = 1) (v y : Int) (hy : gI M 74 0 p ≠ 0 → y = (gI M 75 0 p + 1) % gI M 74 0 p) (res : Option Nat) (ho : oi res = -9 ∨ (0 < oi res ∧ oi res < P ∧ gI M 67 0 (oi res).toNat = p)) : RR P C K (D + 1)
    (sI (sR (sI (sR (sR (sR (sR (sR (sI (sI (sI X 5 c 9 v) 8 p 12 y) 5 c 3 1) 5 c 4 none) 5 c 6 none) 5 c 7 none) 5 c 8 none) 5 c 4 (some p)) 5 c 5 0) 5 c 7 res) 5 c 10 (gI M 64 0 13))
    (sI (sI (sI (sI (sI (sI (sI M 109 0 c v) 75 0 p (gI M 75 0 p + 1)) 82 0 c 1) 83 0 c p) 84 0 c (gI M 64 0 13)) 85 0 c 0) 86 0 c (oi res)) := by
  have nk := nk_of hr (c := c) (by omega)
  have hr0 := hr
  obtain ⟨⟨hX, hM, hN⟩, hS, hF, hB, hP, hL, hC, hK, hD, hZ⟩ := hr
  obtain ⟨⟨a0, a1, a2, a3⟩, ⟨b1, b2, b3, b4⟩, ⟨c1, c2, c3⟩, d4, d5, d6, d7, d8, d9, d10, d11, d12, d13, d14, d15, d16, d17, d18, d19, d20, d21, d22, d23, d24, d25⟩ := hC c hc
  have hs := hS.1
  refine hr0.gen (c := c) (fun _ => by simp only [gI_sI, gI_sR, gI_sN, gI_sCp, gI_sB, gR_sI, gR_sR, gR_sN, gR_sCp, gR_sB, gN_sI, gN_sR, gN_sN, gN_sCp, gN_sB]) (fun _ => by simp only [gI_sI, gI_sR, gI_sN, gI_sCp, gI_sB, gR_sI, gR_sR, gR_sN, gR_sCp, gR_sB, gN_sI, gN_sR, gN_sN, gN_sCp, gN_sB]) (by repeat first | refine eqS_sI rfl ?_ | refine eqS_sR rfl ?_ | refine eqS_sB (fun _ => rfl) ?_ | refine eqS_sN (fun _ => rfl) ?_ | exact .rf) (by repeat first | refine eqS_sI rfl ?_ | refine eqS_sR rfl ?_ | refine eqS_sB (fun _ => rfl) ?_ | refine eqS_sN (fun _ => rfl) ?_ | exact .rf) (fun i j hi => ?_) (fun i j h3 hi => by simp only [gI_sI, gI_sR, gI_sN, gI_sCp, gI_sB, gR_sI, gR_sR, gR_sN, gR_sCp, gR_sB, gN_sI, gN_sR, gN_sN, gN_sCp, gN_sB, ↓reduceIte, and_true, true_and, and_false, false_and, and_self, or_true, true_or, or_false, false_or, or_self, Nat.reduceEqDiff, Int.reduceNeg, ne_eq, not_true_eq_false, not_false_eq_true, Int.toNat_natCast, reduceCtorEq, i10, i01, implies_true, true_implies, false_implies, g_t (c := True) trivial]) (fun t ht i hi => ?_) (fun j hj => by simp only [gI_sI, gI_sR, gI_sN, gI_sCp, gI_sB, gR_sI, gR_sR, gR_sN, gR_sCp, gR_sB, gN_sI, gN_sR, gN_sN, gN_sCp, gN_sB, ↓reduceIte, and_true, true_and, and_false, false_and, and_self, or_true, true_or, or_false, false_or, or_self, Nat.reduceEqDiff, Int.reduceNeg, ne_eq, not_true_eq_false, not_false_eq_true, Int.toNat_natCast, reduceCtorEq, i10, i01, implies_true, true_implies, false_implies, g_t (c := True) trivial]) (fun k' hk' i hi e => ?_) (hS.cg (by repeat first | refine eqS_sI rfl ?_ | refine eqS_sR rfl ?_ | refine eqS_sB (fun _ => rfl) ?_ | refine eqS_sN (fun _ => rfl) ?_ | exact .rf) (fun _ _ => by simp only [gI_sI, gI_sR, gI_sN, gI_sCp, gI_sB, gR_sI, gR_sR, gR_sN, gR_sCp, gR_sB, gN_sI, gN_sR, gN_sN, gN_sCp, gN_sB, ↓reduceIte, and_true, true_and, and_false, false_and, and_self, or_true, true_or, or_false, false_or, or_self, Nat.reduceEqDiff, Int.reduceNeg, ne_eq, not_true_eq_false, not_false_eq_true, Int.toNat_natCast, reduceCtorEq, i10, i01, implies_true, true_implies, false_implies, g_t (c := True) trivial]) (by repeat first | refine eqS_sI rfl ?_ | refine eqS_sR rfl ?_ | refine eqS_sB (fun _ => rfl) ?_ | refine eqS_sN (fun _ => rfl) ?_ | exact .rf)) (hB.cg (by repeat first | refine eqS_sI rfl ?_ | refine eqS_sR rfl ?_ | refine eqS_sB (fun _ => rfl) ?_ | refine eqS_sN (fun _ => rfl) ?_ | exact .rf) (by repeat first | refine eqS_sI rfl ?_ | refine eqS_sR rfl ?_ | refine eqS_sB (fun _ => rfl) ?_ | refine eqS_sN (fun _ => rfl) ?_ | exact .rf)) (fun q hq => ?_) ?_ (fun k' hk' => ?_) ?_ (by repeat first | exact hZ | refine RZ.sI (by first | rfl | (simp [zZ]; omega)) ?_)
  · simp only [gI_sI, gI_sR, gI_sN, gI_sCp, gI_sB, gR_sI, gR_sR, gR_sN, gR_sCp, gR_sB, gN_sI, gN_sR, gN_sN, gN_sCp, gN_sB, ↓reduceIte, and_true, true_and, and_false, false_and, and_self, or_true, true_or, or_false, false_or, or_self, Nat.reduceEqDiff, Int.reduceNeg, ne_eq, not_true_eq_false, not_false_eq_true, Int.toNat_natCast, reduceCtorEq, i10, i01, implies_true, true_implies, false_implies, g_t (c := True) trivial, hi]
  · rcases ht with rfl | rfl | rfl | rfl | rfl | rfl | rfl | rfl | rfl | rfl <;> simp only [gI_sI, gI_sR, gI_sN, gI_sCp, gI_sB, gR_sI, gR_sR, gR_sN, gR_sCp, gR_sB, gN_sI, gN_sR, gN_sN, gN_sCp, gN_sB, ↓reduceIte, and_true, true_and, and_false, false_and, and_self, or_true, true_or, or_false, false_or, or_self, Nat.reduceEqDiff, Int.reduceNeg, ne_eq, not_true_eq_false, not_false_eq_true, Int.toNat_natCast, reduceCtorEq, i10, i01, implies_true, true_implies, false_implies, g_t (c := True) trivial, hi]
  · simp only [gI_sI, gI_sR, gI_sN, gI_sCp, gI_sB, gR_sI, gR_sR, gR_sN, gR_sCp, gR_sB, gN_sI, gN_sR, gN_sN, gN_sCp, gN_sB, ↓reduceIte, and_true, true_and, and_false, false_and, and_self, or_true, true_or, or_false, false_or, or_self, Nat.reduceEqDiff, Int.reduceNeg, ne_eq, not_true_eq_false, not_false_eq_true, Int.toNat_natCast, reduceCtorEq, i10, i01, implies_true, true_implies, false_implies, g_t (c := True) trivial]
    exact e
  · by_cases e : q = p
    · subst e
      obtain ⟨q1, q2, q3, q4, q5, q6, q7, q8, q9⟩ := hP q hq
      unfold RP
      simp only [gI_sI, gI_sR, gI_sN, gI_sCp, gI_sB, gR_sI, gR_sR, gR_sN, gR_sCp, gR_sB, gN_sI, gN_sR, gN_sN, gN_sCp, gN_sB, ↓reduceIte, and_true, true_and, and_false, false_and, and_self, or_true, true_or, or_false, false_or, or_self, Nat.reduceEqDiff, Int.reduceNeg, ne_eq, not_true_eq_false, not_false_eq_true, Int.toNat_natCast, reduceCtorEq, i10, i01, implies_true, true_implies, false_implies, g_t (c := True) trivial]
      exact ⟨q1, q2, q3, q4, q5, q6, q7, ⟨q8.1, q8.2.1, by omega, hy⟩, q9⟩
    · refine (hP q hq).cg3 ?_ (fun _ => ?_) (fun _ => ?_) (fun _ => ?_) ?_ ?_ (fun t ht => ?_) (fun _ => ?_) ?_ ?_
      all_goals first | (rcases ht with rfl | rfl | rfl | rfl | rfl | rfl | rfl | rfl | rfl | rfl | rfl | rfl | rfl | rfl | rfl <;> simp only [gI_sI, gI_sR, gI_sN, gI_sCp, gI_sB, gR_sI, gR_sR, gR_sN, gR_sCp, gR_sB, gN_sI, gN_sR, gN_sN, gN_sCp, gN_sB, ↓reduceIte, and_true, true_and, and_false, false_and, and_self, or_true, true_or, or_false, false_or, or_self, Nat.reduceEqDiff, Int.reduceNeg, ne_eq, not_true_eq_false, not_false_eq_true, Int.toNat_natCast, reduceCtorEq, i10, i01, implies_true, true_implies, false_implies, g_t (c := True) trivial, e]) | simp only [gI_sI, gI_sR, gI_sN, gI_sCp, gI_sB, gR_sI, gR_sR, gR_sN, gR_sCp, gR_sB, gN_sI, gN_sR, gN_sN, gN_sCp, gN_sB, ↓reduceIte, and_true, true_and, and_false, false_and, and_self, or_true, true_or, or_false, false_or, or_self, Nat.reduceEqDiff, Int.reduceNeg, ne_eq, not_true_eq_false, not_false_eq_true, Int.toNat_natCast, reduceCtorEq, i10, i01, implies_true, true_implies, false_implies, g_t (c := True) trivial, e]
  · unfold RC
    simp only [gI_sI, gI_sR, gI_sN, gI_sCp, gI_sB, gR_sI, gR_sR, gR_sN, gR_sCp, gR_sB, gN_sI, gN_sR, gN_sN, gN_sCp, gN_sB, ↓reduceIte, and_true, true_and, and_false, false_and, and_self, or_true, true_or, or_false, false_or, or_self, Nat.reduceEqDiff, Int.reduceNeg, ne_eq, not_true_eq_false, not_false_eq_true, Int.toNat_natCast, reduceCtorEq, i10, i01, implies_true, true_implies, false_implies, g_t (c := True) trivial, s1, ox_oi]
    and_intros <;> first | exact True.intro | rfl | assumption | omega | (intro x; first | assumption | omega | (exfalso; omega))
  · refine (hK k' hk').cg3 (nk k' hk') ?_ (fun j => ?_) (fun j => ?_) (fun i hi => ?_) ?_ ?_ ?_ (fun i hi => ?_) <;> first | (simp only [gI_sI, gI_sR, gI_sN, gI_sCp, gI_sB, gR_sI, gR_sR, gR_sN, gR_sCp, gR_sB, gN_sI, gN_sR, gN_sN, gN_sCp, gN_sB, ↓reduceIte, and_true, true_and, and_false, false_and, and_self, or_true, true_or, or_false, false_or, or_self, Nat.reduceEqDiff, Int.reduceNeg, ne_eq, not_true_eq_false, not_false_eq_true, Int.toNat_natCast, reduceCtorEq, i10, i01, implies_true, true_implies, false_implies, g_t (c := True) trivial]; done) | simp only [gI_sI, gI_sR, gI_sN, gI_sCp, gI_sB, gR_sI, gR_sR, gR_sN, gR_sCp, gR_sB, gN_sI, gN_sR, gN_sN, gN_sCp, gN_sB, ↓reduceIte, and_true, true_and, and_false, false_and, and_self, or_true, true_or, or_false, false_or, or_self, Nat.reduceEqDiff, Int.reduceNeg, ne_eq, not_true_eq_false, not_false_eq_true, Int.toNat_natCast, reduceCtorEq, i10, i01, implies_true, true_implies, false_implies, g_t (c := True) trivial, hi]
  · have hD2 := hD.le (D' := D + 1) (by omega)
    unfold BD at hD2 ⊢
    simp only [gI_sI, gI_sR, gI_sN, gI_sCp, gI_sB, gR_sI, gR_sR, gR_sN, gR_sCp, gR_sB, gN_sI, gN_sR, gN_sN, gN_sCp, gN_sB, ↓reduceIte, and_true, true_and, and_false, false_and, and_self, or_true, true_or, or_false, false_or, or_self, Nat.reduceEqDiff, Int.reduceNeg, ne_eq, not_true_eq_false, not_false_eq_true, Int.toNat_natCast, reduceCtorEq, i10, i01, implies_true, true_implies, false_implies, g_t (c := True) trivial]
    refine ⟨fun q hq => ?_, hD2.2⟩
    have := hD2.1 q hq
    have d75 := (hD.1 p hpP).2
    by_cases e : q = p
    · rw [if_pos e]; exact ⟨this.1, by omega⟩
    · rw [if_neg e]; exact this
end CM
