/-! ===== moves and porters ===== -/
section MV
variable {P C K : Nat} {D : Int} {X M : zS}
theorem place_rr (hr : RR P C K D X M) {c : Nat} (hc : c < C) (z : gI M 82 0 c = 2) {v : Int} (h0 : 0 ≤ v) (hv : v < gI M 69 0 (gI M 83 0 c).toNat) : RR P C K D (sI X 5 c 9 v) (sI M 109 0 c v) := by
  have nk := nk_of hr (c := c) (by omega)
  have hr0 := hr
  obtain ⟨⟨hX, hM, hN⟩, hS, hF, hB, hP, hL, hC, hK, hD, hZ⟩ := hr
  obtain ⟨⟨a0, a1, a2, a3⟩, ⟨b1, b2, b3, b4⟩, ⟨c1, c2, c3⟩, d4, d5, d6, d7, d8, d9, d10, d11, d12, d13, d14, d15, d16, d17, d18, d19, d20, d21, d22, d23, d24, d25⟩ := hC c hc
  have d16 := d16 z
  refine hr0.cup hc (fun _ => by simp only [gI_sI, gI_sR, gI_sN, gI_sCp, gI_sB, gR_sI, gR_sR, gR_sN, gR_sCp, gR_sB, gN_sI, gN_sR, gN_sN, gN_sCp, gN_sB]) (fun _ => by simp only [gI_sI, gI_sR, gI_sN, gI_sCp, gI_sB, gR_sI, gR_sR, gR_sN, gR_sCp, gR_sB, gN_sI, gN_sR, gN_sN, gN_sCp, gN_sB]) (by repeat first | refine eqS_sI rfl ?_ | refine eqS_sR rfl ?_ | refine eqS_sB (fun _ => rfl) ?_ | refine eqS_sN (fun _ => rfl) ?_ | exact .rf) (fun i k hi => ?_) (fun _ _ _ => by simp only [gI_sI, gI_sR, gI_sN, gI_sCp, gI_sB, gR_sI, gR_sR, gR_sN, gR_sCp, gR_sB, gN_sI, gN_sR, gN_sN, gN_sCp, gN_sB, ↓reduceIte, and_true, true_and, and_false, false_and, and_self, or_true, true_or, or_false, false_or, or_self, Nat.reduceEqDiff, Int.reduceNeg, ne_eq, not_true_eq_false, not_false_eq_true, Int.toNat_natCast, reduceCtorEq, i10, i01, implies_true, true_implies, false_implies, g_t (c := True) trivial]) (by repeat first | refine eqS_sI rfl ?_ | refine eqS_sR rfl ?_ | refine eqS_sB (fun _ => rfl) ?_ | refine eqS_sN (fun _ => rfl) ?_ | exact .rf) (fun t ht i hi => ?_) (fun _ _ => by simp only [gI_sI, gI_sR, gI_sN, gI_sCp, gI_sB, gR_sI, gR_sR, gR_sN, gR_sCp, gR_sB, gN_sI, gN_sR, gN_sN, gN_sCp, gN_sB, ↓reduceIte, and_true, true_and, and_false, false_and, and_self, or_true, true_or, or_false, false_or, or_self, Nat.reduceEqDiff, Int.reduceNeg, ne_eq, not_true_eq_false, not_false_eq_true, Int.toNat_natCast, reduceCtorEq, i10, i01, implies_true, true_implies, false_implies, g_t (c := True) trivial]) (hS.cg (by repeat first | refine eqS_sI rfl ?_ | refine eqS_sR rfl ?_ | refine eqS_sB (fun _ => rfl) ?_ | refine eqS_sN (fun _ => rfl) ?_ | exact .rf) (fun _ _ => by simp only [gI_sI, gI_sR, gI_sN, gI_sCp, gI_sB, gR_sI, gR_sR, gR_sN, gR_sCp, gR_sB, gN_sI, gN_sR, gN_sN, gN_sCp, gN_sB, ↓reduceIte, and_true, true_and, and_false, false_and, and_self, or_true, true_or, or_false, false_or, or_self, Nat.reduceEqDiff, Int.reduceNeg, ne_eq, not_true_eq_false, not_false_eq_true, Int.toNat_natCast, reduceCtorEq, i10, i01, implies_true, true_implies, false_implies, g_t (c := True) trivial]) (by repeat first | refine eqS_sI rfl ?_ | refine eqS_sR rfl ?_ | refine eqS_sB (fun _ => rfl) ?_ | refine eqS_sN (fun _ => rfl) ?_ | exact .rf)) ?_ nk
  · simp only [gI_sI, gI_sR, gI_sN, gI_sCp, gI_sB, gR_sI, gR_sR, gR_sN, gR_sCp, gR_sB, gN_sI, gN_sR, gN_sN, gN_sCp, gN_sB, ↓reduceIte, and_true, true_and, and_false, false_and, and_self, or_true, true_or, or_false, false_or, or_self, Nat.reduceEqDiff, Int.reduceNeg, ne_eq, not_true_eq_false, not_false_eq_true, Int.toNat_natCast, reduceCtorEq, i10, i01, implies_true, true_implies, false_implies, g_t (c := True) trivial, hi]
  · rcases ht with rfl | rfl | rfl | rfl | rfl | rfl | rfl | rfl | rfl | rfl <;> simp only [gI_sI, gI_sR, gI_sN, gI_sCp, gI_sB, gR_sI, gR_sR, gR_sN, gR_sCp, gR_sB, gN_sI, gN_sR, gN_sN, gN_sCp, gN_sB, ↓reduceIte, and_true, true_and, and_false, false_and, and_self, or_true, true_or, or_false, false_or, or_self, Nat.reduceEqDiff, Int.reduceNeg, ne_eq, not_true_eq_false, not_false_eq_true, Int.toNat_natCast, reduceCtorEq, i10, i01, implies_true, true_implies, false_implies, g_t (c := True) trivial, hi]
  · unfold RC
    simp only [gI_sI, gI_sR, gI_sN, gI_sCp, gI_sB, gR_sI, gR_sR, gR_sN, gR_sCp, gR_sB, gN_sI, gN_sR, gN_sN, gN_sCp, gN_sB, ↓reduceIte, and_true, true_and, and_false, false_and, and_self, or_true, true_or, or_false, false_or, or_self, Nat.reduceEqDiff, Int.reduceNeg, ne_eq, not_true_eq_false, not_false_eq_true, Int.toNat_natCast, reduceCtorEq, i10, i01, implies_true, true_implies, false_implies, g_t (c := True) trivial]
    exact ⟨⟨a0, a1, a2, a3⟩, ⟨b1, b2, b3, b4⟩, ⟨c1, c2, c3⟩, d4, d5, d6, d7, d8, d9, d10, d11, d12, d13, d14, fun _ => ⟨d16.1, h0, hv⟩, d17, d18, d19, d20, d21, d22, d23, d24, d25⟩
theorem moveStep (hr : RR P C K D X M) {nf : Nat} (hnf : 1000 ≤ nf) (κ : zS → Option (Unit × zS)) {k : Nat} (hk : k < C) (hD1 : D ≤ 60000100) : ∃ X' M', (∀ n, fX10_moveCups_L2 0 nf (n + 1) X (k : Int) = fX10_moveCups_L2 0 nf n X' ((k + 1 : Nat) : Int)) ∧ (∀ n, fX11_move_L2 κ 0 nf (n + 1) M (k : Int) = fX11_move_L2 κ 0 nf n M' ((k + 1 : Nat) : Int)) ∧ RR P C K (D + 1) X' M' ∧ gI M' 64 0 13 = gI M 64 0 13 := by
  have hX := hr.1.1
  have hM := hr.1.2.1
  have hN := hr.1.2.2
  have h16 := hN.1
  have hP := hr.2.2.2.2.1
  have hCc := hr.2.2.2.2.2.2.1 k hk
  have gk : (0 : Int) ≤ (k : Int) ∧ (k : Int) < 24 := by omega
  have a0 := hCc.1.1
  have c1 := hCc.2.2.1.1
  have q7 := hCc.2.2.2.2.2.2.1
  have q15 := hCc.2.2.2.2.2.2.2.2.2.2.2.2.2.2.1
  by_cases z : gI M 82 0 k = 2
  · have q5 := hCc.2.2.2.2.1 (by omega)
    have q16 := hCc.2.2.2.2.2.2.2.2.2.2.2.2.2.2.2.1 z
    obtain ⟨p, z3⟩ : ∃ p : Nat, gI M 83 0 k = p := ⟨(gI M 83 0 k).toNat, by omega⟩
    rw [z3] at q5 q16
    simp only [Int.toNat_natCast] at q5 q16
    have hp0 : 0 < p := by omega
    have hpP : p < P := by omega
    have gp : (0 : Int) ≤ (p : Int) ∧ (p : Int) < 16 := by omega
    have l := len_b hr hp0 hpP
    obtain ⟨e1, -, -, e4, -, e6, -⟩ := hP p hpP
    obtain ⟨u, u1, u2, u3⟩ := par hr hp0 hpP
    have eu : gR X 8 p 1 = some u := by rw [e1.2.2.2.2.2.2, ox_eq]; exact u2
    by_cases b : gI M 72 0 p = 0
    · have w : wr (gI M 109 0 k + 1) = gI M 109 0 k + 1 := wr_id (by unfold zin; omega)
      have wk : wr ((k : Int) + 1) = ((k + 1 : Nat) : Int) := nat_wr k (by clear w; omega)
      have eX : ∀ n, fX10_moveCups_L2 0 nf (n + 1) X (k : Int) = if gI M 109 0 k + 1 < gI M 69 0 p then fX10_moveCups_L2 0 nf n (sI X 5 k 9 (gI M 109 0 k + 1)) ((k + 1 : Nat) : Int) else cl_ (fX10_endWire nf (sI X 5 k 9 (gI M 109 0 k + 1)) 0 (some k) (some p)) fun _ s => fX10_moveCups_L2 0 nf n s ((k + 1 : Nat) : Int) := by
        intro n
        conv => lhs; unfold fX10_moveCups_L2
        rw [if_pos (by rw [hN.2.2.1.2.1]; clear w wk; omega)]
        simp only [nm_eq, up_eq, cl_some, ob_some, oe_some, oe_none, ob_none, gI_sI, gI_sR, gI_sN, gI_sCp, gI_sB, gR_sI, gR_sR, gR_sN, gR_sCp, gR_sB, gN_sI, gN_sR, gN_sN, gN_sCp, gN_sB, ↓reduceIte, and_true, true_and, and_false, false_and, and_self, or_true, true_or, or_false, false_or, or_self, Nat.reduceEqDiff, Int.reduceNeg, ne_eq, not_true_eq_false, not_false_eq_true, Int.toNat_natCast, reduceCtorEq, i10, i01, implies_true, true_implies, false_implies, g_t (c := True) trivial, hX.2.1 1 (by decide), g_t gk, Int.toNat_natCast, a0, c1, z, q5.1, e6.1, b, q15, w, wk, e4.2.1]
        rw [if_neg (show ¬ (1 : Int) - 0 = 0 by decide)]
      have eM : ∀ n, fX11_move_L2 κ 0 nf (n + 1) M (k : Int) = if gI M 109 0 k + 1 = gI M 69 0 p then (if gI M 85 0 k = 0 then cl_ (fX11_comeDown nf (sI M 109 0 k (gI M 109 0 k + 1)) 0 k p) fun _ s => fX11_move_L2 κ 0 nf n s ((k + 1 : Nat) : Int) else cl_ (fX11_comeUp (sI M 109 0 k (gI M 109 0 k + 1)) 0 k p) fun _ s => fX11_move_L2 κ 0 nf n s ((k + 1 : Nat) : Int)) else fX11_move_L2 κ 0 nf n (sI M 109 0 k (gI M 109 0 k + 1)) ((k + 1 : Nat) : Int) := by
        intro n
        conv => lhs; unfold fX11_move_L2
        rw [if_pos (by rw [hN.2.1.2.1]; clear w wk; omega)]
        simp only [nm_eq, up_eq, cl_some, ob_some, oe_some, oe_none, ob_none, gI_sI, gI_sR, gI_sN, gI_sCp, gI_sB, gR_sI, gR_sR, gR_sN, gR_sCp, gR_sB, gN_sI, gN_sR, gN_sN, gN_sCp, gN_sB, ↓reduceIte, and_true, true_and, and_false, false_and, and_self, or_true, true_or, or_false, false_or, or_self, Nat.reduceEqDiff, Int.reduceNeg, ne_eq, not_true_eq_false, not_false_eq_true, Int.toNat_natCast, reduceCtorEq, i10, i01, implies_true, true_implies, false_implies, g_t (c := True) trivial, hM.2 3 rfl, hM.2 6 rfl, hM.2 16 rfl, hM.2 17 rfl, hM.2 19 rfl, hM.2 43 rfl, g_t gk, g_t gp, Int.toNat_natCast, z, z3, b, w, wk]
      clear w wk
      by_cases lt : gI M 109 0 k + 1 < gI M 69 0 p
      · refine ⟨_, _, fun n => (eX n).trans (if_pos lt), fun n => (eM n).trans (if_neg (by omega)), (place_rr hr hk z (by omega) (by rw [z3, Int.toNat_natCast]; exact lt)).le (by omega), by simp only [gI_sI, gI_sR, gI_sN, gI_sCp, gI_sB, gR_sI, gR_sR, gR_sN, gR_sCp, gR_sB, gN_sI, gN_sR, gN_sN, gN_sCp, gN_sB, ↓reduceIte, and_true, true_and, and_false, false_and, and_self, or_true, true_or, or_false, false_or, or_self, Nat.reduceEqDiff, Int.reduceNeg, ne_eq, not_true_eq_false, not_false_eq_true, Int.toNat_natCast, reduceCtorEq, i10, i01, implies_true, true_implies, false_implies, g_t (c := True) trivial]⟩
      · have eX2 : ∀ n, fX10_moveCups_L2 0 nf (n + 1) X (k : Int) = if gI M 85 0 k = 0 then cl_ (fX10_comeDown nf (sI X 5 k 9 (gI M 109 0 k + 1)) 0 (some k) (some p)) fun _ s => fX10_moveCups_L2 0 nf n s ((k + 1 : Nat) : Int) else cl_ (fX10_comeUp (sI X 5 k 9 (gI M 109 0 k + 1)) 0 (some k) (some p)) fun _ s => fX10_moveCups_L2 0 nf n s ((k + 1 : Nat) : Int) := by
          intro n
          rw [eX n, if_neg lt]
          unfold fX10_endWire
          simp only [nm_eq, up_eq, cl_some, ob_some, oe_some, oe_none, ob_none, gI_sI, gI_sR, gI_sN, gI_sCp, gI_sB, gR_sI, gR_sR, gR_sN, gR_sCp, gR_sB, gN_sI, gN_sR, gN_sN, gN_sCp, gN_sB, ↓reduceIte, and_true, true_and, and_false, false_and, and_self, or_true, true_or, or_false, false_or, or_self, Nat.reduceEqDiff, Int.reduceNeg, ne_eq, not_true_eq_false, not_false_eq_true, Int.toNat_natCast, reduceCtorEq, i10, i01, implies_true, true_implies, false_implies, g_t (c := True) trivial, q7.1, eu]
          by_cases d : gI M 85 0 k = 0
          · rw [if_pos d, if_pos d]
            cases fX10_comeDown nf (sI X 5 k 9 (gI M 109 0 k + 1)) 0 (some k) (some p) <;> rfl
          · rw [if_neg d, if_neg d]
            cases fX10_comeUp (sI X 5 k 9 (gI M 109 0 k + 1)) 0 (some k) (some p) <;> rfl
        by_cases d : gI M 85 0 k = 0
        · obtain ⟨X', M', f1, f2, f3, f4⟩ := down_both hr hnf hk z z3 (gI M 109 0 k + 1) hD1
          refine ⟨X', M', fun n => ?_, fun n => ?_, f3, f4⟩
          · rw [eX2 n, if_pos d, f1, cl_some]
          · rw [eM n, if_pos (by omega), if_pos d, f2, cl_some]
        · obtain ⟨X', M', f1, f2, f3, f4⟩ := up_both hr hk z z3 (gI M 109 0 k + 1)
          refine ⟨X', M', fun n => ?_, fun n => ?_, f3.le (by omega), f4⟩
          · rw [eX2 n, if_neg d, f1, cl_some]
          · rw [eM n, if_pos (by omega), if_neg d, f2, cl_some]
    · refine ⟨X, M, fun n => ?_, fun n => ?_, hr.le (by omega), rfl⟩
      · conv => lhs; unfold fX10_moveCups_L2
        rw [if_pos (by rw [hN.2.2.1.2.1]; omega)]
        have e0 : 1 - gI M 72 0 p = 0 := by omega
        simp only [nm_eq, up_eq, cl_some, ob_some, oe_some, oe_none, ob_none, hX.2.1 1 (by decide), g_t gk, Int.toNat_natCast, a0, c1, z, q5.1, e6.1, e0, ↓reduceIte, nat_wr k (by omega)]
      · conv => lhs; unfold fX11_move_L2
        rw [if_pos (by rw [hN.2.1.2.1]; omega)]
        simp only [nm_eq, up_eq, cl_some, ob_some, oe_some, oe_none, ob_none, hM.2 6 rfl, hM.2 16 rfl, hM.2 17 rfl, g_t gk, g_t gp, Int.toNat_natCast, z, z3, b, ↓reduceIte, nat_wr k (by omega)]
  · refine ⟨X, M, fun n => ?_, fun n => ?_, hr.le (by omega), rfl⟩
    · conv => lhs; unfold fX10_moveCups_L2
      rw [if_pos (by rw [hN.2.2.1.2.1]; omega)]
      simp only [nm_eq, up_eq, cl_some, ob_some, oe_some, oe_none, ob_none, hX.2.1 1 (by decide), g_t gk, Int.toNat_natCast, a0, c1, z, ↓reduceIte, nat_wr k (by omega)]
    · conv => lhs; unfold fX11_move_L2
      rw [if_pos (by rw [hN.2.1.2.1]; omega)]
      simp only [nm_eq, up_eq, cl_some, ob_some, oe_some, oe_none, ob_none, hM.2 16 rfl, g_t gk, Int.toNat_natCast, z, ↓reduceIte, nat_wr k (by omega)]
theorem moveL {nf : Nat} (hnf : 1000 ≤ nf) (κ : zS → Option (Unit × zS)) : ∀ (m n k : Nat) (E : Int) (Y N : zS), k + m = C → m < n → RR P C K E Y N → E + m ≤ 60000100 → ∃ Y' N', fX10_moveCups_L2 0 nf n Y (k : Int) = some ((), Y') ∧ fX11_move_L2 κ 0 nf n N (k : Int) = κ N' ∧ RR P C K (E + m) Y' N' ∧ gI N' 64 0 13 = gI N 64 0 13
  | 0, n + 1, k, E, Y, N, hk, _, hr, _ => by
    have hN := hr.1.2.2
    refine ⟨Y, N, ?_, ?_, hr.le (by omega), rfl⟩
    · unfold fX10_moveCups_L2; rw [if_neg (by rw [hN.2.2.1.2.1]; omega)]
    · unfold fX11_move_L2; rw [if_neg (by rw [hN.2.1.2.1]; omega)]
  | m + 1, n + 1, k, E, Y, N, hk, hn, hr, hE => by
    obtain ⟨Y1, N1, f1, f2, f3, f4⟩ := moveStep hr hnf κ (k := k) (by omega) (by omega)
    obtain ⟨Y', N', g1, g2, g3, g4⟩ := moveL hnf κ m n (k + 1) (E + 1) Y1 N1 (by omega) (by omega) f3 (by omega)
    exact ⟨Y', N', (f1 n).trans g1, (f2 n).trans g2, g3.le (by omega), g4.trans f4⟩
theorem porterStep (hr : RR P C K D X M) {nf : Nat} (hnf : 1000 ≤ nf) {k : Nat} (hk : k < C) (hD1 : D ≤ 60000100) : ∃ X' M', (∀ n, fX10_porterCups_L2 0 nf (n + 1) X (k : Int) = fX10_porterCups_L2 0 nf n X' ((k + 1 : Nat) : Int)) ∧ (∀ n, fX11_move_L106 0 nf (n + 1) M (k : Int) = fX11_move_L106 0 nf n M' ((k + 1 : Nat) : Int)) ∧ RR P C K (D + 1) X' M' ∧ gI M' 64 0 13 = gI M 64 0 13 := by
  have hX := hr.1.1
  have hM := hr.1.2.1
  have hN := hr.1.2.2
  have h16 := hN.1
  have hS := hr.2.1
  have hCc := hr.2.2.2.2.2.2.1 k hk
  have gk : (0 : Int) ≤ (k : Int) ∧ (k : Int) < 24 := by omega
  have a0 := hCc.1.1
  have c1 := hCc.2.2.1.1
  have q15 := hCc.2.2.2.2.2.2.2.2.2.2.2.2.2.2.1
  have wk : wr ((k : Int) + 1) = ((k + 1 : Nat) : Int) := nat_wr k (by omega)
  by_cases z : gI M 82 0 k = 6
  · have q18 := hCc.2.2.2.2.2.2.2.2.2.2.2.2.2.2.2.2.2.1 z
    have eX : ∀ n, fX10_porterCups_L2 0 nf (n + 1) X (k : Int) = if gI M 84 0 k = gI M 64 0 13 then (cl_ (fX10_comeHome nf X 0 (some k)) fun _ s => fX10_porterCups_L2 0 nf n s ((k + 1 : Nat) : Int)) else fX10_porterCups_L2 0 nf n X ((k + 1 : Nat) : Int) := by
      intro n
      conv => lhs; unfold fX10_porterCups_L2
      rw [if_pos (by rw [hN.2.2.1.2.1]; clear wk; omega)]
      simp only [nm_eq, up_eq, cl_some, ob_some, oe_some, oe_none, ob_none, hX.2.1 1 (by decide), g_t gk, Int.toNat_natCast, a0, c1, z, q18, hS.1.1, ↓reduceIte, wk]
    have eM : ∀ n, fX11_move_L106 0 nf (n + 1) M (k : Int) = if gI M 84 0 k = gI M 64 0 13 then (cl_ (fX11_comeHome nf M 0 k) fun _ s => fX11_move_L106 0 nf n s ((k + 1 : Nat) : Int)) else fX11_move_L106 0 nf n M ((k + 1 : Nat) : Int) := by
      intro n
      conv => lhs; unfold fX11_move_L106
      rw [if_pos (by rw [hN.2.1.2.1]; clear wk; omega)]
      simp only [nm_eq, up_eq, cl_some, ob_some, oe_some, oe_none, ob_none, hM.2 16 rfl, hM.2 18 rfl, g_t gk, Int.toNat_natCast, z, ↓reduceIte, wk]
    clear wk
    by_cases t : gI M 84 0 k = gI M 64 0 13
    · obtain ⟨X', M', f1, f2, f3, f4⟩ := home_both hr hnf hk (Or.inr z) (gI M 109 0 k) hD1
      rw [sI_self q15.symm] at f1
      rw [sI_self rfl] at f2
      refine ⟨X', M', fun n => ?_, fun n => ?_, f3, f4⟩
      · rw [eX n, if_pos t, f1, cl_some]
      · rw [eM n, if_pos t, f2, cl_some]
    · exact ⟨X, M, fun n => (eX n).trans (if_neg t), fun n => (eM n).trans (if_neg t), hr.le (by omega), rfl⟩
  · refine ⟨X, M, fun n => ?_, fun n => ?_, hr.le (by clear wk; omega), rfl⟩
    · conv => lhs; unfold fX10_porterCups_L2
      rw [if_pos (by rw [hN.2.2.1.2.1]; clear wk; omega)]
      simp only [nm_eq, up_eq, cl_some, ob_some, oe_some, oe_none, ob_none, hX.2.1 1 (by decide), g_t gk, Int.toNat_natCast, a0, c1, z, ↓reduceIte, wk]
    · conv => lhs; unfold fX11_move_L106
      rw [if_pos (by rw [hN.2.1.2.1]; clear wk; omega)]
      simp only [nm_eq, up_eq, cl_some, ob_some, oe_some, oe_none, ob_none, hM.2 16 rfl, g_t gk, Int.toNat_natCast, z, ↓reduceIte, wk]
theorem porterL {nf : Nat} (hnf : 1000 ≤ nf) : ∀ (m n k : Nat) (E : Int) (Y N : zS), k + m = C → m < n → RR P C K E Y N → E + m ≤ 60000100 → ∃ Y' N', fX10_porterCups_L2 0 nf n Y (k : Int) = some ((), Y') ∧ fX11_move_L106 0 nf n N (k : Int) = some ((), N') ∧ RR P C K (E + m) Y' N' ∧ gI N' 64 0 13 = gI N 64 0 13
  | 0, n + 1, k, E, Y, N, hk, _, hr, _ => by
    have hN := hr.1.2.2
    refine ⟨Y, N, ?_, ?_, hr.le (by omega), rfl⟩
    · unfold fX10_porterCups_L2; rw [if_neg (by rw [hN.2.2.1.2.1]; omega)]
    · unfold fX11_move_L106; rw [if_neg (by rw [hN.2.1.2.1]; omega)]
  | m + 1, n + 1, k, E, Y, N, hk, hn, hr, hE => by
    obtain ⟨Y1, N1, f1, f2, f3, f4⟩ := porterStep hr hnf (k := k) (by omega) (by omega)
    obtain ⟨Y', N', g1, g2, g3, g4⟩ := porterL hnf m n (k + 1) (E + 1) Y1 N1 (by omega) (by omega) f3 (by omega)
    exact ⟨Y', N', (f1 n).trans g1, (f2 n).trans g2, g3.le (by omega), g4.trans f4⟩
theorem ph_move {nf : Nat} (hnf : 1000 ≤ nf) : phase (fun X => cl_ (fX10_moveCups nf X 0) fun _ s => fX10_porterCups nf s 0) (fun M => fX11_move nf M 0) 48 := by
  intro P C K D X M hr hD
  have h16 := hr.1.2.2.1
  obtain ⟨Y1, N1, f1, f2, f3, f4⟩ := moveL hnf (fun (s_1 : zS) => fX11_move_L106 0 nf nf s_1 0) C nf 0 D X M (by omega) (by omega) hr (by omega)
  obtain ⟨Y', N', g1, g2, g3, g4⟩ := porterL hnf C nf 0 (D + C) Y1 N1 (by omega) (by omega) f3 (by omega)
  refine ⟨Y', N', ?_, ?_, g3.le (by omega), g4.trans f4⟩
  · show cl_ (fX10_moveCups_L2 0 nf nf X 0) _ = _
    rw [show fX10_moveCups_L2 0 nf nf X 0 = some ((), Y1) from f1, cl_some]
    exact g1
  · exact Eq.trans f2 g2
end MV
