/-! ===== the row by number ===== -/
section AS
variable {P C K : Nat} {D : Int} {X M : zS}
theorem ahead3 (hr : RR P C K D X M) {c d : Nat} (hc : c < C) (hd : d < C) : fX4_isAhead X c (some d) 3 = some ((if c < d then 1 else 0), X) := by
  have hC := hr.2.2.2.2.2.2.1
  unfold fX4_isAhead
  simp only [Int.reduceEq, ↓reduceIte, nm_eq, up_eq, cl_some, ob_some, oe_some, oe_none, ob_none, (hC c hc).1.2.1, (hC d hd).1.2.1]
  by_cases e : c < d
  · rw [if_pos (show (c : Int) < (d : Int) by omega), if_pos e]
  · rw [if_neg (show ¬ (c : Int) < (d : Int) by omega), if_neg e]
theorem row3L {nf : Nat} (hnf : 1000 ≤ nf) (κ : zS → Option (Unit × zS)) : ∀ (m n k s : Nat) (Y N : zS), k + m = C → m < n → s ≤ k → RR P C K D Y N → gI N 64 0 52 = s → (∀ j, j < s → RW C Y N j) → (∀ i j, i < j → j < s → gI N 117 0 i < gI N 117 0 j) → (∀ j, j < s → gI N 117 0 j < k) → s = cw N k →
    ∃ Y' N' s', fX10_lineUp_L4 0 3 nf n Y (s : Int) (k : Int) = some (((s' : Nat) : Int), Y') ∧ fX11_layBest_L7 κ 0 nf n N (k : Int) = κ N' ∧ RR P C K D Y' N' ∧ gI N' 64 0 52 = ((s' : Nat) : Int) ∧ (∀ j, j < s' → RW C Y' N' j) ∧ (∀ i j, i < j → j < s' → gI N' 117 0 i < gI N' 117 0 j) ∧ oN N' N ∧ s' = cw N C
  | 0, n + 1, k, s, Y, N, hk, _, hs, hr, h52, hw, ha, hb, hcw => by
    have hN := hr.1.2.2
    have kC : k = C := by omega
    refine ⟨Y, N, s, ?_, ?_, hr, h52, hw, ha, oN.rf, kC ▸ hcw⟩
    · unfold fX10_lineUp_L4; rw [if_neg (by rw [hN.2.2.1.2.1]; omega)]
    · unfold fX11_layBest_L7; rw [if_neg (by rw [hN.2.1.2.1]; omega)]
  | m + 1, n + 1, k, s, Y, N, hk, hn, hs, hr, h52, hw, ha, hb, hcw => by
    have hX := hr.1.1
    have hM := hr.1.2.1
    have hN := hr.1.2.2
    have h16 := hN.1
    have hC := hr.2.2.2.2.2.2.1 k (by omega)
    have gk : (0 : Int) ≤ (k : Int) ∧ (k : Int) < 24 := by omega
    by_cases z : gI N 82 0 k = 3
    · have gs : (0 : Int) ≤ (s : Int) ∧ (s : Int) < 24 := by omega
      have l32 : ∀ κ' : zS → Int → Option (Int × zS), fX10_lineUp_L32 κ' 0 3 (s : Int) (k : Int) k nf nf Y (s : Int) = κ' Y (s : Int) := by
        intro κ'
        obtain ⟨nf, rfl⟩ : ∃ j, nf = j + 1 := ⟨nf - 1, by omega⟩
        unfold fX10_lineUp_L32
        by_cases s0 : s = 0
        · rw [if_neg (by omega)]
        · obtain ⟨x, x1, x2, x3, -⟩ := hw (s - 1) (by omega)
          have b := hb (s - 1) (by omega)
          have gs1 : (0 : Int) ≤ (((s - 1 : Nat)) : Int) ∧ ((s - 1 : Nat) : Int) < 24 := by omega
          have ws : wr ((s : Int) - 1) = ((s - 1 : Nat) : Int) := ((wrd (s : Int) (by omega) (by omega)).2).trans (by omega)
          have nl : ¬ k < x := by omega
          clear b
          rw [if_pos (by clear ws; omega)]
          simp only [nm_eq, up_eq, cl_some, ob_some, oe_some, oe_none, ob_none, hX.2.1 3 (by decide), ws, g_t gs1, Int.toNat_natCast, x2, ahead3 hr (show k < C by clear ws; omega) x1, nl, ↓reduceIte]
      have hr2 : RR P C K D (sR Y 14 0 s (some k)) (sI (sI N 117 0 s k) 64 0 52 ((s + 1 : Nat) : Int)) := hr.sc (fun _ => rfl) (fun _ => rfl) (eqS_sR rfl .rf) (fun _ _ _ => rfl) (eqS_sI rfl (eqS_sI rfl .rf))
      obtain ⟨Y', N', s', a1, a2, a3, a4, a5, a6, a7, a8⟩ := row3L hnf κ m n (k + 1) (s + 1) _ _ (by omega) (by omega) (by omega) hr2 (by simp only [gI_sI, gI_sR, gI_sN, gI_sCp, gI_sB, gR_sI, gR_sR, gR_sN, gR_sCp, gR_sB, gN_sI, gN_sR, gN_sN, gN_sCp, gN_sB, ↓reduceIte, and_true, true_and, and_false, false_and, and_self, or_true, true_or, or_false, false_or, or_self, Nat.reduceEqDiff, Int.reduceNeg, ne_eq, not_true_eq_false, not_false_eq_true, Int.toNat_natCast, reduceCtorEq, i10, i01, implies_true, true_implies, false_implies, g_t (c := True) trivial]) (fun j hj => by
        by_cases e : j = s
        · subst e
          exact ⟨k, by omega, by simp only [gI_sI, gI_sR, gI_sN, gI_sCp, gI_sB, gR_sI, gR_sR, gR_sN, gR_sCp, gR_sB, gN_sI, gN_sR, gN_sN, gN_sCp, gN_sB, ↓reduceIte, and_true, true_and, and_false, false_and, and_self, or_true, true_or, or_false, false_or, or_self, Nat.reduceEqDiff, Int.reduceNeg, ne_eq, not_true_eq_false, not_false_eq_true, Int.toNat_natCast, reduceCtorEq, i10, i01, implies_true, true_implies, false_implies, g_t (c := True) trivial], by simp only [gI_sI, gI_sR, gI_sN, gI_sCp, gI_sB, gR_sI, gR_sR, gR_sN, gR_sCp, gR_sB, gN_sI, gN_sR, gN_sN, gN_sCp, gN_sB, ↓reduceIte, and_true, true_and, and_false, false_and, and_self, or_true, true_or, or_false, false_or, or_self, Nat.reduceEqDiff, Int.reduceNeg, ne_eq, not_true_eq_false, not_false_eq_true, Int.toNat_natCast, reduceCtorEq, i10, i01, implies_true, true_implies, false_implies, g_t (c := True) trivial], z⟩
        · obtain ⟨x, x1, x2, x3, x4⟩ := hw j (by omega)
          exact ⟨x, x1, by simp only [gI_sI, gI_sR, gI_sN, gI_sCp, gI_sB, gR_sI, gR_sR, gR_sN, gR_sCp, gR_sB, gN_sI, gN_sR, gN_sN, gN_sCp, gN_sB, ↓reduceIte, and_true, true_and, and_false, false_and, and_self, or_true, true_or, or_false, false_or, or_self, Nat.reduceEqDiff, Int.reduceNeg, ne_eq, not_true_eq_false, not_false_eq_true, Int.toNat_natCast, reduceCtorEq, i10, i01, implies_true, true_implies, false_implies, g_t (c := True) trivial, e]; exact x2, by simp only [gI_sI, gI_sR, gI_sN, gI_sCp, gI_sB, gR_sI, gR_sR, gR_sN, gR_sCp, gR_sB, gN_sI, gN_sR, gN_sN, gN_sCp, gN_sB, ↓reduceIte, and_true, true_and, and_false, false_and, and_self, or_true, true_or, or_false, false_or, or_self, Nat.reduceEqDiff, Int.reduceNeg, ne_eq, not_true_eq_false, not_false_eq_true, Int.toNat_natCast, reduceCtorEq, i10, i01, implies_true, true_implies, false_implies, g_t (c := True) trivial, e]; exact x3, x4⟩) (fun i j hij hj => by
        have ei : ¬ i = s := by omega
        by_cases e : j = s
        · subst e
          simp only [gI_sI, gI_sR, gI_sN, gI_sCp, gI_sB, gR_sI, gR_sR, gR_sN, gR_sCp, gR_sB, gN_sI, gN_sR, gN_sN, gN_sCp, gN_sB, ↓reduceIte, and_true, true_and, and_false, false_and, and_self, or_true, true_or, or_false, false_or, or_self, Nat.reduceEqDiff, Int.reduceNeg, ne_eq, not_true_eq_false, not_false_eq_true, Int.toNat_natCast, reduceCtorEq, i10, i01, implies_true, true_implies, false_implies, g_t (c := True) trivial, ei]
          exact hb i (by omega)
        · simp only [gI_sI, gI_sR, gI_sN, gI_sCp, gI_sB, gR_sI, gR_sR, gR_sN, gR_sCp, gR_sB, gN_sI, gN_sR, gN_sN, gN_sCp, gN_sB, ↓reduceIte, and_true, true_and, and_false, false_and, and_self, or_true, true_or, or_false, false_or, or_self, Nat.reduceEqDiff, Int.reduceNeg, ne_eq, not_true_eq_false, not_false_eq_true, Int.toNat_natCast, reduceCtorEq, i10, i01, implies_true, true_implies, false_implies, g_t (c := True) trivial, ei, e]
          exact ha i j hij (by omega)) (fun j hj => by
        by_cases e : j = s
        · subst e; simp only [gI_sI, gI_sR, gI_sN, gI_sCp, gI_sB, gR_sI, gR_sR, gR_sN, gR_sCp, gR_sB, gN_sI, gN_sR, gN_sN, gN_sCp, gN_sB, ↓reduceIte, and_true, true_and, and_false, false_and, and_self, or_true, true_or, or_false, false_or, or_self, Nat.reduceEqDiff, Int.reduceNeg, ne_eq, not_true_eq_false, not_false_eq_true, Int.toNat_natCast, reduceCtorEq, i10, i01, implies_true, true_implies, false_implies, g_t (c := True) trivial]; omega
        · simp only [gI_sI, gI_sR, gI_sN, gI_sCp, gI_sB, gR_sI, gR_sR, gR_sN, gR_sCp, gR_sB, gN_sI, gN_sR, gN_sN, gN_sCp, gN_sB, ↓reduceIte, and_true, true_and, and_false, false_and, and_self, or_true, true_or, or_false, false_or, or_self, Nat.reduceEqDiff, Int.reduceNeg, ne_eq, not_true_eq_false, not_false_eq_true, Int.toNat_natCast, reduceCtorEq, i10, i01, implies_true, true_implies, false_implies, g_t (c := True) trivial, e]
          have := hb j (by omega)
          omega) (by
        rw [cw_cg (N := N) (fun x => by simp only [gI_sI, gI_sR, gI_sN, gI_sCp, gI_sB, gR_sI, gR_sR, gR_sN, gR_sCp, gR_sB, gN_sI, gN_sR, gN_sN, gN_sCp, gN_sB, ↓reduceIte, and_true, true_and, and_false, false_and, and_self, or_true, true_or, or_false, false_or, or_self, Nat.reduceEqDiff, Int.reduceNeg, ne_eq, not_true_eq_false, not_false_eq_true, Int.toNat_natCast, reduceCtorEq, i10, i01, implies_true, true_implies, false_implies, g_t (c := True) trivial])]
        unfold cw
        rw [if_pos z, hcw])
      refine ⟨Y', N', s', ?_, ?_, a3, a4, a5, a6, ⟨a7.1, a7.2.1, fun t i j h1 h2 => ?_⟩, a8.trans (cw_cg (fun x => by simp only [gI_sI, gI_sR, gI_sN, gI_sCp, gI_sB, gR_sI, gR_sR, gR_sN, gR_sCp, gR_sB, gN_sI, gN_sR, gN_sN, gN_sCp, gN_sB, ↓reduceIte, and_true, true_and, and_false, false_and, and_self, or_true, true_or, or_false, false_or, or_self, Nat.reduceEqDiff, Int.reduceNeg, ne_eq, not_true_eq_false, not_false_eq_true, Int.toNat_natCast, reduceCtorEq, i10, i01, implies_true, true_implies, false_implies, g_t (c := True) trivial]) C)⟩
      · conv => lhs; unfold fX10_lineUp_L4
        rw [if_pos (by rw [hN.2.2.1.2.1]; omega)]
        simp only [nm_eq, up_eq, cl_some, ob_some, oe_some, oe_none, ob_none, hX.2.1 1 (by decide), g_t gk, Int.toNat_natCast, hC.1.1, hC.2.2.1.1, z, ↓reduceIte]
        rw [l32]
        simp only [hX.2.1 3 (by decide), nm_eq, up_eq, cl_some, ob_some, oe_some, oe_none, ob_none, g_t gs, Int.toNat_natCast, nat_wr s (by omega), nat_wr k (by omega)]
        exact a1
      · conv => lhs; unfold fX11_layBest_L7
        rw [if_pos (by rw [hN.2.1.2.1]; omega)]
        simp only [nm_eq, up_eq, cl_some, ob_some, oe_some, oe_none, ob_none, hM.2 16 rfl, hM.2 51 rfl, g_t gk, Int.toNat_natCast, z, ↓reduceIte, h52, g_t gs, gI_sI, ↓reduceIte, and_true, true_and, and_false, false_and, and_self, or_true, true_or, or_false, false_or, or_self, Nat.reduceEqDiff, Int.reduceNeg, ne_eq, not_true_eq_false, not_false_eq_true, Int.toNat_natCast, reduceCtorEq, i10, i01, implies_true, true_implies, false_implies, g_t (c := True) trivial, nat_wr s (by omega), nat_wr k (by omega)]
        exact a2
      · rw [a7.2.2 t i j h1 h2, gI_sI, if_neg (fun q => h2 ⟨q.1, q.2.2⟩), gI_sI, if_neg (fun q => h1 q.1)]
    · obtain ⟨Y', N', s', a1, a2, a3⟩ := row3L hnf κ m n (k + 1) s Y N (by omega) (by omega) (by omega) hr h52 hw ha (fun j hj => by have := hb j hj; omega) (by unfold cw; rw [if_neg z, hcw]; rfl)
      refine ⟨Y', N', s', ?_, ?_, a3⟩
      · conv => lhs; unfold fX10_lineUp_L4
        rw [if_pos (by rw [hN.2.2.1.2.1]; omega)]
        simp only [nm_eq, up_eq, cl_some, ob_some, oe_some, oe_none, ob_none, hX.2.1 1 (by decide), g_t gk, Int.toNat_natCast, hC.1.1, hC.2.2.1.1, z, ↓reduceIte, nat_wr k (by omega)]
        exact a1
      · conv => lhs; unfold fX11_layBest_L7
        rw [if_pos (by rw [hN.2.1.2.1]; omega)]
        simp only [nm_eq, up_eq, cl_some, ob_some, oe_some, oe_none, ob_none, hM.2 16 rfl, g_t gk, Int.toNat_natCast, z, ↓reduceIte, nat_wr k (by omega)]
        exact a2
end AS
