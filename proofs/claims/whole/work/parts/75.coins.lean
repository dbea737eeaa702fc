/-! ===== coins put, taken, emptied ===== -/
theorem putL {i : Nat} {a b : Nat} (hab : a ≠ b) : ∀ (m n k : Nat) (Y : zS), k + m = 6 → m < n → gR Y 4 i 0 = some a → ∃ Y', fX3_put_L2 i (some b) n Y (k : Int) = some ((), Y') ∧ onl (fun t j _ => t = 15 ∧ j = a) Y' Y ∧ ∀ j, gI Y' 15 a j = if k ≤ j ∧ j < 6 then wr (gI Y 15 a j + gI Y 15 b j) else gI Y 15 a j
  | 0, n + 1, k, Y, hk, _, _ => by
    unfold fX3_put_L2
    rw [if_neg (by omega)]
    exact ⟨Y, rfl, .rf, fun j => by rw [if_neg (by omega)]⟩
  | m + 1, n + 1, k, Y, hk, hn, hr => by
    have g : (0 : Int) ≤ (k : Int) ∧ (k : Int) < 6 := by omega
    obtain ⟨Y', a1, a2, a3⟩ := putL hab m n (k + 1) (sI Y 15 a k (wr (gI Y 15 a k + gI Y 15 b k))) (by omega) (by omega) hr
    refine ⟨Y', ?_, a2.tr (onl.rf.sI ⟨rfl, rfl⟩), fun j => ?_⟩
    · unfold fX3_put_L2
      rw [if_pos (by omega)]
      simp only [nm_eq, up_eq, cl_some, ob_some, oe_some, oe_none, ob_none, hr, g_t g, Int.toNat_natCast, nat_wr k (by omega)]
      exact a1
    · rw [a3]
      have e2 : ¬ b = a := fun x => hab x.symm
      by_cases e : j = k
      · subst e
        rw [if_neg (by omega), if_pos (by omega)]
        simp only [gI_sI, gI_sR, gI_sN, gI_sCp, gI_sB, gR_sI, gR_sR, gR_sN, gR_sCp, gR_sB, gN_sI, gN_sR, gN_sN, gN_sCp, gN_sB, ↓reduceIte, and_true, true_and, and_false, false_and, and_self, or_true, true_or, or_false, false_or, or_self, Nat.reduceEqDiff, Int.reduceNeg, ne_eq, not_true_eq_false, not_false_eq_true, Int.toNat_natCast, reduceCtorEq, i10, i01, implies_true, true_implies, false_implies, g_t (c := True) trivial]
      · simp only [gI_sI, gI_sR, gI_sN, gI_sCp, gI_sB, gR_sI, gR_sR, gR_sN, gR_sCp, gR_sB, gN_sI, gN_sR, gN_sN, gN_sCp, gN_sB, ↓reduceIte, and_true, true_and, and_false, false_and, and_self, or_true, true_or, or_false, false_or, or_self, Nat.reduceEqDiff, Int.reduceNeg, ne_eq, not_true_eq_false, not_false_eq_true, Int.toNat_natCast, reduceCtorEq, i10, i01, implies_true, true_implies, false_implies, g_t (c := True) trivial, e, e2]
        by_cases d : k + 1 ≤ j ∧ j < 6
        · rw [if_pos d, if_pos (by omega)]
        · rw [if_neg d, if_neg (by omega)]
theorem takeL {i : Nat} {a b : Nat} (hab : a ≠ b) : ∀ (m n k : Nat) (Y : zS), k + m = 6 → m < n → gR Y 4 i 0 = some a → ∃ Y', fX3_take_L2 i (some b) n Y (k : Int) = some ((), Y') ∧ onl (fun t j _ => t = 15 ∧ j = a) Y' Y ∧ ∀ j, gI Y' 15 a j = if k ≤ j ∧ j < 6 then wr (gI Y 15 a j - gI Y 15 b j) else gI Y 15 a j
  | 0, n + 1, k, Y, hk, _, _ => by
    unfold fX3_take_L2
    rw [if_neg (by omega)]
    exact ⟨Y, rfl, .rf, fun j => by rw [if_neg (by omega)]⟩
  | m + 1, n + 1, k, Y, hk, hn, hr => by
    have g : (0 : Int) ≤ (k : Int) ∧ (k : Int) < 6 := by omega
    obtain ⟨Y', a1, a2, a3⟩ := takeL hab m n (k + 1) (sI Y 15 a k (wr (gI Y 15 a k - gI Y 15 b k))) (by omega) (by omega) hr
    refine ⟨Y', ?_, a2.tr (onl.rf.sI ⟨rfl, rfl⟩), fun j => ?_⟩
    · unfold fX3_take_L2
      rw [if_pos (by omega)]
      simp only [nm_eq, up_eq, cl_some, ob_some, oe_some, oe_none, ob_none, hr, g_t g, Int.toNat_natCast, nat_wr k (by omega)]
      exact a1
    · rw [a3]
      have e2 : ¬ b = a := fun x => hab x.symm
      by_cases e : j = k
      · subst e
        rw [if_neg (by omega), if_pos (by omega)]
        simp only [gI_sI, gI_sR, gI_sN, gI_sCp, gI_sB, gR_sI, gR_sR, gR_sN, gR_sCp, gR_sB, gN_sI, gN_sR, gN_sN, gN_sCp, gN_sB, ↓reduceIte, and_true, true_and, and_false, false_and, and_self, or_true, true_or, or_false, false_or, or_self, Nat.reduceEqDiff, Int.reduceNeg, ne_eq, not_true_eq_false, not_false_eq_true, Int.toNat_natCast, reduceCtorEq, i10, i01, implies_true, true_implies, false_implies, g_t (c := True) trivial]
      · simp only [gI_sI, gI_sR, gI_sN, gI_sCp, gI_sB, gR_sI, gR_sR, gR_sN, gR_sCp, gR_sB, gN_sI, gN_sR, gN_sN, gN_sCp, gN_sB, ↓reduceIte, and_true, true_and, and_false, false_and, and_self, or_true, true_or, or_false, false_or, or_self, Nat.reduceEqDiff, Int.reduceNeg, ne_eq, not_true_eq_false, not_false_eq_true, Int.toNat_natCast, reduceCtorEq, i10, i01, implies_true, true_implies, false_implies, g_t (c := True) trivial, e, e2]
        by_cases d : k + 1 ≤ j ∧ j < 6
        · rw [if_pos d, if_pos (by omega)]
        · rw [if_neg d, if_neg (by omega)]
theorem emptyL {i : Nat} {a : Nat} : ∀ (m n k : Nat) (Y : zS), k + m = 6 → m < n → gR Y 4 i 0 = some a → ∃ Y', fX3_empty_L2 i n Y (k : Int) = some ((), Y') ∧ onl (fun t j _ => t = 15 ∧ j = a) Y' Y ∧ ∀ j, gI Y' 15 a j = if k ≤ j ∧ j < 6 then (0 : Int) else gI Y 15 a j
  | 0, n + 1, k, Y, hk, _, _ => by
    unfold fX3_empty_L2
    rw [if_neg (by omega)]
    exact ⟨Y, rfl, .rf, fun j => by rw [if_neg (by omega)]⟩
  | m + 1, n + 1, k, Y, hk, hn, hr => by
    have g : (0 : Int) ≤ (k : Int) ∧ (k : Int) < 6 := by omega
    obtain ⟨Y', a1, a2, a3⟩ := emptyL m n (k + 1) (sI Y 15 a k ((0 : Int))) (by omega) (by omega) hr
    refine ⟨Y', ?_, a2.tr (onl.rf.sI ⟨rfl, rfl⟩), fun j => ?_⟩
    · unfold fX3_empty_L2
      rw [if_pos (by omega)]
      simp only [nm_eq, up_eq, cl_some, ob_some, oe_some, oe_none, ob_none, hr, g_t g, Int.toNat_natCast, nat_wr k (by omega)]
      exact a1
    · rw [a3]
      by_cases e : j = k
      · subst e
        rw [if_neg (by omega), if_pos (by omega)]
        simp only [gI_sI, gI_sR, gI_sN, gI_sCp, gI_sB, gR_sI, gR_sR, gR_sN, gR_sCp, gR_sB, gN_sI, gN_sR, gN_sN, gN_sCp, gN_sB, ↓reduceIte, and_true, true_and, and_false, false_and, and_self, or_true, true_or, or_false, false_or, or_self, Nat.reduceEqDiff, Int.reduceNeg, ne_eq, not_true_eq_false, not_false_eq_true, Int.toNat_natCast, reduceCtorEq, i10, i01, implies_true, true_implies, false_implies, g_t (c := True) trivial]
      · simp only [gI_sI, gI_sR, gI_sN, gI_sCp, gI_sB, gR_sI, gR_sR, gR_sN, gR_sCp, gR_sB, gN_sI, gN_sR, gN_sN, gN_sCp, gN_sB, ↓reduceIte, and_true, true_and, and_false, false_and, and_self, or_true, true_or, or_false, false_or, or_self, Nat.reduceEqDiff, Int.reduceNeg, ne_eq, not_true_eq_false, not_false_eq_true, Int.toNat_natCast, reduceCtorEq, i10, i01, implies_true, true_implies, false_implies, g_t (c := True) trivial, e]
        by_cases d : k + 1 ≤ j ∧ j < 6
        · rw [if_pos d, if_pos (by omega)]
        · rw [if_neg d, if_neg (by omega)]
