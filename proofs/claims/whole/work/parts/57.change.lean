/-! ===== change: the model's run, both together ===== -/
section CM
variable {T : Nat → Int} {X M : zS}
theorem copyL {nf : Nat} (hM : RM M) : ∀ (m n k : Nat) (N : zS), k + m = 6 → m < n → onl pM N M → ∃ N', fX11_tryRest_L118 0 nf n N k = some (1, N') ∧ onl pM N' M ∧ gI N' 64 0 46 = gI N 64 0 46 ∧ ∀ j, gI N' 110 0 j = if k ≤ j ∧ j < 6 then gI N 111 0 j else gI N 110 0 j
  | 0, n + 1, k, N, hk, _, hN => by
    unfold fX11_tryRest_L118
    rw [if_neg (by omega)]
    exact ⟨N, rfl, hN, rfl, fun j => by rw [if_neg (by omega)]⟩
  | m + 1, n + 1, k, N, hk, hn, hN => by
    have r1 : gR N 64 0 44 = some 0 := (hN.2.1 64 0 44).trans (hM.2 44 rfl)
    have r2 : gR N 64 0 45 = some 0 := (hN.2.1 64 0 45).trans (hM.2 45 rfl)
    have g : (0 : Int) ≤ (k : Int) ∧ (k : Int) < 6 := by omega
    unfold fX11_tryRest_L118
    rw [if_pos (by omega)]
    simp only [nm_eq, up_eq, cl_some, ob_some, oe_some, oe_none, ob_none, r1, r2, g_t g, Int.toNat_natCast, nat_wr k (by omega)]
    obtain ⟨N', a1, a2, a3, a4⟩ := copyL (nf := nf) hM m n (k + 1) (sI N 110 0 k (gI N 111 0 k)) (by omega) (by omega) (hN.sI ⟨Or.inl rfl, rfl⟩)
    refine ⟨N', a1, a2, a3, fun j => ?_⟩
    rw [a4]
    simp only [gI_sI, gI_sR, gI_sN, gI_sCp, gI_sB, gR_sI, gR_sR, gR_sN, gR_sCp, gR_sB, gN_sI, gN_sR, gN_sN, gN_sCp, gN_sB, ↓reduceIte, and_true, true_and, and_false, false_and, and_self, or_true, true_or, or_false, false_or, or_self, Nat.reduceEqDiff, Int.reduceNeg, ne_eq, not_true_eq_false, not_false_eq_true, Int.toNat_natCast, reduceCtorEq, i10, i01, implies_true, true_implies, false_implies, g_t (c := True) trivial]
    by_cases c : j = k
    · subst c
      rw [if_neg (by omega), if_pos rfl, if_pos (by omega)]
    · rw [if_neg c]
      by_cases d : k + 1 ≤ j ∧ j < 6
      · rw [if_pos d, if_pos (by omega)]
      · rw [if_neg d, if_neg (by omega)]
theorem tryL (h0 : ∀ j, 0 ≤ T j) (hM : RM M) (hL : ∀ k, k < 6 → gI M 92 0 k = T k) {nf : Nat} (κ : zS → Int → Int → Option (Int × zS)) : ∀ (m n : Nat) (N : zS) (c r : Int), m ≤ 4 → m < n → onl pM N M → 0 ≤ r → r ≤ 3000 → 0 ≤ c → c + r ≤ 100000 → fX11_tryRest_L8 κ 0 nf n N r c ((m : Int) - 1) = κ (gvs 111 0 T m r N) (gr T m r) (c + gc T m r)
  | 0, n + 1, N, c, r, _, _, _, _, _, _, _ => by
    unfold fX11_tryRest_L8
    rw [if_pos (by omega)]
    show κ N r c = κ N r (c + 0)
    rw [Int.add_zero]
  | m + 1, n + 1, N, c, r, hm, hn, hN, hr, hr2, hc, hc2 => by
    have e1 : ((m + 1 : Nat) : Int) - 1 = m := by omega
    have g : (0 : Int) ≤ (m : Int) ∧ (m : Int) < 6 := by omega
    have hz : zWt m ≠ 0 := by unfold zWt; split <;> omega
    have q := wrq (j := m) hr hr2
    have b := kk_b (h0 m) hr
    have bm : kk T m r ≤ kk T m r * zWt m := by
      have := Int.mul_le_mul_of_nonneg_left (show 1 ≤ zWt m by unfold zWt; split <;> omega) b.1
      rwa [Int.mul_one] at this
    have hT : gI N 92 0 m = T m := (hN.2.2 92 0 m (by unfold pM; omega)).trans (hL m (by omega))
    have r1 : gR N 64 0 26 = some 0 := (hN.2.1 64 0 26).trans (hM.2 26 rfl)
    have r2 : gR N 64 0 45 = some 0 := (hN.2.1 64 0 45).trans (hM.2 45 rfl)
    rw [e1]
    unfold fX11_tryRest_L8
    rw [if_neg (by omega), worth_eq N (by omega)]
    have fin : ∀ u : Int, u = kk T m r → (nm_ (wr (c + gI (sI N 111 0 m u) 111 0 m)) fun (x_26 : Int) => nm_ (wr ((m : Int) + (-1))) fun (x_27 : Int) => fX11_tryRest_L8 κ 0 nf n (sI N 111 0 m u) (wr (r - (wr ((gI (sI N 111 0 m u) 111 0 m) * zWt m)))) x_26 x_27) = κ (gvs 111 0 T (m + 1) r N) (gr T (m + 1) r) (c + gc T (m + 1) r) := by
      intro u hu
      subst hu
      simp only [nm_eq, up_eq, cl_some, ob_some, oe_some, oe_none, ob_none, gI_sI, ↓reduceIte, and_true, true_and, and_false, false_and, and_self, or_true, true_or, or_false, false_or, or_self, Nat.reduceEqDiff, Int.reduceNeg, ne_eq, not_true_eq_false, not_false_eq_true, Int.toNat_natCast, reduceCtorEq, i10, i01, implies_true, true_implies, false_implies, g_t (c := True) trivial]
      rw [wr_id (z := kk T m r * zWt m) (by unfold zin; omega), wr_id (z := r - kk T m r * zWt m) (by unfold zin; omega), wr_id (z := c + kk T m r) (by unfold zin; omega), (wrd m (by omega) (by omega)).1]
      rw [tryL h0 hM hL κ m n (sI N 111 0 m (kk T m r)) _ _ (by omega) (by omega) (hN.sI ⟨Or.inr (Or.inl rfl), rfl⟩) (by omega) (by omega) (by omega) (by omega)]
      show _ = κ _ _ (c + (kk T m r + gc T m (r - kk T m r * zWt m)))
      rw [Int.add_assoc]
      rfl
    simp only [nm_eq, up_eq, cl_some, ob_some, oe_some, oe_none, ob_none, r1, r2, gR_sI, g_t g, g_t hz, Int.toNat_natCast, q.1, hT, worth_eq _ (show m < 6 by omega)] at fin ⊢
    by_cases lt : r / zWt m < T m
    · rw [if_pos lt]
      exact fin _ (by unfold kk imin; rw [if_pos lt])
    · rw [if_neg lt]
      exact fin _ (by unfold kk imin; rw [if_neg lt])
/-- what the model's best holds -/
def MS (M : zS) (S : Int × (Nat → Int)) (N : zS) : Prop := onl pM N M ∧ gI N 64 0 46 = S.1 ∧ (S.1 ≠ -9 → ∀ k, k < 6 → gI N 110 0 k = S.2 k)
theorem mStep (h0 : ∀ j, 0 ≤ T j) (hM : RM M) (hL : ∀ k, k < 6 → gI M 92 0 k = T k) {nf : Nat} (hnf : 1000 ≤ nf) (κ : zS → Option (Unit × zS)) {amt a b : Int} (hamt : amt ≤ 3000) (ha : 0 ≤ a) (hb : 0 ≤ b) (hab : 60 * a + 30 * b ≤ amt) {S : Int × (Nat → Int)} {N : zS} (hS : MS M S N) (n : Nat) :
    ∃ N', fX11_layChange_L81 κ 0 amt a (amt - 60 * a) nf (n + 1) N b = fX11_layChange_L81 κ 0 amt a (amt - 60 * a) nf n N' (b - 1) ∧ MS M (stepS T amt a b S) N' := by
  obtain ⟨hN, h46, hV⟩ := hS
  have w1 : wr (30 * b) = 30 * b := wr_id (by unfold zin; omega)
  have w2 : wr (amt - 60 * a - 30 * b) = amt - 60 * a - 30 * b := wr_id (by unfold zin; omega)
  have w3 : wr (a + b) = a + b := wr_id (by unfold zin; omega)
  have r2 : gR N 64 0 45 = some 0 := (hN.2.1 64 0 45).trans (hM.2 45 rfl)
  have gcb := gc_b h0 4 (amt - 60 * a - 30 * b) (by omega)
  have fc : cand T amt a b = (if gr T 4 (amt - 60 * a - 30 * b) = 0 then a + b + gc T 4 (amt - 60 * a - 30 * b) else -9) := rfl
  conv => enter [1, N', 1, 1]; unfold fX11_layChange_L81
  rw [if_neg (by omega)]
  simp only [nm_eq, up_eq, cl_some, ob_some, oe_some, oe_none, ob_none, r2, gR_sI, g_t (show (0 : Int) ≤ 5 ∧ (5 : Int) < 6 by omega), g_t (show (0 : Int) ≤ 4 ∧ (4 : Int) < 6 by omega), w1, w2, w3, (wrd b hb (by omega)).1]
  unfold fX11_tryRest
  have tl := fun κ' => tryL h0 hM hL (nf := nf) κ' 4 nf (sI (sI N 111 0 (Int.toNat 5) a) 111 0 (Int.toNat 4) b) (a + b) (amt - 60 * a - 30 * b) (by omega) (by omega) ((hN.sI ⟨Or.inr (Or.inl rfl), rfl⟩).sI ⟨Or.inr (Or.inl rfl), rfl⟩) (by omega) (by omega) (by omega) (by omega)
  have e3 : ((4 : Nat) : Int) - 1 = 3 := rfl
  rw [e3] at tl
  rw [tl]
  generalize hZ : gvs 111 0 T 4 (amt - 60 * a - 30 * b) (sI (sI N 111 0 (Int.toNat 5) a) 111 0 (Int.toNat 4) b) = Z
  have oZ : onl pM Z M := by
    rw [← hZ]
    exact gvs_o 111 0 T (fun _ => ⟨Or.inr (Or.inl rfl), rfl⟩) 4 _ _ ((hN.sI ⟨Or.inr (Or.inl rfl), rfl⟩).sI ⟨Or.inr (Or.inl rfl), rfl⟩)
  have vZ : ∀ k, k < 6 → gI Z 111 0 k = vecT T amt a b k := by
    intro k hk
    rw [← hZ, gvs_gI]
    unfold vecT
    by_cases k4 : k < 4
    · rw [if_pos ⟨rfl, rfl, k4⟩, if_neg (by omega), if_neg (by omega)]
    · rw [if_neg (fun q => k4 q.2.2)]
      have e5 : Int.toNat 5 = 5 := rfl
      have e4 : Int.toNat 4 = 4 := rfl
      by_cases k5 : k = 5
      · subst k5; simp only [e5, e4, gI_sI, gI_sR, gI_sN, gI_sCp, gI_sB, gR_sI, gR_sR, gR_sN, gR_sCp, gR_sB, gN_sI, gN_sR, gN_sN, gN_sCp, gN_sB, ↓reduceIte, and_true, true_and, and_false, false_and, and_self, or_true, true_or, or_false, false_or, or_self, Nat.reduceEqDiff, Int.reduceNeg, ne_eq, not_true_eq_false, not_false_eq_true, Int.toNat_natCast, reduceCtorEq, i10, i01, implies_true, true_implies, false_implies, g_t (c := True) trivial]
      · have : k = 4 := by omega
        subst this; simp only [e5, e4, gI_sI, gI_sR, gI_sN, gI_sCp, gI_sB, gR_sI, gR_sR, gR_sN, gR_sCp, gR_sB, gN_sI, gN_sR, gN_sN, gN_sCp, gN_sB, ↓reduceIte, and_true, true_and, and_false, false_and, and_self, or_true, true_or, or_false, false_or, or_self, Nat.reduceEqDiff, Int.reduceNeg, ne_eq, not_true_eq_false, not_false_eq_true, Int.toNat_natCast, reduceCtorEq, i10, i01, implies_true, true_implies, false_implies, g_t (c := True) trivial]
  have v1 : ∀ k, gI Z 110 0 k = gI N 110 0 k := by
    intro k
    rw [← hZ, gvs_gI, if_neg (by omega)]
    simp only [gI_sI, gI_sR, gI_sN, gI_sCp, gI_sB, gR_sI, gR_sR, gR_sN, gR_sCp, gR_sB, gN_sI, gN_sR, gN_sN, gN_sCp, gN_sB, ↓reduceIte, and_true, true_and, and_false, false_and, and_self, or_true, true_or, or_false, false_or, or_self, Nat.reduceEqDiff, Int.reduceNeg, ne_eq, not_true_eq_false, not_false_eq_true, Int.toNat_natCast, reduceCtorEq, i10, i01, implies_true, true_implies, false_implies, g_t (c := True) trivial]
  have v46 : gI Z 64 0 46 = S.1 := by
    rw [← h46, ← hZ, gvs_gI, if_neg (by omega)]
    simp only [gI_sI, gI_sR, gI_sN, gI_sCp, gI_sB, gR_sI, gR_sR, gR_sN, gR_sCp, gR_sB, gN_sI, gN_sR, gN_sN, gN_sCp, gN_sB, ↓reduceIte, and_true, true_and, and_false, false_and, and_self, or_true, true_or, or_false, false_or, or_self, Nat.reduceEqDiff, Int.reduceNeg, ne_eq, not_true_eq_false, not_false_eq_true, Int.toNat_natCast, reduceCtorEq, i10, i01, implies_true, true_implies, false_implies, g_t (c := True) trivial]
  unfold stepS
  have keep : MS M S Z := ⟨oZ, v46, fun q k hk => (v1 k).trans (hV q k hk)⟩
  obtain ⟨N', c1, c2, c3, c4⟩ := copyL (nf := nf) hM 6 nf 0 (sI Z 64 0 46 (a + b + gc T 4 (amt - 60 * a - 30 * b))) (by omega) (by omega) (oZ.sI ⟨Or.inr (Or.inr ⟨rfl, rfl⟩), rfl⟩)
  have new : cand T amt a b ≠ -9 → MS M (cand T amt a b, vecT T amt a b) N' := by
    intro u
    refine ⟨c2, ?_, fun _ k hk => ?_⟩
    · rw [c3, gI_sI, if_pos ⟨rfl, rfl, rfl⟩, fc, if_pos]
      apply Decidable.byContradiction
      intro q
      rw [fc, if_neg q] at u
      exact u rfl
    · rw [c4, if_pos ⟨Nat.zero_le k, hk⟩]
      simp only [gI_sI, gI_sR, gI_sN, gI_sCp, gI_sB, gR_sI, gR_sR, gR_sN, gR_sCp, gR_sB, gN_sI, gN_sR, gN_sN, gN_sCp, gN_sB, ↓reduceIte, and_true, true_and, and_false, false_and, and_self, or_true, true_or, or_false, false_or, or_self, Nat.reduceEqDiff, Int.reduceNeg, ne_eq, not_true_eq_false, not_false_eq_true, Int.toNat_natCast, reduceCtorEq, i10, i01, implies_true, true_implies, false_implies, g_t (c := True) trivial]
      exact vZ k hk
  have c1 : fX11_tryRest_L118 0 nf nf (sI Z 64 0 46 (a + b + gc T 4 (amt - 60 * a - 30 * b))) 0 = some (1, N') := c1
  by_cases u0 : gr T 4 (amt - 60 * a - 30 * b) = 0
  · rw [if_pos u0] at fc ⊢
    have u1 : cand T amt a b ≠ -9 := by omega
    simp only [nm_eq, up_eq, cl_some, ob_some, oe_some, oe_none, ob_none, v46, c1]
    by_cases u2 : S.1 = -9
    · rw [if_pos u2, if_pos ⟨u1, Or.inl u2⟩]
      exact ⟨N', rfl, new u1⟩
    rw [if_neg u2]
    by_cases u3 : a + b + gc T 4 (amt - 60 * a - 30 * b) < S.1
    · rw [if_pos u3, if_pos ⟨u1, Or.inr (by omega)⟩]
      exact ⟨N', rfl, new u1⟩
    · rw [if_neg u3, if_neg (fun q => by have := q.2; omega)]
      exact ⟨Z, rfl, keep⟩
  · rw [if_neg u0] at fc ⊢
    rw [if_neg (fun q => q.1 fc)]
    exact ⟨Z, by rw [cl_some], keep⟩
end CM
