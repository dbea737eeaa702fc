/-! ===== the next line ===== -/
theorem oN.sI {Y Z : zS} {t i k : Nat} {v : Int} (q : t = 117) (h : oN Y Z) : oN (sI Y t i k v) Z := ⟨h.1, h.2.1, fun t' i' k' a b => by
  rw [gI_sI, if_neg]
  · exact h.2.2 t' i' k' a b
  · rintro ⟨rfl, rfl, rfl⟩; exact a q⟩
def Rw (s : Nat) (asc : Nat → Nat) (N : zS) (a : Nat → Nat) : Prop := ∀ j, j < s → gI N 117 0 j = ((asc (a j) : Nat) : Int)
section NX
variable {M : zS}
theorem rp {N : zS} (hM : RM M) (h : oN N M) : gR N 64 0 51 = some 0 := (h.2.1 64 0 51).trans (hM.2 51 rfl)
theorem nx7 {nf s : Nat} (hM : RM M) (hs : s ≤ 6) {asc : Nat → Nat} (hasc : ∀ x y, x < s → y < s → (asc x < asc y ↔ x < y)) {N : zS} (hN : oN N M) {a : Nat → Nat} (ha : ∀ j, j < s → a j < s) (hR : Rw s asc N a) (κ : zS → Int → Option (Int × zS)) : ∀ k n, k + 1 ≤ s → k < n → fX11_nextLine_L7 κ 0 nf n N ((k : Int) - 1) = κ N ((sc1 a k).elim (-1) fun y => (y : Int))
  | 0, n + 1, hk, hn => by
    unfold fX11_nextLine_L7
    rw [if_pos (by omega)]
    rfl
  | k + 1, n + 1, hk, hn => by
    have e1 : ((k + 1 : Nat) : Int) - 1 = k := by omega
    have g : (0 : Int) ≤ (k : Int) ∧ (k : Int) < 24 := by omega
    have g1 : (0 : Int) ≤ ((k + 1 : Nat) : Int) ∧ ((k + 1 : Nat) : Int) < 24 := by omega
    have q1 := hR (k + 1) (by omega)
    have q0 := hR k (by omega)
    have c := hasc (a (k + 1)) (a k) (ha _ (by omega)) (ha _ (by omega))
    rw [e1]
    unfold fX11_nextLine_L7
    rw [if_neg (by omega)]
    simp only [nm_eq, up_eq, cl_some, ob_some, oe_some, oe_none, ob_none, rp hM hN, nat_wr k (by omega), g_t g, g_t g1, Int.toNat_natCast, q1, q0, (wrd (k : Int) (by omega) (by omega)).1]
    have es : sc1 a (k + 1) = if a (k + 1) < a k then sc1 a k else some k := rfl
    rw [es]
    by_cases l : a (k + 1) < a k
    · rw [if_pos (by have := c.mpr l; omega), if_pos l]
      exact nx7 hM hs hasc hN ha hR κ k n (by omega) (by omega)
    · rw [if_neg (by intro x; exact l (c.mp (by omega))), if_neg l]
      rfl
theorem nx47 {nf s : Nat} (hM : RM M) (hs : s ≤ 6) {asc : Nat → Nat} (hasc : ∀ x y, x < s → y < s → (asc x < asc y ↔ x < y)) {N : zS} (hN : oN N M) {a : Nat → Nat} (ha : ∀ j, j < s → a j < s) (hR : Rw s asc N a) {y : Nat} (hy : ¬ a (y + 1) < a y) (κ : zS → Int → Option (Int × zS)) : ∀ k n, y < k → k < s → k < n → fX11_nextLine_L47 κ 0 (y : Int) nf n N (k : Int) = κ N ((sc2 a y k : Nat) : Int) ∧ sc2 a y k < s
  | 0, _, h, _, _ => by omega
  | k + 1, n + 1, hyk, hk, hn => by
    have g1 : (0 : Int) ≤ ((k + 1 : Nat) : Int) ∧ ((k + 1 : Nat) : Int) < 24 := by omega
    have gy : (0 : Int) ≤ (y : Int) ∧ (y : Int) < 24 := by omega
    have q1 := hR (k + 1) (by omega)
    have q0 := hR y (by omega)
    have c := hasc (a (k + 1)) (a y) (ha _ (by omega)) (ha _ (by omega))
    have es : sc2 a y (k + 1) = if a (k + 1) < a y then sc2 a y k else k + 1 := rfl
    have w : wr (((k + 1 : Nat) : Int) + -1) = (k : Int) := ((wrd ((k + 1 : Nat) : Int) (by omega) (by omega)).1).trans (by omega)
    unfold fX11_nextLine_L47
    simp only [nm_eq, up_eq, cl_some, ob_some, oe_some, oe_none, ob_none, rp hM hN, g_t gy, g_t g1, Int.toNat_natCast, q1, q0, w]
    clear w
    rw [es]
    by_cases l : a (k + 1) < a y
    · rw [if_pos (by have := c.mpr l; omega), if_pos l]
      have : y < k := by
        rcases Nat.lt_or_ge y k with h | h
        · exact h
        · have : k = y := by omega
          subst this; exact absurd l hy
      exact nx47 hM hs hasc hN ha hR hy κ k n this (by omega) (by omega)
    · rw [if_neg (by intro x; exact l (c.mp (by omega))), if_neg l]
      exact ⟨rfl, hk⟩
theorem swap_eq {s : Nat} (hM : RM M) (hs : s ≤ 6) {asc : Nat → Nat} {N : zS} (hN : oN N M) {a : Nat → Nat} (hR : Rw s asc N a) {x y : Nat} (hx : x < s) (hy : y < s) : ∃ N', fX11_swap N 0 (x : Int) (y : Int) = some ((), N') ∧ oN N' M ∧ gI N' 64 0 52 = gI N 64 0 52 ∧ Rw s asc N' (sw a x y) := by
  have gx : (0 : Int) ≤ (x : Int) ∧ (x : Int) < 24 := by omega
  have gy : (0 : Int) ≤ (y : Int) ∧ (y : Int) < 24 := by omega
  refine ⟨sI (sI N 117 0 x (asc (a y))) 117 0 y (asc (a x)), ?_, (hN.sI rfl).sI rfl, rfl, fun j hj => ?_⟩
  · unfold fX11_swap
    simp only [nm_eq, up_eq, cl_some, ob_some, oe_some, oe_none, ob_none, rp hM hN, gR_sI, g_t gx, g_t gy, Int.toNat_natCast, hR x hx, hR y hy]
  · simp only [gI_sI, gI_sR, gI_sN, gI_sCp, gI_sB, gR_sI, gR_sR, gR_sN, gR_sCp, gR_sB, gN_sI, gN_sR, gN_sN, gN_sCp, gN_sB, ↓reduceIte, and_true, true_and, and_false, false_and, and_self, or_true, true_or, or_false, false_or, or_self, Nat.reduceEqDiff, Int.reduceNeg, ne_eq, not_true_eq_false, not_false_eq_true, Int.toNat_natCast, reduceCtorEq, i10, i01, implies_true, true_implies, false_implies, g_t (c := True) trivial]
    unfold sw
    by_cases e : j = y
    · rw [if_pos e, if_pos e]
    · rw [if_neg e, if_neg e]
      by_cases e2 : j = x
      · rw [if_pos e2, if_pos e2]
      · rw [if_neg e2, if_neg e2]; exact hR j hj
theorem nx86 {nf s : Nat} (hM : RM M) (hs : s ≤ 6) {asc : Nat → Nat} : ∀ (f n : Nat) (N : zS) (a : Nat → Nat) (x y : Nat), oN N M → Rw s asc N a → y < x + 2 * f → f < n → y < s → ∃ N', fX11_nextLine_L86 0 nf n N (x : Int) (y : Int) = some (1, N') ∧ oN N' M ∧ gI N' 64 0 52 = gI N 64 0 52 ∧ Rw s asc N' (rv f a x y)
  | 0, n + 1, N, a, x, y, hN, hR, hxy, _, hy => by
    refine ⟨N, ?_, hN, rfl, hR⟩
    unfold fX11_nextLine_L86
    rw [if_neg (by omega)]
  | f + 1, n + 1, N, a, x, y, hN, hR, hxy, hn, hy => by
    have er : rv (f + 1) a x y = if x < y then rv f (sw a x y) (x + 1) (y - 1) else a := rfl
    rw [er]
    by_cases l : x < y
    · obtain ⟨N1, f1, f2, f3, f4⟩ := swap_eq hM hs hN hR (show x < s by omega) hy
      obtain ⟨N', g1, g2, g3, g4⟩ := nx86 (nf := nf) hM hs f n N1 (sw a x y) (x + 1) (y - 1) f2 f4 (by omega) (by omega) (by omega)
      have w : wr ((y : Int) + -1) = ((y - 1 : Nat) : Int) := ((wrd (y : Int) (by omega) (by omega)).1).trans (by omega)
      refine ⟨N', ?_, g2, g3.trans f3, by rw [if_pos l]; exact g4⟩
      unfold fX11_nextLine_L86
      rw [if_pos (by clear w; omega), f1]
      simp only [cl_some, nm_eq, nat_wr x (by clear w; omega), w]
      exact g1
    · refine ⟨N, ?_, hN, rfl, by rw [if_neg l]; exact hR⟩
      unfold fX11_nextLine_L86
      rw [if_neg (by omega)]
theorem next_eq {nf s : Nat} (hnf : 1000 ≤ nf) (hM : RM M) (h0 : 0 < s) (hs : s ≤ 6) {asc : Nat → Nat} (hasc : ∀ x y, x < s → y < s → (asc x < asc y ↔ x < y)) {N : zS} (hN : oN N M) (h52 : gI N 64 0 52 = s) {a : Nat → Nat} (ha : ∀ j, j < s → a j < s) (hR : Rw s asc N a) :
    match nextA s a with
    | none => fX11_nextLine nf N 0 = some (0, N)
    | some a' => ∃ N', fX11_nextLine nf N 0 = some (1, N') ∧ oN N' M ∧ gI N' 64 0 52 = s ∧ Rw s asc N' a' := by
  have w2 : wr ((s : Int) - 2) = ((s - 1 : Nat) : Int) - 1 := (wr_id (by unfold zin; omega)).trans (by omega)
  have w1 : wr ((s : Int) - 1) = ((s - 1 : Nat) : Int) := (wr_id (by unfold zin; omega)).trans (by omega)
  have st := fun κ => nx7 (nf := nf) hM hs hasc hN ha hR κ (s - 1) nf (by clear w1 w2; omega) (by clear w1 w2; omega)
  unfold fX11_nextLine nextA
  rw [h52, nm_eq, w2, st]
  clear w2
  cases e : sc1 a (s - 1) with
  | none =>
    show (if (-1 : Int) < 0 then some ((0 : Int), N) else _) = _
    rw [if_pos (by decide)]
  | some y =>
    have hy : ∀ k y, sc1 a k = some y → y < k ∧ ¬ a (y + 1) < a y := by
      intro k
      induction k with
      | zero => intro y h; cases h
      | succ k ih =>
        intro y h
        have es : sc1 a (k + 1) = if a (k + 1) < a k then sc1 a k else some k := rfl
        rw [es] at h
        by_cases l : a (k + 1) < a k
        · rw [if_pos l] at h
          have := ih y h
          exact ⟨by clear w1; omega, this.2⟩
        · rw [if_neg l] at h
          cases h
          exact ⟨by clear w1; omega, l⟩
    obtain ⟨y1, y2⟩ := hy _ _ e
    obtain ⟨-, z2⟩ := nx47 (nf := nf) hM hs hasc hN ha hR y2 (fun _ _ => none) (s - 1) nf y1 (by clear w1; omega) (by clear w1; omega)
    obtain ⟨N1, f1, f2, f3, f4⟩ := swap_eq hM hs hN hR (show y < s by clear w1; omega) z2
    obtain ⟨N', g1, g2, g3, g4⟩ := nx86 (nf := nf) hM hs s nf N1 _ (y + 1) (s - 1) f2 f4 (by clear w1; omega) (by clear w1; omega) (by clear w1; omega)
    refine ⟨N', ?_, g2, (g3.trans f3).trans h52, g4⟩
    show (if (y : Int) < 0 then some ((0 : Int), N) else _) = _
    simp only [oe_some]
    rw [if_neg (by clear w1; omega), h52, nm_eq, w1, (nx47 (nf := nf) hM hs hasc hN ha hR y2 _ (s - 1) nf y1 (by clear w1; omega) (by clear w1; omega)).1, f1]
    have h52' : gI N1 64 0 52 = s := f3.trans h52
    simp only [cl_some, nm_eq, h52', w1, nat_wr y (by clear w1; omega)]
    exact g1
end NX
