/-! ===== change: what both run ===== -/
def onl (p : Nat → Nat → Nat → Prop) (Y' Y : zS) : Prop := (∀ t, gN Y' t = gN Y t) ∧ (∀ t i k, gR Y' t i k = gR Y t i k) ∧ ∀ t i k, ¬ p t i k → gI Y' t i k = gI Y t i k
theorem onl.rf {p : Nat → Nat → Nat → Prop} {Y : zS} : onl p Y Y := ⟨fun _ => rfl, fun _ _ _ => rfl, fun _ _ _ _ => rfl⟩
theorem onl.tr {p : Nat → Nat → Nat → Prop} {Y Z W : zS} (h : onl p Y Z) (g : onl p Z W) : onl p Y W := ⟨fun t => (h.1 t).trans (g.1 t), fun t i k => (h.2.1 t i k).trans (g.2.1 t i k), fun t i k q => (h.2.2 t i k q).trans (g.2.2 t i k q)⟩
theorem onl.sI {p : Nat → Nat → Nat → Prop} {Y Z : zS} {t i k : Nat} {v : Int} (q : p t i k) (h : onl p Y Z) : onl p (sI Y t i k v) Z := ⟨h.1, h.2.1, fun t' i' k' q' => by
  rw [gI_sI, if_neg]
  · exact h.2.2 t' i' k' q'
  · rintro ⟨rfl, rfl, rfl⟩; exact q' q⟩
def pX (t i _ : Nat) : Prop := t = 15 ∧ (i = 1 ∨ i = 2)
def pM (t i k : Nat) : Prop := (t = 110 ∨ t = 111 ∨ (t = 64 ∧ k = 46)) ∧ i = 0
def gvs (t i : Nat) (T : Nat → Int) : Nat → Int → zS → zS
  | 0, _, Y => Y
  | j + 1, r, Y => gvs t i T j (r - kk T j r * zWt j) (sI Y t i j (kk T j r))
theorem gvs_gI (t i : Nat) (T : Nat → Int) (t' i' k : Nat) : ∀ (m : Nat) (r : Int) (Y : zS), gI (gvs t i T m r Y) t' i' k = if t' = t ∧ i' = i ∧ k < m then gvv T m r k else gI Y t' i' k
  | 0, r, Y => by rw [if_neg (by omega)]; rfl
  | m + 1, r, Y => by
    have ih := gvs_gI t i T t' i' k m (r - kk T m r * zWt m) (sI Y t i m (kk T m r))
    have e : gvs t i T (m + 1) r Y = gvs t i T m (r - kk T m r * zWt m) (sI Y t i m (kk T m r)) := rfl
    have e2 : gvv T (m + 1) r k = if k = m then kk T m r else gvv T m (r - kk T m r * zWt m) k := rfl
    rw [e, ih, gI_sI, e2]
    by_cases a : t' = t ∧ i' = i
    · by_cases b : k = m
      · rw [if_neg (by omega), if_pos ⟨a.1, a.2, b⟩, if_pos ⟨a.1, a.2, by omega⟩, if_pos b]
      · by_cases c : k < m
        · rw [if_pos ⟨a.1, a.2, c⟩, if_pos ⟨a.1, a.2, by omega⟩, if_neg b]
        · rw [if_neg (fun q => c q.2.2), if_neg (fun q => b q.2.2), if_neg (fun q => by omega)]
    · rw [if_neg (fun q => a ⟨q.1, q.2.1⟩), if_neg (fun q => a ⟨q.1, q.2.1⟩), if_neg (fun q => a ⟨q.1, q.2.1⟩)]
theorem gvs_o (t i : Nat) (T : Nat → Int) {p : Nat → Nat → Nat → Prop} (hp : ∀ k, p t i k) {Z : zS} : ∀ (m : Nat) (r : Int) (Y : zS), onl p Y Z → onl p (gvs t i T m r Y) Z
  | 0, _, _, h => h
  | m + 1, r, Y, h => gvs_o t i T hp m _ _ (h.sI (hp m))
theorem wrq {j : Nat} {r : Int} (h : 0 ≤ r) (h2 : r ≤ 3000) : wr (Int.tdiv r (zWt j)) = r / zWt j ∧ 0 ≤ r / zWt j ∧ r / zWt j ≤ 3000 := by
  rw [Int.tdiv_eq_ediv_of_nonneg h]
  have : 0 ≤ r / zWt j ∧ r / zWt j ≤ 3000 := by unfold zWt; split <;> omega
  exact ⟨wr_id (by unfold zin; omega), this⟩
theorem wrd (a : Int) (h : 0 ≤ a) (h2 : a ≤ 100000) : wr (a + -1) = a - 1 ∧ wr (a - 1) = a - 1 := ⟨by rw [wr_id (by unfold zin; omega)]; omega, wr_id (by unfold zin; omega)⟩
section CH
variable {T : Nat → Int} (h0 : ∀ j, 0 ≤ T j) {X M : zS}
theorem fillL (h0 : ∀ j, 0 ≤ T j) (hX1 : gR X 2 0 1 = some 2) (hL : ∀ k, k < 6 → gI X 15 0 k = T k) : ∀ (m n : Nat) (Y : zS) (c r : Int), m ≤ 4 → m < n → onl pX Y X → 0 ≤ r → r ≤ 3000 → 0 ≤ c → c + r ≤ 100000 → fX1_fill_L26 0 (some 0) n Y c r ((m : Int) - 1) = some ((if gr T m r = 0 then c + gc T m r else -9), gvs 15 2 T m r Y)
  | 0, n + 1, Y, c, r, _, _, hY, _, _, _, _ => by
    unfold fX1_fill_L26
    rw [if_pos (by omega)]
    show _ = some ((if r = 0 then c + 0 else -9), Y)
    split <;> simp
  | m + 1, n + 1, Y, c, r, hm, hn, hY, hr, hr2, hc, hc2 => by
    have e1 : ((m + 1 : Nat) : Int) - 1 = m := by omega
    have g : (0 : Int) ≤ (m : Int) ∧ (m : Int) < 6 := by omega
    have hz : zWt m ≠ 0 := by unfold zWt; split <;> omega
    have q := wrq (j := m) hr hr2
    have b := kk_b (h0 m) hr
    have bm : kk T m r ≤ kk T m r * zWt m := by
      have := Int.mul_le_mul_of_nonneg_left (show 1 ≤ zWt m by unfold zWt; split <;> omega) b.1
      rwa [Int.mul_one] at this
    have ek : imin (T m) (r / zWt m) = kk T m r := rfl
    have hT : gI Y 15 0 m = T m := (hY.2.2 15 0 m (by unfold pX; omega)).trans (hL m (by omega))
    have hR : gR Y 2 0 1 = some 2 := (hY.2.1 2 0 1).trans hX1
    rw [e1]
    unfold fX1_fill_L26
    rw [if_neg (by omega)]
    simp only [nm_eq, up_eq, cl_some, ob_some, oe_some, oe_none, ob_none, hR, gR_sI, g_t g, g_t hz, Int.toNat_natCast, q.1, hT, ek, gI_sI, ↓reduceIte, and_true, true_and, and_false, false_and, and_self, or_true, true_or, or_false, false_or, or_self, Nat.reduceEqDiff, Int.reduceNeg, ne_eq, not_true_eq_false, not_false_eq_true, Int.toNat_natCast, reduceCtorEq, i10, i01, implies_true, true_implies, false_implies, g_t (c := True) trivial]
    rw [wr_id (z := kk T m r * zWt m) (by unfold zin; omega), wr_id (z := r - kk T m r * zWt m) (by unfold zin; omega), wr_id (z := c + kk T m r) (by unfold zin; omega), (wrd m (by omega) (by omega)).1]
    rw [fillL h0 hX1 hL m n (sI Y 15 2 m (kk T m r)) _ _ (by omega) (by omega) (hY.sI ⟨rfl, Or.inr rfl⟩) (by omega) (by omega) (by omega) (by omega)]
    show _ = some ((if gr T m (r - kk T m r * zWt m) = 0 then c + (kk T m r + gc T m (r - kk T m r * zWt m)) else -9), _)
    rw [Int.add_assoc]
    rfl
theorem fill_eq (h0 : ∀ j, 0 ≤ T j) (hX1 : gR X 2 0 1 = some 2) (hL : ∀ k, k < 6 → gI X 15 0 k = T k) {nf : Nat} (hnf : 1000 ≤ nf) {Y : zS} (hY : onl pX Y X) {a b r : Int} (ha : 0 ≤ a ∧ a ≤ 3000) (hb : 0 ≤ b ∧ b ≤ 3000) (hr : 0 ≤ r) (hr2 : r ≤ 3000) : fX1_fill nf Y 0 (some 0) a b r = some ((if gr T 4 r = 0 then a + b + gc T 4 r else -9), gvs 15 2 T 4 r (sI (sI Y 15 2 5 a) 15 2 4 b)) := by
  have hR : gR Y 2 0 1 = some 2 := (hY.2.1 2 0 1).trans hX1
  unfold fX1_fill
  simp only [nm_eq, up_eq, cl_some, ob_some, oe_some, oe_none, ob_none, hR, gR_sI, g_t (show (0 : Int) ≤ 5 ∧ (5 : Int) < 6 by omega), g_t (show (0 : Int) ≤ 4 ∧ (4 : Int) < 6 by omega)]
  rw [wr_id (z := a + b) (by unfold zin; omega)]
  exact fillL h0 hX1 hL 4 nf _ _ r (by omega) (by omega) ((hY.sI ⟨rfl, Or.inr rfl⟩).sI ⟨rfl, Or.inr rfl⟩) hr hr2 (by omega) (by omega)
/-- what the class's best holds -/
def XS (X : zS) (S : Int × (Nat → Int)) (Y : zS) : Prop := onl pX Y X ∧ (S.1 ≠ -9 → ∀ k, k < 6 → gI Y 15 1 k = S.2 k)
theorem xStep (h0 : ∀ j, 0 ≤ T j) (hX0 : gR X 2 0 0 = some 1) (hX1 : gR X 2 0 1 = some 2) (hL : ∀ k, k < 6 → gI X 15 0 k = T k) {nf : Nat} (hnf : 1000 ≤ nf) (κ : zS → Int → Option (Int × zS)) {amt a b c4 c7 : Int} (hamt : amt ≤ 3000) (ha : 0 ≤ a) (hb : 0 ≤ b) (hab : 60 * a + 30 * b ≤ amt) (h7 : c7 ≤ b + 1) (h70 : 0 ≤ c7) {S : Int × (Nat → Int)} {Y : zS} (hS : XS X S Y) (n : Nat) :
    ∃ Y', fX1_find_L68 κ 0 0 amt c4 a (amt - 60 * a) c7 nf (n + 1) Y S.1 b = fX1_find_L68 κ 0 0 amt c4 a (amt - 60 * a) c7 nf n Y' (stepS T amt a b S).1 (b - 1) ∧ XS X (stepS T amt a b S) Y' := by
  obtain ⟨hY, hV⟩ := hS
  have e : zWt (Int.toNat 4) = 30 := rfl
  have w1 : wr (b * 30) = 30 * b := by rw [wr_id (by unfold zin; omega)]; omega
  have w2 : wr (amt - 60 * a - 30 * b) = amt - 60 * a - 30 * b := wr_id (by unfold zin; omega)
  have f := fill_eq h0 hX1 hL hnf hY (a := a) (b := b) (r := amt - 60 * a - 30 * b) (by omega) (by omega) (by omega) (by omega)
  have fc : (if gr T 4 (amt - 60 * a - 30 * b) = 0 then a + b + gc T 4 (amt - 60 * a - 30 * b) else -9) = cand T amt a b := rfl
  rw [fc] at f
  generalize hZ : gvs 15 2 T 4 (amt - 60 * a - 30 * b) (sI (sI Y 15 2 5 a) 15 2 4 b) = Z at f
  have oZ : onl pX Z X := by
    rw [← hZ]
    exact gvs_o 15 2 T (fun _ => ⟨rfl, Or.inr rfl⟩) 4 _ _ ((hY.sI ⟨rfl, Or.inr rfl⟩).sI ⟨rfl, Or.inr rfl⟩)
  have vZ : ∀ k, k < 6 → gI Z 15 2 k = vecT T amt a b k := by
    intro k hk
    rw [← hZ, gvs_gI]
    unfold vecT
    by_cases k4 : k < 4
    · rw [if_pos ⟨rfl, rfl, k4⟩, if_neg (by omega), if_neg (by omega)]
    · rw [if_neg (fun q => k4 q.2.2)]
      by_cases k5 : k = 5
      · subst k5; simp only [gI_sI, gI_sR, gI_sN, gI_sCp, gI_sB, gR_sI, gR_sR, gR_sN, gR_sCp, gR_sB, gN_sI, gN_sR, gN_sN, gN_sCp, gN_sB, ↓reduceIte, and_true, true_and, and_false, false_and, and_self, or_true, true_or, or_false, false_or, or_self, Nat.reduceEqDiff, Int.reduceNeg, ne_eq, not_true_eq_false, not_false_eq_true, Int.toNat_natCast, reduceCtorEq, i10, i01, implies_true, true_implies, false_implies, g_t (c := True) trivial]
      · have : k = 4 := by omega
        subst this; simp only [gI_sI, gI_sR, gI_sN, gI_sCp, gI_sB, gR_sI, gR_sR, gR_sN, gR_sCp, gR_sB, gN_sI, gN_sR, gN_sN, gN_sCp, gN_sB, ↓reduceIte, and_true, true_and, and_false, false_and, and_self, or_true, true_or, or_false, false_or, or_self, Nat.reduceEqDiff, Int.reduceNeg, ne_eq, not_true_eq_false, not_false_eq_true, Int.toNat_natCast, reduceCtorEq, i10, i01, implies_true, true_implies, false_implies, g_t (c := True) trivial]
  have v1 : ∀ k, gI Z 15 1 k = gI Y 15 1 k := by
    intro k
    rw [← hZ, gvs_gI, if_neg (by omega)]
    simp only [gI_sI, gI_sR, gI_sN, gI_sCp, gI_sB, gR_sI, gR_sR, gR_sN, gR_sCp, gR_sB, gN_sI, gN_sR, gN_sN, gN_sCp, gN_sB, ↓reduceIte, and_true, true_and, and_false, false_and, and_self, or_true, true_or, or_false, false_or, or_self, Nat.reduceEqDiff, Int.reduceNeg, ne_eq, not_true_eq_false, not_false_eq_true, Int.toNat_natCast, reduceCtorEq, i10, i01, implies_true, true_implies, false_implies, g_t (c := True) trivial]
  have hR1 : gR Z 2 0 1 = some 2 := (oZ.2.1 2 0 1).trans hX1
  have hR0 : gR Z 2 0 0 = some 1 := (oZ.2.1 2 0 0).trans hX0
  conv => enter [1, Y', 1, 1]; unfold fX1_find_L68
  rw [if_neg (by omega), (wrd c7 h70 (by omega)).2, if_neg (by omega)]
  simp only [nm_eq, up_eq, cl_some, ob_some, oe_some, oe_none, ob_none, e, w1, w2, f, g_t (show (0 : Int) ≤ 4 ∧ (4 : Int) < 6 by omega), hR1, hR0, (wrd b hb (by omega)).1]
  unfold stepS
  have keep : XS X S Z := ⟨oZ, fun q k hk => (v1 k).trans (hV q k hk)⟩
  have new : XS X (cand T amt a b, vecT T amt a b) (sCp Z 15 2 0 15 1 0 6) := by
    refine ⟨⟨oZ.1, oZ.2.1, fun t i k q => ?_⟩, fun _ k hk => ?_⟩
    · rw [gI_sCp, if_neg]
      · exact oZ.2.2 t i k q
      · rintro ⟨rfl, rfl, -⟩; exact q ⟨rfl, Or.inl rfl⟩
    · rw [gI_sCp, if_pos ⟨rfl, rfl, by omega, by omega⟩]
      rw [show 0 + (k - 0) = k by omega]
      exact vZ k hk
  by_cases u1 : cand T amt a b = -9
  · rw [if_pos u1, if_neg (fun q => q.1 u1)]
    exact ⟨Z, rfl, keep⟩
  rw [if_neg u1]
  by_cases u2 : S.1 = -9
  · rw [if_pos u2, if_pos ⟨u1, Or.inl u2⟩, g_t (by decide)]
    exact ⟨_, rfl, new⟩
  rw [if_neg u2]
  by_cases u3 : cand T amt a b < S.1
  · rw [if_pos u3, if_pos ⟨u1, Or.inr u3⟩, g_t (by decide)]
    exact ⟨_, rfl, new⟩
  · rw [if_neg u3, if_neg (fun q => by have := q.2; omega)]
    exact ⟨Z, rfl, keep⟩
end CH
