/-! ===== change: lower kinds by greed ===== -/
def kk (t : Nat → Int) (j : Nat) (r : Int) : Int := imin (t j) (r / zWt j)
def gr (t : Nat → Int) : Nat → Int → Int
  | 0, r => r
  | j + 1, r => gr t j (r - kk t j r * zWt j)
def gc (t : Nat → Int) : Nat → Int → Int
  | 0, _ => 0
  | j + 1, r => kk t j r + gc t j (r - kk t j r * zWt j)
theorem kk_b {t : Nat → Int} {j : Nat} {r : Int} (ht : 0 ≤ t j) (hr : 0 ≤ r) : 0 ≤ kk t j r ∧ kk t j r * zWt j ≤ r ∧ kk t j r ≤ r := by
  unfold kk imin zWt
  split <;> split <;> omega
/-- u less to fill, u a multiple of w: as many coins less as u counts in w, or more -/
def less (t : Nat → Int) (m : Nat) (w : Int) : Prop := ∀ r s : Int, 0 ≤ s → s * w ≤ r → gr t m r = 0 → gr t m (r - s * w) = 0 ∧ gc t m (r - s * w) + s ≤ gc t m r
theorem less1 {t : Nat → Int} (ht : 0 ≤ t 0) : less t 1 1 := by
  intro r s hs hr h
  simp only [gr, gc, kk, imin, zWt] at h ⊢
  split at h <;> split <;> omega
theorem less2 {t : Nat → Int} (h0 : ∀ j, 0 ≤ t j) : less t 2 3 := by
  intro r s hs hr h
  have b := kk_b (h0 1) (show 0 ≤ r by omega)
  have e1 : ∀ x, gr t 2 x = gr t 1 (x - kk t 1 x * 3) := fun _ => rfl
  have e2 : ∀ x, gc t 2 x = kk t 1 x + gc t 1 (x - kk t 1 x * 3) := fun _ => rfl
  rw [e1] at h ⊢
  rw [e2, e2]
  have b2 : kk t 1 r * 3 ≤ r := b.2.1
  have l := less1 (h0 0) (r - kk t 1 r * 3)
  have k1 : kk t 1 r = imin (t 1) (r / 3) := rfl
  have k2 : kk t 1 (r - s * 3) = imin (t 1) ((r - s * 3) / 3) := rfl
  have d : (r - s * 3) / 3 = r / 3 - s := by omega
  rw [d] at k2
  unfold imin at k1 k2
  have := h0 1
  by_cases c1 : r / 3 < t 1
  · rw [if_pos c1] at k1
    rw [if_pos (by omega)] at k2
    have : r - s * 3 - kk t 1 (r - s * 3) * 3 = r - kk t 1 r * 3 := by omega
    rw [this, k2, k1]
    rw [k1] at h
    refine ⟨h, by omega⟩
  · rw [if_neg c1] at k1
    by_cases c2 : r / 3 - s < t 1
    · rw [if_pos c2] at k2
      have l := l ((r / 3 - t 1) * 3) (by omega) (by omega) h
      have : r - s * 3 - kk t 1 (r - s * 3) * 3 = r - kk t 1 r * 3 - (r / 3 - t 1) * 3 * 1 := by omega
      rw [this]
      refine ⟨l.1, by omega⟩
    · rw [if_neg c2] at k2
      have l := l (s * 3) (by omega) (by omega) h
      have : r - s * 3 - kk t 1 (r - s * 3) * 3 = r - kk t 1 r * 3 - s * 3 * 1 := by omega
      rw [this]
      refine ⟨l.1, by omega⟩
theorem less3 {t : Nat → Int} (h0 : ∀ j, 0 ≤ t j) : less t 3 6 := by
  intro r s hs hr h
  have b := kk_b (h0 2) (show 0 ≤ r by omega)
  have e1 : ∀ x, gr t 3 x = gr t 2 (x - kk t 2 x * 6) := fun _ => rfl
  have e2 : ∀ x, gc t 3 x = kk t 2 x + gc t 2 (x - kk t 2 x * 6) := fun _ => rfl
  rw [e1] at h ⊢
  rw [e2, e2]
  have b2 : kk t 2 r * 6 ≤ r := b.2.1
  have l := less2 h0 (r - kk t 2 r * 6)
  have k1 : kk t 2 r = imin (t 2) (r / 6) := rfl
  have k2 : kk t 2 (r - s * 6) = imin (t 2) ((r - s * 6) / 6) := rfl
  have d : (r - s * 6) / 6 = r / 6 - s := by omega
  rw [d] at k2
  unfold imin at k1 k2
  have := h0 2
  by_cases c1 : r / 6 < t 2
  · rw [if_pos c1] at k1
    rw [if_pos (by omega)] at k2
    have : r - s * 6 - kk t 2 (r - s * 6) * 6 = r - kk t 2 r * 6 := by omega
    rw [this, k2, k1]
    rw [k1] at h
    refine ⟨h, by omega⟩
  · rw [if_neg c1] at k1
    by_cases c2 : r / 6 - s < t 2
    · rw [if_pos c2] at k2
      have l := l ((r / 6 - t 2) * 2) (by omega) (by omega) h
      have : r - s * 6 - kk t 2 (r - s * 6) * 6 = r - kk t 2 r * 6 - (r / 6 - t 2) * 2 * 3 := by omega
      rw [this]
      refine ⟨l.1, by omega⟩
    · rw [if_neg c2] at k2
      have l := l (s * 2) (by omega) (by omega) h
      have : r - s * 6 - kk t 2 (r - s * 6) * 6 = r - kk t 2 r * 6 - s * 2 * 3 := by omega
      rw [this]
      refine ⟨l.1, by omega⟩
theorem less4 {t : Nat → Int} (h0 : ∀ j, 0 ≤ t j) : less t 4 12 := by
  intro r s hs hr h
  have b := kk_b (h0 3) (show 0 ≤ r by omega)
  have e1 : ∀ x, gr t 4 x = gr t 3 (x - kk t 3 x * 12) := fun _ => rfl
  have e2 : ∀ x, gc t 4 x = kk t 3 x + gc t 3 (x - kk t 3 x * 12) := fun _ => rfl
  rw [e1] at h ⊢
  rw [e2, e2]
  have b2 : kk t 3 r * 12 ≤ r := b.2.1
  have l := less3 h0 (r - kk t 3 r * 12)
  have k1 : kk t 3 r = imin (t 3) (r / 12) := rfl
  have k2 : kk t 3 (r - s * 12) = imin (t 3) ((r - s * 12) / 12) := rfl
  have d : (r - s * 12) / 12 = r / 12 - s := by omega
  rw [d] at k2
  unfold imin at k1 k2
  have := h0 3
  by_cases c1 : r / 12 < t 3
  · rw [if_pos c1] at k1
    rw [if_pos (by omega)] at k2
    have : r - s * 12 - kk t 3 (r - s * 12) * 12 = r - kk t 3 r * 12 := by omega
    rw [this, k2, k1]
    rw [k1] at h
    refine ⟨h, by omega⟩
  · rw [if_neg c1] at k1
    by_cases c2 : r / 12 - s < t 3
    · rw [if_pos c2] at k2
      have l := l ((r / 12 - t 3) * 2) (by omega) (by omega) h
      have : r - s * 12 - kk t 3 (r - s * 12) * 12 = r - kk t 3 r * 12 - (r / 12 - t 3) * 2 * 6 := by omega
      rw [this]
      refine ⟨l.1, by omega⟩
    · rw [if_neg c2] at k2
      have l := l (s * 2) (by omega) (by omega) h
      have : r - s * 12 - kk t 3 (r - s * 12) * 12 = r - kk t 3 r * 12 - s * 2 * 6 := by omega
      rw [this]
      refine ⟨l.1, by omega⟩
/-- what is counted for a 60s and b 30s; -9 if the rest cannot be filled -/
def cand (t : Nat → Int) (amt a b : Int) : Int := if gr t 4 (amt - 60 * a - 30 * b) = 0 then a + b + gc t 4 (amt - 60 * a - 30 * b) else -9
theorem gc_b {t : Nat → Int} (h0 : ∀ j, 0 ≤ t j) : ∀ m r, 0 ≤ r → 0 ≤ gc t m r ∧ gc t m r ≤ r
  | 0, r, h => by unfold gc; omega
  | m + 1, r, h => by
    have b := kk_b (h0 m) h
    have ih := gc_b h0 m (r - kk t m r * zWt m) (by omega)
    have z : 1 ≤ zWt m := by unfold zWt; split <;> omega
    have : kk t m r ≤ kk t m r * zWt m := by
      have := Int.mul_le_mul_of_nonneg_left z b.1
      rwa [Int.mul_one] at this
    unfold gc
    omega
theorem cand_30 {t : Nat → Int} (h0 : ∀ j, 0 ≤ t j) {amt a b : Int} (ha : 0 ≤ a) (hb0 : 0 ≤ b) (h : cand t amt a b ≠ -9) (hb : 60 * a + 30 * (b + 2) ≤ amt) : cand t amt a (b + 2) ≠ -9 ∧ cand t amt a (b + 2) ≤ cand t amt a b := by
  unfold cand at h ⊢
  by_cases c : gr t 4 (amt - 60 * a - 30 * b) = 0
  · have l := less4 h0 (amt - 60 * a - 30 * b) 5 (by omega) (by omega) c
    rw [show amt - 60 * a - 30 * b - 5 * 12 = amt - 60 * a - 30 * (b + 2) by omega] at l
    have g := gc_b h0 4 (amt - 60 * a - 30 * (b + 2)) (by omega)
    rw [if_pos l.1, if_pos c]
    omega
  · rw [if_neg c] at h; exact absurd rfl h
theorem cand_60 {t : Nat → Int} (h0 : ∀ j, 0 ≤ t j) {amt a b : Int} (ha : 0 ≤ a) (hb0 : 0 ≤ b) (h : cand t amt a b ≠ -9) (hb : 60 * (a + 1) + 30 * b ≤ amt) : cand t amt (a + 1) b ≠ -9 ∧ cand t amt (a + 1) b ≤ cand t amt a b := by
  unfold cand at h ⊢
  by_cases c : gr t 4 (amt - 60 * a - 30 * b) = 0
  · have l := less4 h0 (amt - 60 * a - 30 * b) 5 (by omega) (by omega) c
    rw [show amt - 60 * a - 30 * b - 5 * 12 = amt - 60 * (a + 1) - 30 * b by omega] at l
    have g := gc_b h0 4 (amt - 60 * (a + 1) - 30 * b) (by omega)
    rw [if_pos l.1, if_pos c]
    omega
  · rw [if_neg c] at h; exact absurd rfl h
theorem cand_sw {t : Nat → Int} (h0 : ∀ j, 0 ≤ t j) {amt a b : Int} (ha : 0 ≤ a) (hb0 : 2 ≤ b) (h : cand t amt a b ≠ -9) (hb : 60 * a + 30 * b ≤ amt) : cand t amt (a + 1) (b - 2) ≠ -9 ∧ cand t amt (a + 1) (b - 2) ≤ cand t amt a b := by
  unfold cand at h ⊢
  rw [show amt - 60 * (a + 1) - 30 * (b - 2) = amt - 60 * a - 30 * b by omega]
  have g := gc_b h0 4 (amt - 60 * a - 30 * b) (by omega)
  by_cases c : gr t 4 (amt - 60 * a - 30 * b) = 0
  · rw [if_pos c, if_pos c]; omega
  · rw [if_neg c] at h; exact absurd rfl h
