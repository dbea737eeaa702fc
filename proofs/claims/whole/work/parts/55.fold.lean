/-! ===== change: which pairs of counts are tried ===== -/
def gvv (T : Nat → Int) : Nat → Int → Nat → Int
  | 0, _, _ => 0
  | j + 1, r, k => if k = j then kk T j r else gvv T j (r - kk T j r * zWt j) k
def vecT (T : Nat → Int) (amt a b : Int) (k : Nat) : Int := if k = 5 then a else if k = 4 then b else gvv T 4 (amt - 60 * a - 30 * b) k
abbrev updC (best c : Int) : Prop := c ≠ -9 ∧ (best = -9 ∨ c < best)
def stepS (T : Nat → Int) (amt a b : Int) (S : Int × (Nat → Int)) : Int × (Nat → Int) := if updC S.1 (cand T amt a b) then (cand T amt a b, vecT T amt a b) else S
def allb (T : Nat → Int) (amt a : Int) : Nat → Int × (Nat → Int) → Int × (Nat → Int)
  | 0, S => stepS T amt a 0 S
  | b + 1, S => allb T amt a b (stepS T amt a ((b + 1 : Nat) : Int) S)
def twob (T : Nat → Int) (amt a : Int) : Nat → Int × (Nat → Int) → Int × (Nat → Int)
  | 0, S => stepS T amt a 0 S
  | b + 1, S => stepS T amt a (b : Int) (stepS T amt a ((b + 1 : Nat) : Int) S)
def b0N (T : Nat → Int) (amt : Int) (a : Nat) : Nat := (imin (T 4) ((amt - 60 * a) / 30)).toNat
def alla (T : Nat → Int) (amt : Int) : Nat → Int × (Nat → Int) → Int × (Nat → Int)
  | 0, S => allb T amt ((0 : Nat) : Int) (b0N T amt 0) S
  | a + 1, S => alla T amt a (allb T amt ((a + 1 : Nat) : Int) (b0N T amt (a + 1)) S)
def twoa (T : Nat → Int) (amt : Int) : Nat → Int × (Nat → Int) → Int × (Nat → Int)
  | 0, S => twob T amt ((0 : Nat) : Int) (b0N T amt 0) S
  | a + 1, S => twob T amt (a : Int) (b0N T amt a) (twob T amt ((a + 1 : Nat) : Int) (b0N T amt (a + 1)) S)
section FO
variable {T : Nat → Int} {amt : Int}
def good (T : Nat → Int) (amt : Int) (S : Int × (Nat → Int)) (a b : Int) : Prop := cand T amt a b = -9 ∨ (S.1 ≠ -9 ∧ S.1 ≤ cand T amt a b)
theorem step_same {S : Int × (Nat → Int)} {a b : Int} (h : good T amt S a b) : stepS T amt a b S = S := by
  unfold stepS
  rw [if_neg]
  rintro ⟨u1, u2⟩
  rcases h with h | h
  · exact u1 h
  · omega
theorem step_good (S : Int × (Nat → Int)) (a b : Int) : good T amt (stepS T amt a b S) a b := by
  unfold stepS good
  by_cases u : updC S.1 (cand T amt a b)
  · rw [if_pos u]; exact Or.inr ⟨u.1, Int.le_refl _⟩
  · rw [if_neg u]
    by_cases c : cand T amt a b = -9
    · exact Or.inl c
    · refine Or.inr ?_
      unfold updC at u
      omega
theorem step_keep {S : Int × (Nat → Int)} {a b : Int} (a' b' : Int) (h : good T amt S a b) : good T amt (stepS T amt a' b' S) a b := by
  unfold stepS
  by_cases u : updC S.1 (cand T amt a' b')
  · rw [if_pos u]
    unfold good at h ⊢
    rcases h with h | h
    · exact Or.inl h
    · refine Or.inr ⟨u.1, ?_⟩
      have := u.2
      show cand T amt a' b' ≤ _
      omega
  · rw [if_neg u]; exact h
theorem good_30 (h0 : ∀ j, 0 ≤ T j) {S : Int × (Nat → Int)} {a b : Int} (ha : 0 ≤ a) (hb : 0 ≤ b) (h : good T amt S a (b + 2)) (hl : 60 * a + 30 * (b + 2) ≤ amt) : good T amt S a b := by
  by_cases c : cand T amt a b = -9
  · exact Or.inl c
  · have q := cand_30 h0 ha hb c hl
    unfold good at h ⊢
    omega
/-- what lies two below is beaten -/
theorem allb_same (h0 : ∀ j, 0 ≤ T j) {S : Int × (Nat → Int)} {a : Int} (ha : 0 ≤ a) : ∀ b : Nat, 60 * a + 30 * ((b : Int) + 2) ≤ amt → good T amt S a ((b : Int) + 2) → good T amt S a ((b : Int) + 1) → allb T amt a b S = S ∧ ∀ b' : Nat, b' ≤ b → good T amt S a b'
  | 0, hl, g2, g1 => by
    have g := good_30 h0 ha (b := 0) (by omega) g2 hl
    refine ⟨step_same g, fun b' hb' => ?_⟩
    have : b' = 0 := by omega
    subst this
    exact g
  | b + 1, hl, g2, g1 => by
    have g := good_30 h0 ha (b := ((b + 1 : Nat) : Int)) (by omega) g2 hl
    unfold allb
    rw [step_same g]
    have e1 : ((b + 1 : Nat) : Int) + 1 = (b : Int) + 2 := by omega
    have e2 : ((b + 1 : Nat) : Int) = (b : Int) + 1 := by omega
    have ih := allb_same h0 ha b (by omega) (by rw [← e1]; exact g1) (by rw [← e2]; exact g)
    refine ⟨ih.1, fun b' hb' => ?_⟩
    by_cases e : b' = b + 1
    · subst e; exact g
    · exact ih.2 b' (by omega)
theorem allb_two (h0 : ∀ j, 0 ≤ T j) (S : Int × (Nat → Int)) {a : Int} (ha : 0 ≤ a) (b : Nat) (hl : 60 * a + 30 * (b : Int) ≤ amt) : allb T amt a b S = twob T amt a b S ∧ ∀ b' : Nat, b' ≤ b → good T amt (twob T amt a b S) a b' := by
  cases b with
  | zero =>
    refine ⟨rfl, fun b' hb' => ?_⟩
    have : b' = 0 := by omega
    subst this
    exact step_good S a 0
  | succ b =>
    cases b with
    | zero =>
      refine ⟨rfl, fun b' hb' => ?_⟩
      have : b' = 0 ∨ b' = 1 := by omega
      rcases this with rfl | rfl
      · exact step_good (stepS T amt a ((0 + 1 : Nat) : Int) S) a 0
      · exact step_keep _ _ (step_good S a _)
    | succ b =>
      have g1 : good T amt (twob T amt a (b + 2) S) a ((b + 2 : Nat) : Int) := step_keep _ _ (step_good S a _)
      have g2 : good T amt (twob T amt a (b + 2) S) a ((b + 1 : Nat) : Int) := step_good _ a _
      have e1 : ((b + 2 : Nat) : Int) = (b : Int) + 2 := by omega
      have e2 : ((b + 1 : Nat) : Int) = (b : Int) + 1 := by omega
      have q := allb_same h0 (amt := amt) (S := twob T amt a (b + 2) S) ha b (by omega) (by rw [← e1]; exact g1) (by rw [← e2]; exact g2)
      refine ⟨q.1, fun b' hb' => ?_⟩
      by_cases c1 : b' = b + 2
      · subst c1; exact g1
      by_cases c2 : b' = b + 1
      · subst c2; exact g2
      exact q.2 b' (by omega)
theorem b0N_eq (h0 : ∀ j, 0 ≤ T j) {a : Nat} (hl : 60 * (a : Int) ≤ amt) : ((b0N T amt a : Nat) : Int) = imin (T 4) ((amt - 60 * a) / 30) ∧ 60 * (a : Int) + 30 * (b0N T amt a : Nat) ≤ amt := by
  have := h0 4
  unfold b0N imin
  split <;> omega
/-- a row of 60s two below is beaten -/
theorem row_same (h0 : ∀ j, 0 ≤ T j) {S : Int × (Nat → Int)} {a : Nat} (hl : 60 * ((a : Int) + 2) ≤ amt) (hg : ∀ b' : Nat, b' ≤ b0N T amt (a + 1) → good T amt S ((a + 1 : Nat) : Int) b') : ∀ b : Nat, b ≤ b0N T amt a → good T amt S a b := by
  intro b hb
  have q := b0N_eq h0 (a := a) (amt := amt) (by omega)
  have q1 := b0N_eq h0 (a := a + 1) (amt := amt) (by omega)
  have e : ((a + 1 : Nat) : Int) = (a : Int) + 1 := by omega
  by_cases c : cand T amt a b = -9
  · exact Or.inl c
  have k0 : (b : Int) ≤ imin (T 4) ((amt - 60 * a) / 30) := by omega
  have e6 : (amt - 60 * ((a + 1 : Nat) : Int)) / 30 = (amt - 60 * a) / 30 - 2 := by omega
  have k1 : ((b0N T amt (a + 1) : Nat) : Int) = imin (T 4) ((amt - 60 * a) / 30 - 2) := by rw [q1.1, e6]
  unfold imin at k0 k1
  by_cases b2 : b < 2
  · have w := cand_60 h0 (a := a) (b := b) (by omega) (by omega) c (by omega)
    have g := hg b (by
      split at k0 <;> split at k1 <;> omega)
    unfold good at g ⊢
    rw [e] at g
    omega
  · have w := cand_sw h0 (a := a) (b := b) (by omega) (by omega) c (by omega)
    have g := hg (b - 2) (by
      split at k0 <;> split at k1 <;> omega)
    unfold good at g ⊢
    rw [e, show ((b - 2 : Nat) : Int) = (b : Int) - 2 by omega] at g
    omega
theorem allb_good {S : Int × (Nat → Int)} {a : Int} : ∀ b : Nat, (∀ b' : Nat, b' ≤ b → good T amt S a b') → allb T amt a b S = S
  | 0, g => step_same (g 0 (Nat.le_refl 0))
  | b + 1, g => by
    unfold allb
    rw [step_same (g (b + 1) (Nat.le_refl _))]
    exact allb_good b fun b' hb' => g b' (by omega)
theorem alla_same (h0 : ∀ j, 0 ≤ T j) {S : Int × (Nat → Int)} : ∀ a : Nat, 60 * ((a : Int) + 2) ≤ amt → (∀ b' : Nat, b' ≤ b0N T amt (a + 1) → good T amt S ((a + 1 : Nat) : Int) b') → alla T amt a S = S
  | 0, hl, hg => allb_good _ (row_same h0 hl hg)
  | a + 1, hl, hg => by
    have g := row_same h0 hl hg
    unfold alla
    rw [allb_good _ g]
    exact alla_same h0 a (by omega) g
theorem alla_two (h0 : ∀ j, 0 ≤ T j) (S : Int × (Nat → Int)) (a : Nat) (hl : 60 * (a : Int) ≤ amt) : alla T amt a S = twoa T amt a S := by
  cases a with
  | zero => exact (allb_two h0 S (by omega) _ (b0N_eq h0 hl).2).1
  | succ a =>
    have q1 := allb_two h0 S (a := ((a + 1 : Nat) : Int)) (by omega) _ (b0N_eq h0 hl).2
    have hl2 : 60 * (a : Int) ≤ amt := by omega
    have q2 := allb_two h0 (twob T amt ((a + 1 : Nat) : Int) (b0N T amt (a + 1)) S) (a := (a : Int)) (by omega) _ (b0N_eq h0 hl2).2
    unfold alla twoa
    rw [q1.1]
    cases a with
    | zero => exact q2.1
    | succ a =>
      unfold alla
      rw [q2.1]
      exact alla_same h0 a (by omega) q2.2
end FO
