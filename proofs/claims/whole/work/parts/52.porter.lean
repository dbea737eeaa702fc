/-! ===== the porter's way ===== -/
def upN (M : zS) (q : Nat) : Nat := (gI M 67 0 q).toNat
/-- length up from a to its ancestor b -/
def cl (M : zS) : Nat → Nat → Nat → Int
  | 0, _, _ => 0
  | n + 1, a, b => if a = b then 0 else gI M 69 0 a + cl M n (upN M a) b
/-- the first of b and those above it that a lies below -/
def top (M : zS) (a : Nat) : Nat → Nat → Nat
  | 0, b => b
  | n + 1, b => if below M 16 a b = true then b else top M a n (upN M b)
section PW
variable {P C K : Nat} {D : Int} {X M : zS}
theorem upN_lt (hr : RR P C K D X M) {q : Nat} (h0 : 0 < q) (hq : q < P) : upN M q < q ∧ gI M 67 0 q = upN M q := by
  obtain ⟨r, r1, r2, -⟩ := par hr h0 hq
  unfold upN
  rw [r2]; simp; omega
theorem cl_b (hr : RR P C K D X M) : ∀ n a b, a < P → below M n a b = true → 0 ≤ cl M n a b ∧ cl M n a b ≤ 20 * a
  | 0, a, b, _, _ => by simp [cl]
  | n + 1, a, b, ha, hb => by
    unfold cl
    by_cases e : a = b
    · rw [if_pos e]; omega
    · rw [if_neg e]
      by_cases h0 : a = 0
      · subst h0; rw [below_0] at hb; simp at hb; omega
      · have hb := hb
        rw [below_s M n a b (by omega) e] at hb
        have u := upN_lt hr (by omega) ha
        have ih := cl_b hr n (upN M a) b (by omega) hb
        have hP := hr.2.2.2.2.1 a ha
        have := (hP.2.2.1 (by omega)).2.2.1
        omega
theorem cl_f (hr : RR P C K D X M) : ∀ n m a b, a < P → a ≤ n → a ≤ m → below M 16 a b = true → cl M n a b = cl M m a b := by
  intro n
  induction n with
  | zero =>
    intro m a b ha hn hm hb
    have : a = 0 := by omega
    subst this
    rw [below_0] at hb
    have : 0 = b := by simpa using hb
    subst this
    cases m <;> simp [cl]
  | succ n ih =>
    intro m a b ha hn hm hb
    cases m with
    | zero =>
      have : a = 0 := by omega
      subst this
      rw [below_0] at hb
      have : 0 = b := by simpa using hb
      subst this
      simp [cl]
    | succ m =>
      unfold cl
      by_cases e : a = b
      · rw [if_pos e, if_pos e]
      · rw [if_neg e, if_neg e]
        by_cases h0 : a = 0
        · subst h0; rw [below_0] at hb; simp at hb; omega
        · have u := upN_lt hr (by omega) ha
          rw [ih m (upN M a) b (by omega) (by omega) (by omega)]
          have h16 := hr.1.2.2.1
          have := below_s M 15 a b (by omega) e
          rw [this] at hb
          sorry
end PW
