/-! ===== the right child ===== -/
section RCH
variable {P C K : Nat} {D : Int} {X M : zS}
theorem below_lin (hr : RR P C K D X M) {x r : Nat} (hxr : r < x) : ∀ b, b < P → below M 16 b x = true → below M 16 b r = true → below M 16 x r = true := by
  intro b
  induction b using Nat.strongRecOn with
  | _ b ih =>
    intro hb h1 h2
    by_cases e : b = x
    · subst e; exact h2
    · have hbx : x < b := by
        rcases Nat.lt_or_ge x b with q | q
        · exact q
        · rw [below_lt hr 16 b hb (by omega)] at h1; cases h1
      have u := upN_lt hr (q := b) (by omega) hb
      rw [below_16 hr (by omega) hb e] at h1
      rw [below_16 hr (by omega) hb (by omega)] at h2
      exact ih (upN M b) u.1 (by omega) h1 h2
theorem rcX (hr : RR P C K D X M) {a : Nat} : ∀ n b, b < P → b < n → below M 16 b a = true → ¬ b = a → ∃ r, fX10_rightChild_L2 (some a) n X (some b) = some (some r, X) ∧ (0 < r ∧ r < P) ∧ gI M 67 0 r = a ∧ below M 16 b r = true
  | 0, _, _, h, _, _ => by omega
  | n + 1, b, hb, hn, h, e => by
    have h0 : 0 < b := by
      rcases Nat.eq_zero_or_pos b with q | q
      · subst q; rw [below_0] at h; exact absurd (by simpa using h) e
      · exact q
    have u := upN_lt hr h0 hb
    have eu : gR X 8 b 1 = some (upN M b) := by rw [(hr.2.2.2.2.1 b hb).1.2.2.2.2.2.2, u.2]; unfold ox; rw [if_neg (by omega), Int.toNat_natCast]
    unfold fX10_rightChild_L2
    simp only [nm_eq, up_eq, cl_some, ob_some, oe_some, oe_none, ob_none, eu]
    by_cases c : upN M b = a
    · rw [if_pos (by rw [c])]
      exact ⟨b, rfl, ⟨h0, hb⟩, by rw [u.2, c], below_rf M 16 b⟩
    · rw [if_neg (fun q => c (Option.some.inj q))]
      rw [below_16 hr h0 hb e] at h
      obtain ⟨r, f1, f2, f3, f4⟩ := rcX hr n (upN M b) (by omega) (by omega) h c
      have ne : ¬ b = r := by
        intro q
        rw [← q, below_lt hr 16 (upN M b) (by omega) u.1] at f4
        cases f4
      exact ⟨r, f1, f2, f3, by rw [below_16 hr h0 hb ne]; exact f4⟩
theorem rcM (hr : RR P C K D X M) {nf a b r : Nat} (hnf : 1000 ≤ nf) (hb : b < P) (hr0 : 0 < r) (hrP : r < P) (h67 : gI M 67 0 r = a) (hbr : below M 16 b r = true) : ∀ (x n : Nat) (y : Int), r ≤ x → x < P → x < n → fX11_rightChild_L11 0 (a : Int) (b : Int) nf n M y (x : Int) = some ((r : Int), M)
  | 0, _, _, h, _, _ => by omega
  | x + 1, 0, _, _, _, h => by omega
  | x + 1, n + 1, y, hx, hxP, hn => by
    have hM := hr.1.2.1
    have h16 := hr.1.2.2.1
    have g : (0 : Int) ≤ ((x + 1 : Nat) : Int) ∧ ((x + 1 : Nat) : Int) < 16 := by omega
    have w : wr (((x + 1 : Nat) : Int) + -1) = (x : Int) := ((wrd ((x + 1 : Nat) : Int) (by omega) (by omega)).1).trans (by omega)
    unfold fX11_rightChild_L11
    rw [if_pos (by clear w; omega)]
    simp only [nm_eq, up_eq, cl_some, ob_some, oe_some, oe_none, ob_none, hM.2 1 rfl, g_t g, Int.toNat_natCast, lies_eq hr hnf hb, w]
    clear w
    by_cases e : x + 1 = r
    · subst e
      rw [if_pos h67, if_pos hbr, if_neg (by decide)]
    · have go := fun y => rcM hr hnf hb hr0 hrP h67 hbr x n y (by omega) (by omega) (by omega)
      by_cases c : gI M 67 0 (x + 1) = a
      · have nb : ¬ below M 16 b (x + 1) = true := by
          intro q
          have l := below_lin hr (x := x + 1) (r := r) (by omega) b hb q hbr
          rw [below_16 hr (by omega) hxP e] at l
          have u := upN_lt hr (q := x + 1) (by omega) hxP
          have ur := upN_lt hr hr0 hrP
          rw [below_lt hr 16 (upN M (x + 1)) (by omega) (by omega)] at l
          cases l
        rw [if_pos c, if_neg nb, if_pos rfl]
        exact go _
      · rw [if_neg c]
        exact go _
/-- for a home below post a, both find the same child -/
theorem rc_eq (hr : RR P C K D X M) {nf a b : Nat} (hnf : 1000 ≤ nf) (hb : b < P) (h : below M 16 b a = true) (e : ¬ b = a) : ∃ r : Nat, fX10_rightChild nf X (some b) (some a) = some (some r, X) ∧ fX11_rightChild nf M 0 a b = some ((r : Int), M) ∧ (0 < r ∧ r < P) ∧ gI M 67 0 r = a := by
  have h16 := hr.1.2.2.1
  have hN := hr.1.2.2.2.1.1
  obtain ⟨r, f1, f2, f3, f4⟩ := rcX hr nf b hb (by omega) h e
  refine ⟨r, f1, ?_, f2, f3⟩
  have w : wr ((P : Int) - 1) = ((P - 1 : Nat) : Int) := ((wrd (P : Int) (by omega) (by omega)).2).trans (by omega)
  unfold fX11_rightChild
  rw [hN, nm_eq, w]
  exact rcM hr hnf hb f2.1 f2.2 f3 f4 (P - 1) nf _ (by clear w; omega) (by clear w; omega) (by clear w; omega)
end RCH
