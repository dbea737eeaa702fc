/-! ===== the calls that only read ===== -/
section RE
variable {X M : zS}
theorem P_till (h : zR X M) {nf : Nat} (hnf : 1000 ≤ nf) (x1 : Int) (h1 : zin x1) : ∃ r X' M', fX10_till nf X 0 x1 = some (r, X') ∧ fX11_till nf M 0 x1 = some (r, M') ∧ zR X' M' := by
  obtain ⟨P, C, K, hr⟩ := id h
  obtain ⟨⟨hX, hM, hN⟩, hS, -⟩ := id hr
  refine rd h ⟨_, ?_, till_eq hM hnf x1⟩
  unfold fX10_till
  simp only [nm_eq, hX.2.1 0 (by decide), hX.2.1 1 (by decide), hX.2.1 2 (by decide), hX.2.1 3 (by decide), hX.2.1 4 (by decide), hX.2.1 5 (by decide), hX.2.1 6 (by decide), hX.2.1 7 (by decide), hX.2.1 8 (by decide), hX.2.1 9 (by decide), hX.2.2.1.1, hX.2.2.1.2, hX.2.2.2.1.1, hX.2.2.2.1.2, hX.2.2.2.2.1, hX.2.2.2.2.2.1.1, hX.2.2.2.2.2.1.2.1, hX.2.2.2.2.2.1.2.2, hX.2.2.2.2.2.2.1.1, hX.2.2.2.2.2.2.1.2.1, hX.2.2.2.2.2.2.1.2.2.1, hX.2.2.2.2.2.2.1.2.2.2.1, hX.2.2.2.2.2.2.1.2.2.2.2.1, hX.2.2.2.2.2.2.1.2.2.2.2.2.1, hX.2.2.2.2.2.2.1.2.2.2.2.2.2, ob_some, told_eq hnf hX.2.2.2.2.1, cl_some]
  congr 2
  by_cases h6 : x1 = 6
  · rw [if_pos h6, if_pos h6]; exact wS_cg fun k hk => (hS.2.2.2.2 k hk).1
  · rw [if_neg h6, if_neg h6]
    by_cases h0 : 0 ≤ x1 ∧ x1 < 6
    · rw [if_pos h0, if_pos h0]; exact (hS.2.2.2.2 _ (by omega)).1
    · rw [if_neg h0, if_neg h0]
theorem P_coins (h : zR X M) {nf : Nat} (hnf : 1000 ≤ nf) (x1 x2 : Int) (h1 : zin x1) (h2 : zin x2) : ∃ r X' M', fX10_coins nf X 0 x1 x2 = some (r, X') ∧ fX11_coins nf M 0 x1 x2 = some (r, M') ∧ zR X' M' := by
  obtain ⟨P, C, K, hr⟩ := id h
  obtain ⟨⟨hX, hM, hN⟩, hS, hF, hB, hP, hL, hC, hK, hD, hZ⟩ := id hr
  unfold fX10_coins fX11_coins
  refine rd h ?_
  rcases idx0 x1 C with hx | ⟨c, hc, rfl⟩
  · simp only [findCup_out hr hx, isCup_eq hr, nm_eq, up_eq, cl_some, ob_some, oe_some, oe_none, ob_none, i10]
    rw [if_pos (by omega)]
    exact ⟨_, rfl, rfl⟩
  · have q := hC c hc
    have hg : c < 24 := by have := hN.1; omega
    have w := q.2.2.2.2.2.2.2.2.2.2.2.2.2.2.2.2.2.2.2.2.2.2.1
    simp only [findCup_in hr hc, isCup_eq hr, in_eq, nm_eq, up_eq, cl_some, ob_some, oe_some, oe_none, ob_none, i10, q.1.2.2.1, told_eq hnf q.1.2.2.2, hM.2 25 rfl, worthOf hM hg hnf]
    rw [if_neg (by omega : ¬ ¬ (0 ≤ (c : Int) ∧ (c : Int) < C))]
    refine ⟨_, rfl, ?_⟩
    by_cases h6 : x2 = 6
    · rw [if_neg (by omega), if_pos h6, if_pos h6]
      rw [wS_cg fun k hk => (w k hk).1]
    · rw [if_neg h6, if_neg h6]
      by_cases h0 : 0 ≤ x2 ∧ x2 < 6
      · have e : wr (wr (6 * (c : Int)) + x2) = ((6 * c + x2.toNat : Nat) : Int) := by rw [wr_id (z := 6 * (c : Int)) (by unfold zin; omega), wr_id (by unfold zin; omega)]; omega
        rw [if_neg (by omega), if_pos h0, e, g_t (by omega), Int.toNat_natCast, (w _ (by omega)).1]
      · rw [if_neg h0, if_pos (by omega)]
theorem P_clerkAt (h : zR X M) {nf : Nat} (hnf : 1000 ≤ nf) (x1 x2 : Int) (h1 : zin x1) (h2 : zin x2) : ∃ r X' M', fX10_clerkAt X 0 x1 x2 = some (r, X') ∧ fX11_clerkAt M 0 x1 x2 = some (r, M') ∧ zR X' M' := by
  obtain ⟨P, C, K, hr⟩ := id h
  obtain ⟨⟨hX, hM, hN⟩, hS, hF, hB, hP, hL, hC, hK, hD, hZ⟩ := id hr
  unfold fX10_clerkAt fX11_clerkAt
  refine rd h ?_
  have hw : wr (gI M 64 0 34 - 1) = (K : Int) - 1 := by rw [hN.2.1.2.2, wr_id (by have := hN.1; unfold zin; omega)]
  simp only [in_eq, nm_eq, up_eq, cl_some, ob_some, oe_some, oe_none, ob_none, i10, hw, hN.2.2.1.2.2]
  rcases idx0 x1 K with hx | ⟨k, hk, rfl⟩
  · by_cases h0 : x1 < 0
    · rw [if_pos h0, if_pos (by omega)]; exact ⟨_, rfl, rfl⟩
    · rw [if_neg h0, if_neg (by omega), if_pos (by omega)]; exact ⟨_, rfl, rfl⟩
  · obtain ⟨⟨k1, k2, k3, -, -⟩, k4, k5, k6⟩ := hK k hk
    have hg : k < 4 := by have := hN.1; omega
    rw [if_neg (by omega), if_pos (by omega), if_neg (by omega)]
    simp only [hX.2.1 0 (by decide), hX.2.1 1 (by decide), hX.2.1 2 (by decide), hX.2.1 3 (by decide), hX.2.1 4 (by decide), hX.2.1 5 (by decide), hX.2.1 6 (by decide), hX.2.1 7 (by decide), hX.2.1 8 (by decide), hX.2.1 9 (by decide), hX.2.2.1.1, hX.2.2.1.2, hX.2.2.2.1.1, hX.2.2.2.1.2, hX.2.2.2.2.1, hX.2.2.2.2.2.1.1, hX.2.2.2.2.2.1.2.1, hX.2.2.2.2.2.1.2.2, hX.2.2.2.2.2.2.1.1, hX.2.2.2.2.2.2.1.2.1, hX.2.2.2.2.2.2.1.2.2.1, hX.2.2.2.2.2.2.1.2.2.2.1, hX.2.2.2.2.2.2.1.2.2.2.2.1, hX.2.2.2.2.2.2.1.2.2.2.2.2.1, hX.2.2.2.2.2.2.1.2.2.2.2.2.2, hM.2 1 rfl, hM.2 2 rfl, hM.2 3 rfl, hM.2 4 rfl, hM.2 5 rfl, hM.2 6 rfl, hM.2 7 rfl, hM.2 8 rfl, hM.2 9 rfl, hM.2 10 rfl, hM.2 11 rfl, hM.2 12 rfl, hM.2 15 rfl, hM.2 16 rfl, hM.2 17 rfl, hM.2 18 rfl, hM.2 19 rfl, hM.2 20 rfl, hM.2 21 rfl, hM.2 22 rfl, hM.2 23 rfl, hM.2 24 rfl, hM.2 25 rfl, hM.2 26 rfl, hM.2 29 rfl, hM.2 30 rfl, hM.2 31 rfl, hM.2 32 rfl, hM.2 33 rfl, hM.2 35 rfl, hM.2 36 rfl, hM.2 37 rfl, hM.2 40 rfl, hM.2 41 rfl, hM.2 42 rfl, hM.2 43 rfl, hM.2 44 rfl, hM.2 45 rfl, hM.2 49 rfl, hM.2 50 rfl, hM.2 51 rfl, hM.2 53 rfl, hM.2 56 rfl, hM.2 58 rfl, nm_eq, up_eq, cl_some, ob_some, oe_some, oe_none, ob_none, Int.toNat_natCast, g_t (show (0 : Int) ≤ (k : Int) ∧ (k : Int) < 4 by omega), k1, k3, k4]
    by_cases e0 : x2 = 0
    · rw [if_pos e0, if_pos e0]
      by_cases e9 : gI M 102 0 k = -9
      · rw [e9]; exact ⟨_, rfl, rfl⟩
      · have k7 := (k6 e9).1
        rw [show ox (gI M 102 0 k) = some (gI M 102 0 k).toNat by unfold ox; rw [if_neg (by omega)]]
        simp only [nm_eq, up_eq, cl_some, ob_some, oe_some, oe_none, ob_none]
        rw [(hC (gI M 102 0 k).toNat (by omega)).1.2.1]
        exact ⟨_, rfl, by rw [show (((gI M 102 0 k).toNat : Nat) : Int) = gI M 102 0 k by omega]⟩
    · rw [if_neg e0, if_neg e0]
      by_cases e1 : x2 = 1
      · rw [if_pos e1, if_pos e1]
        by_cases e9 : gI M 102 0 k = -9
        · rw [if_pos e9, k5 e9]; exact ⟨_, rfl, rfl⟩
        · rw [if_neg e9, (k6 e9).2.1.1]; exact ⟨_, rfl, rfl⟩
      · rw [if_neg e1, if_neg e1]
        by_cases e2 : x2 = 2
        · rw [if_pos e2, if_pos e2]; exact ⟨_, rfl, rfl⟩
        · rw [if_neg e2, if_neg e2]; exact ⟨_, rfl, rfl⟩
theorem P_cupAt (h : zR X M) {nf : Nat} (hnf : 1000 ≤ nf) (x1 x2 : Int) (h1 : zin x1) (h2 : zin x2) : ∃ r X' M', fX10_cupAt X 0 x1 x2 = some (r, X') ∧ fX11_cupAt nf M 0 x1 x2 = some (r, M') ∧ zR X' M' := by
  obtain ⟨P, C, K, hr⟩ := id h
  obtain ⟨⟨hX, hM, hN⟩, hS, hF, hB, hP, hL, hC, hK, hD, hZ⟩ := id hr
  unfold fX10_cupAt fX11_cupAt
  refine rd h ?_
  rcases idx0 x1 C with hx | ⟨c, hc, rfl⟩
  · simp only [findCup_out hr hx, isCup_eq hr, nm_eq, up_eq, cl_some, ob_some, oe_some, oe_none, ob_none, i10]
    rw [if_pos (by omega)]
    exact ⟨_, rfl, rfl⟩
  · have q := hC c hc
    have hg : 0 ≤ (c : Int) ∧ (c : Int) < 24 := by have := hN.1; omega
    simp only [findCup_in hr hc, isCup_eq hr, nm_eq, up_eq, cl_some, ob_some, oe_some, oe_none, ob_none, i10, hM.2 1 rfl, hM.2 2 rfl, hM.2 3 rfl, hM.2 4 rfl, hM.2 5 rfl, hM.2 6 rfl, hM.2 7 rfl, hM.2 8 rfl, hM.2 9 rfl, hM.2 10 rfl, hM.2 11 rfl, hM.2 12 rfl, hM.2 15 rfl, hM.2 16 rfl, hM.2 17 rfl, hM.2 18 rfl, hM.2 19 rfl, hM.2 20 rfl, hM.2 21 rfl, hM.2 22 rfl, hM.2 23 rfl, hM.2 24 rfl, hM.2 25 rfl, hM.2 26 rfl, hM.2 29 rfl, hM.2 30 rfl, hM.2 31 rfl, hM.2 32 rfl, hM.2 33 rfl, hM.2 35 rfl, hM.2 36 rfl, hM.2 37 rfl, hM.2 40 rfl, hM.2 41 rfl, hM.2 42 rfl, hM.2 43 rfl, hM.2 44 rfl, hM.2 45 rfl, hM.2 49 rfl, hM.2 50 rfl, hM.2 51 rfl, hM.2 53 rfl, hM.2 56 rfl, hM.2 58 rfl, g_t hg, Int.toNat_natCast]
    rw [if_neg (by omega : ¬ ¬ (0 ≤ (c : Int) ∧ (c : Int) < C))]
    have pn : ∀ z : Int, 0 ≤ z → z < P → gI X 8 z.toNat 0 = z := fun z a b => by rw [(hP z.toNat (by omega)).1.2.1]; omega
    obtain ⟨⟨-, -, -, -⟩, ⟨b1, b2, b3, b4⟩, ⟨c1, c2, c3⟩, d4, d5, d6, d7, d8, d9, d10, d11, d12, d13, d14, d15, d16, d17, d18, d19, d20, d21, d22, -⟩ := q
    have hh := pn _ (by omega) b3
    unfold fX4_holder fX4_measure
    rw [c1]
    have mg : ∀ a b c d : Int, (a = b) = (b = a) := fun a b _ _ => propext ⟨Eq.symm, Eq.symm⟩
    simp only [nm_eq, up_eq, cl_some, ob_some, oe_some, oe_none, ob_none, b1, hh, d7.1, d20.1, d21, d22.1, d15]
    have hz : gI M 82 0 c = 0 ∨ gI M 82 0 c = 1 ∨ gI M 82 0 c = 2 ∨ gI M 82 0 c = 3 ∨ gI M 82 0 c = 4 ∨ gI M 82 0 c = 5 ∨ gI M 82 0 c = 6 := by omega
    have sp : ∀ a : Int, (∃ r : Int, (if a = 0 then some ((-9 : Int), X) else some (gI M 89 0 c, X)) = some (r, X) ∧ (if a = 0 then some ((-9 : Int), M) else some (gI M 89 0 c, M)) = some (r, M)) := fun a => by by_cases h : a = 0 <;> simp [h]
    have sp2 : ∀ a : Int, (∃ r : Int, (if a = 0 then some ((-9 : Int), X) else some (gI M 90 0 c, X)) = some (r, X) ∧ (if a = 0 then some ((-9 : Int), M) else some (gI M 90 0 c, M)) = some (r, M)) := fun a => by by_cases h : a = 0 <;> simp [h]
    rcases hz with hz | hz | hz | hz | hz | hz | hz
    · have r4 := (d4 hz).1
      have r8 := d14 (by omega)
      have r7 := d12 (by omega)
      by_cases e0 : x2 = 0
      · subst e0; simp [cl_some, hz, r4, r8, r7, hh]
      by_cases e1 : x2 = 1
      · subst e1; simp [cl_some, hz, r4, r8, r7, hh]
      by_cases e2 : x2 = 2
      · subst e2; simp [cl_some, hz, r4, r8, r7, hh]
      by_cases e3 : x2 = 3
      · subst e3; simp [cl_some, hz, r4, r8, r7, hh]
      by_cases e4 : x2 = 4
      · subst e4; simp [cl_some, hz, r4, r8, r7, hh]
      by_cases e5 : x2 = 5
      · subst e5; simp [cl_some, hz, r4, r8, r7, hh]
      by_cases e6 : x2 = 6
      · subst e6; simp [cl_some, hz, r4, r8, r7, hh]
      by_cases e7 : x2 = 7
      · subst e7; simpa [hz] using sp _
      by_cases e8 : x2 = 8
      · subst e8; simpa [hz] using sp2 _
      simp [cl_some, hz, r4, r8, r7, hh, e0, e1, e2, e3, e4, e5, e6, e7, e8]
    · have r4 := d5 (by omega)
      have h3 := pn _ r4.2.1 r4.2.2
      have r4 := r4.1
      have r8 := d14 (by omega)
      have mx := d17 (by omega)
      rcases d7.2 with g0 | g1
      · obtain ⟨r7, r9, -⟩ := d11 ⟨hz, g0⟩
        rcases r9 with r9 | r9
        · have r7 : gR X 5 c 7 = none := by rw [r7, r9]; rfl
          by_cases e0 : x2 = 0
          · subst e0; simp [cl_some, hz, r4, r8, r7, h3, g0, r9, mx]
          by_cases e1 : x2 = 1
          · subst e1; simp [cl_some, hz, r4, r8, r7, h3, g0, r9, mx]
          by_cases e2 : x2 = 2
          · subst e2; simp [cl_some, hz, r4, r8, r7, h3, g0, r9, mx]
          by_cases e3 : x2 = 3
          · subst e3; simp [cl_some, hz, r4, r8, r7, h3, g0, r9, mx]
          by_cases e4 : x2 = 4
          · subst e4; simp [cl_some, hz, r4, r8, r7, h3, g0, r9, mx]
          by_cases e5 : x2 = 5
          · subst e5; simp [cl_some, hz, r4, r8, r7, h3, g0, r9, mx]
          by_cases e6 : x2 = 6
          · subst e6; simp [cl_some, hz, r4, r8, r7, h3, g0, r9, mx]
          by_cases e7 : x2 = 7
          · subst e7; simpa [hz] using sp _
          by_cases e8 : x2 = 8
          · subst e8; simpa [hz] using sp2 _
          simp [cl_some, hz, r4, r8, r7, h3, g0, r9, mx, e0, e1, e2, e3, e4, e5, e6, e7, e8]
        · have h7 := pn _ (by omega) r9.2.1
          have r7 : gR X 5 c 7 = some (gI M 86 0 c).toNat := by rw [r7]; unfold ox; rw [if_neg (by omega)]
          by_cases e0 : x2 = 0
          · subst e0; simp [cl_some, hz, r4, r8, r7, h3, g0, h7, mx]
          by_cases e1 : x2 = 1
          · subst e1; simp [cl_some, hz, r4, r8, r7, h3, g0, h7, mx]
          by_cases e2 : x2 = 2
          · subst e2; simp [cl_some, hz, r4, r8, r7, h3, g0, h7, mx]
          by_cases e3 : x2 = 3
          · subst e3; simp [cl_some, hz, r4, r8, r7, h3, g0, h7, mx]
          by_cases e4 : x2 = 4
          · subst e4; simp [cl_some, hz, r4, r8, r7, h3, g0, h7, mx]
          by_cases e5 : x2 = 5
          · subst e5; simp [cl_some, hz, r4, r8, r7, h3, g0, h7, mx]
          by_cases e6 : x2 = 6
          · subst e6; simp [cl_some, hz, r4, r8, r7, h3, g0, h7, mx]
          by_cases e7 : x2 = 7
          · subst e7; simpa [hz] using sp _
          by_cases e8 : x2 = 8
          · subst e8; simpa [hz] using sp2 _
          simp [cl_some, hz, r4, r8, r7, h3, g0, h7, mx, e0, e1, e2, e3, e4, e5, e6, e7, e8]
      · have r7 := d12 (by omega)
        by_cases e0 : x2 = 0
        · subst e0; simp [cl_some, hz, r4, r8, r7, h3, g1, mx]
        by_cases e1 : x2 = 1
        · subst e1; simp [cl_some, hz, r4, r8, r7, h3, g1, mx]
        by_cases e2 : x2 = 2
        · subst e2; simp [cl_some, hz, r4, r8, r7, h3, g1, mx]
        by_cases e3 : x2 = 3
        · subst e3; simp [cl_some, hz, r4, r8, r7, h3, g1, mx]
        by_cases e4 : x2 = 4
        · subst e4; simp [cl_some, hz, r4, r8, r7, h3, g1, mx]
        by_cases e5 : x2 = 5
        · subst e5; simp [cl_some, hz, r4, r8, r7, h3, g1, mx]
        by_cases e6 : x2 = 6
        · subst e6; simp [cl_some, hz, r4, r8, r7, h3, g1, mx]
        by_cases e7 : x2 = 7
        · subst e7; simpa [hz] using sp _
        by_cases e8 : x2 = 8
        · subst e8; simpa [hz] using sp2 _
        simp [cl_some, hz, r4, r8, r7, h3, g1, mx, e0, e1, e2, e3, e4, e5, e6, e7, e8]
    · have r4 := d5 (by omega)
      have h3 := pn _ r4.2.1 r4.2.2
      have r4 := r4.1
      have r8 := d14 (by omega)
      have r7 := d12 (by omega)
      have mx := d7.2
      by_cases e0 : x2 = 0
      · subst e0; simp [cl_some, hz, r4, r8, r7, h3]
      by_cases e1 : x2 = 1
      · subst e1; simp [cl_some, hz, r4, r8, r7, h3]
      by_cases e2 : x2 = 2
      · subst e2; simp [cl_some, hz, r4, r8, r7, h3]
      by_cases e3 : x2 = 3
      · subst e3; rcases mx with mx | mx <;> simp [cl_some, hz, mx]
      by_cases e4 : x2 = 4
      · subst e4; simp [cl_some, hz, r4, r8, r7, h3]
      by_cases e5 : x2 = 5
      · subst e5; simp [cl_some, hz, r4, r8, r7, h3]
      by_cases e6 : x2 = 6
      · subst e6; simp [cl_some, hz, r4, r8, r7, h3]
      by_cases e7 : x2 = 7
      · subst e7; simpa [hz] using sp _
      by_cases e8 : x2 = 8
      · subst e8; simpa [hz] using sp2 _
      simp [cl_some, hz, r4, r8, r7, h3, e0, e1, e2, e3, e4, e5, e6, e7, e8]
    · have r4 := d6 (by omega)
      have r8 := d14 (by omega)
      have r7 := d12 (by omega)
      have mx := d17 (by omega)
      by_cases e0 : x2 = 0
      · subst e0; simp [cl_some, hz, r4, r8, r7, mx]
      by_cases e1 : x2 = 1
      · subst e1; simp [cl_some, hz, r4, r8, r7, mx]
      by_cases e2 : x2 = 2
      · subst e2; simp [cl_some, hz, r4, r8, r7, mx]
      by_cases e3 : x2 = 3
      · subst e3; simp [cl_some, hz, r4, r8, r7, mx]
      by_cases e4 : x2 = 4
      · subst e4; simp [cl_some, hz, r4, r8, r7, mx]
      by_cases e5 : x2 = 5
      · subst e5; simp [cl_some, hz, r4, r8, r7, mx]
      by_cases e6 : x2 = 6
      · subst e6; simp [cl_some, hz, r4, r8, r7, mx]
      by_cases e7 : x2 = 7
      · subst e7; simpa [hz] using sp _
      by_cases e8 : x2 = 8
      · subst e8; simpa [hz] using sp2 _
      simp [cl_some, hz, r4, r8, r7, mx, e0, e1, e2, e3, e4, e5, e6, e7, e8]
    · have r4 := d6 (by omega)
      obtain ⟨k, hk, r8, hk2⟩ := d13 hz
      have r7 := d12 (by omega)
      have hu : ∀ j, j < K → gI M 102 0 j = c → gR X 5 c 8 = some j := fun j hj e => by
        have := ((hK j hj).2.2.2 (by omega)).2.2.2
        rwa [e] at this
      have hu2 : ∀ j, gR X 5 c 8 = some j → j < K ∧ gI M 102 0 j = c := fun j e => by
        rw [r8] at e
        cases e
        exact ⟨hk, hk2⟩
      have q1 : fX11_clerkOf nf M 0 c = some ((k : Int), M) := by
        have := clerkOfL hr c hu hu2 K nf 0 (by omega) (by have := hN.1; omega) (-9) (by rw [r8]; simp [cn])
        rw [r8] at this
        refine this.trans ?_
        simp [cn, hk]
      have q2 : fX11_leftOf nf M 0 c = some (gI M 103 0 k, M) := leftOfL hr c k hk (fun j hj e => by have := hu j hj e; rw [r8] at this; cases this; rfl) hk2 K nf 0 (by omega) (by have := hN.1; omega) (Nat.zero_le _)
      have q3 := (hK k hk).1.2.1
      have q4 := ((hK k hk).2.2.2 (by omega)).2.1.1
      by_cases e0 : x2 = 0
      · subst e0; simp [cl_some, hz, r4, r8, r7, q1, q2, q3, q4]
      by_cases e1 : x2 = 1
      · subst e1; simp [cl_some, hz, r4, r8, r7, q1, q2, q3, q4]
      by_cases e2 : x2 = 2
      · subst e2; simp [cl_some, hz, r4, r8, r7, q1, q2, q3, q4]
      by_cases e3 : x2 = 3
      · subst e3; simp [cl_some, hz, r4, r8, r7, q1, q2, q3, q4]
      by_cases e4 : x2 = 4
      · subst e4; simp [cl_some, hz, r4, r8, r7, q1, q2, q3, q4]
      by_cases e5 : x2 = 5
      · subst e5; simp [cl_some, hz, r4, r8, r7, q1, q2, q3, q4]
      by_cases e6 : x2 = 6
      · subst e6; simp [cl_some, hz, r4, r8, r7, q1, q2, q3, q4]
      by_cases e7 : x2 = 7
      · subst e7; simpa [hz] using sp _
      by_cases e8 : x2 = 8
      · subst e8; simpa [hz] using sp2 _
      simp [cl_some, hz, r4, r8, r7, q1, q2, q3, q4, e0, e1, e2, e3, e4, e5, e6, e7, e8]
    · have r4 := d5 (by omega)
      have h3 := pn _ r4.2.1 r4.2.2
      have r4 := r4.1
      have r8 := d14 (by omega)
      have r7 := d12 (by omega)
      by_cases e0 : x2 = 0
      · subst e0; simp [cl_some, hz, r4, r8, r7, h3]
      by_cases e1 : x2 = 1
      · subst e1; simp [cl_some, hz, r4, r8, r7, h3]
      by_cases e2 : x2 = 2
      · subst e2; simp [cl_some, hz, r4, r8, r7, h3]
      by_cases e3 : x2 = 3
      · subst e3; simp [cl_some, hz, r4, r8, r7, h3]
      by_cases e4 : x2 = 4
      · subst e4; simp [cl_some, hz, r4, r8, r7, h3]
      by_cases e5 : x2 = 5
      · subst e5; simp [cl_some, hz, r4, r8, r7, h3]
      by_cases e6 : x2 = 6
      · subst e6; simp [cl_some, hz, r4, r8, r7, h3]
      by_cases e7 : x2 = 7
      · subst e7; simpa [hz] using sp _
      by_cases e8 : x2 = 8
      · subst e8; simpa [hz] using sp2 _
      simp [cl_some, hz, r4, r8, r7, h3, e0, e1, e2, e3, e4, e5, e6, e7, e8]
    · have r4 := d6 (by omega)
      have r8 := d14 (by omega)
      have r7 := d12 (by omega)
      have mx := d18 hz
      by_cases e0 : x2 = 0
      · subst e0; simp [cl_some, hz, r4, r8, r7, mx]
      by_cases e1 : x2 = 1
      · subst e1; simp [cl_some, hz, r4, r8, r7, mx]
      by_cases e2 : x2 = 2
      · subst e2; simp [cl_some, hz, r4, r8, r7, mx]
      by_cases e3 : x2 = 3
      · subst e3; simp [cl_some, hz, r4, r8, r7, mx]
      by_cases e4 : x2 = 4
      · subst e4; simp [cl_some, hz, r4, r8, r7, mx]
      by_cases e5 : x2 = 5
      · subst e5; simp [cl_some, hz, r4, r8, r7, mx]
      by_cases e6 : x2 = 6
      · subst e6; simp [cl_some, hz, r4, r8, r7, mx]
      by_cases e7 : x2 = 7
      · subst e7; simpa [hz] using sp _
      by_cases e8 : x2 = 8
      · subst e8; simpa [hz] using sp2 _
      simp [cl_some, hz, r4, r8, r7, mx, e0, e1, e2, e3, e4, e5, e6, e7, e8]
end RE
