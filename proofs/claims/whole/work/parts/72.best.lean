/-! ===== worst and best: the calls ===== -/
section BC
variable {X M : zS}
theorem P_worst (h : zR X M) {nf : Nat} (hnf : 1000 ≤ nf) : ∃ r X' M', fX10_worst nf X 0 = some (r, X') ∧ fX11_worst nf M 0 = some (r, M') ∧ zR X' M' := by
  obtain ⟨P, C, K, hr⟩ := id h
  obtain ⟨s, Y, N0, b1, a2, a5, r0, a7, hgo⟩ := plan_eq hr hnf
  have e0 : gI N0 64 0 13 = gI M 64 0 13 := a7.2.2 64 0 13 (by decide) (by omega)
  have z0 : zR Y N0 := ⟨P, C, K, by rw [e0]; exact r0⟩
  have k1 := r0.1.2.2.2.2.1.2.2
  have k0 := r0.1.2.2.2.1.2.2
  unfold fX10_worst fX11_worst fX10_planRefusal fX11_mayOrder
  rw [b1, a2]
  simp only [nm_eq, up_eq, cl_some, ob_some, oe_some, oe_none, ob_none, k1, k0, a5]
  by_cases c0 : s = 0
  · subst c0
    rw [if_pos (show ((0 : Nat) : Int) = 0 from rfl), if_pos (show ((0 : Nat) : Int) = 0 from rfl)]
    simp only [nm_eq, up_eq, cl_some, ob_some, oe_some, oe_none, ob_none]
    exact ⟨_, _, _, rfl, rfl, z0⟩
  rw [if_neg (show ¬ (s : Int) = 0 by omega), if_neg (show ¬ (s : Int) = 0 by omega)]
  by_cases cK : K = 0
  · subst cK
    rw [if_pos (show ((0 : Nat) : Int) = 0 from rfl), if_pos (show ((0 : Nat) : Int) = 0 from rfl)]
    simp only [nm_eq, up_eq, cl_some, ob_some, oe_some, oe_none, ob_none]
    exact ⟨_, _, _, rfl, rfl, z0⟩
  rw [if_neg (show ¬ (K : Int) = 0 by omega), if_neg (show ¬ (K : Int) = 0 by omega)]
  by_cases c6 : 6 < s
  · rw [if_pos (show 6 < (s : Int) by omega), if_pos (show 6 < (s : Int) by omega)]
    simp only [nm_eq, up_eq, cl_some, ob_some, oe_some, oe_none, ob_none]
    exact ⟨_, _, _, rfl, rfl, z0⟩
  rw [if_neg (show ¬ 6 < (s : Int) by omega), if_neg (show ¬ 6 < (s : Int) by omega)]
  obtain ⟨Y1, Y2, N2, v, q, p1, p2, p3, p4, p5, p6, p7, p8, p9, p10⟩ := hgo (by omega) (by omega) (by omega)
  have z2 : zR Y2 N2 := ⟨P, C, K, by rw [p6.2.2 64 0 13 (by omega), e0]; exact p5⟩
  simp only [nm_eq, up_eq, cl_some, ob_some, oe_some, oe_none, ob_none, p1, p2, p3, p4, p7]
  rw [if_pos True.intro, if_neg (show ¬ (0 : Int) < 0 by decide)]
  exact ⟨_, _, _, rfl, rfl, z2⟩
theorem P_best (h : zR X M) {nf : Nat} (hnf : 1000 ≤ nf) (x1 : Int) (h1 : zin x1) : ∃ r X' M', fX10_best nf X 0 x1 = some (r, X') ∧ fX11_best nf M 0 x1 = some (r, M') ∧ zR X' M' := by
  obtain ⟨P, C, K, hr⟩ := id h
  obtain ⟨s, Y, N0, b1, a2, a5, r0, a7, hgo⟩ := plan_eq hr hnf
  have e0 : gI N0 64 0 13 = gI M 64 0 13 := a7.2.2 64 0 13 (by decide) (by omega)
  have z0 : zR Y N0 := ⟨P, C, K, by rw [e0]; exact r0⟩
  have k1 := r0.1.2.2.2.2.1.2.2
  have k0 := r0.1.2.2.2.1.2.2
  unfold fX10_best fX11_best fX10_planRefusal fX11_mayOrder
  rw [b1, a2]
  simp only [nm_eq, up_eq, cl_some, ob_some, oe_some, oe_none, ob_none, k1, k0, a5]
  by_cases c0 : s = 0
  · subst c0
    rw [if_pos (show ((0 : Nat) : Int) = 0 from rfl), if_pos (show ((0 : Nat) : Int) = 0 from rfl)]
    simp only [nm_eq, up_eq, cl_some, ob_some, oe_some, oe_none, ob_none]
    exact ⟨_, _, _, rfl, rfl, z0⟩
  rw [if_neg (show ¬ (s : Int) = 0 by omega), if_neg (show ¬ (s : Int) = 0 by omega)]
  by_cases cK : K = 0
  · subst cK
    rw [if_pos (show ((0 : Nat) : Int) = 0 from rfl), if_pos (show ((0 : Nat) : Int) = 0 from rfl)]
    simp only [nm_eq, up_eq, cl_some, ob_some, oe_some, oe_none, ob_none]
    exact ⟨_, _, _, rfl, rfl, z0⟩
  rw [if_neg (show ¬ (K : Int) = 0 by omega), if_neg (show ¬ (K : Int) = 0 by omega)]
  by_cases c6 : 6 < s
  · rw [if_pos (show 6 < (s : Int) by omega), if_pos (show 6 < (s : Int) by omega)]
    simp only [nm_eq, up_eq, cl_some, ob_some, oe_some, oe_none, ob_none]
    exact ⟨_, _, _, rfl, rfl, z0⟩
  rw [if_neg (show ¬ 6 < (s : Int) by omega), if_neg (show ¬ 6 < (s : Int) by omega)]
  obtain ⟨Y1, Y2, N2, v, q, p1, p2, p3, p4, p5, p6, p7, p8, p9, p10⟩ := hgo (by omega) (by omega) (by omega)
  have e2 : gI N2 64 0 13 = gI M 64 0 13 := (p6.2.2 64 0 13 (by omega)).trans e0
  have z2 : zR Y2 N2 := ⟨P, C, K, by rw [e2]; exact p5⟩
  have z1 : zR Y N2 := ⟨P, C, K, by rw [e2]; exact r0.oB p6⟩
  have hX2 := p5.1.1
  have hM2 := p5.1.2.1
  have hC2 := p5.2.2.2.2.2.2.1
  simp only [nm_eq, up_eq, cl_some, ob_some, oe_some, oe_none, ob_none, p1, p2, p3, p4, p8, in_eq, i10, (wrd (s : Int) (by omega) (by omega)).2]
  rw [if_pos True.intro, if_neg (show ¬ (0 : Int) < 0 by decide)]
  by_cases c : ¬ (0 ≤ x1 ∧ x1 ≤ (s : Int) - 1)
  · rw [if_pos c]
    by_cases l : x1 < 0
    · rw [if_pos l]; exact ⟨_, _, _, rfl, rfl, z1⟩
    · rw [if_neg l, if_neg (show ¬ x1 < (s : Int) by omega)]; exact ⟨_, _, _, rfl, rfl, z1⟩
  · rw [if_neg c, if_neg (show ¬ x1 < 0 by omega), if_pos (show x1 < (s : Int) by omega)]
    obtain ⟨q1, q2, cc, q3, q4, q5⟩ := p10 x1.toNat (by omega)
    unfold fX6_cupAtPlace
    have nl : ¬ x1 < 0 := by omega
    have ns : x1 < (s : Int) := by omega
    have g6 : (0 : Int) ≤ x1 ∧ x1 < 6 := by omega
    have gq : (0 : Int) ≤ ((q x1.toNat : Nat) : Int) ∧ ((q x1.toNat : Nat) : Int) < 24 := by omega
    simp only [if_neg nl, p9, if_pos ns, nm_eq, up_eq, cl_some, ob_some, oe_some, oe_none, ob_none, hX2.2.1 8 (by decide), hX2.2.1 3 (by decide), hX2.2.2.2.2.2.2.1.2.2.2.2.2.2, hM2.2 56 rfl, g_t g6, q2, g_t gq, Int.toNat_natCast, q4, q5, (hC2 cc q3).1.2.1]
    exact ⟨_, _, _, rfl, rfl, z2⟩
end BC
