/-! ===== the worst wait, in turn ===== -/
section WB
variable {X M : zS}
theorem oN.sy {N N' : zS} (h : oN N' N) : oN N N' := ⟨fun t => (h.1 t).symm, fun t i k => (h.2.1 t i k).symm, fun t i k a b => (h.2.2 t i k a b).symm⟩
theorem clerk_b {P C K : Nat} {D : Int} (hr : RR P C K D X M) : (∀ j, j < K → 0 ≤ gI X 3 j 3 ∧ gI X 3 j 3 ≤ 30) ∧ ∀ j, j < K → 1 ≤ gI X 3 j 1 ∧ gI X 3 j 1 ≤ 30 := by
  have hK := hr.2.2.2.2.2.2.2.1
  refine ⟨fun j hj => ?_, fun j hj => ?_⟩
  · obtain ⟨-, -, a, b⟩ := hK j hj
    by_cases e : gI M 102 0 j = -9
    · have := a e; omega
    · have := (b e).2.1; omega
  · have := (hK j hj).1; omega
theorem P_worstBy (h : zR X M) {nf : Nat} (hnf : 1000 ≤ nf) (x1 : Int) (h1 : zin x1) : ∃ r X' M', fX10_worstBy nf X 0 x1 = some (r, X') ∧ fX11_worstBy nf M 0 x1 = some (r, M') ∧ zR X' M' := by
  obtain ⟨P, C, K, hr⟩ := id h
  unfold fX10_worstBy fX11_worstBy
  simp only [within_eq, in_eq, nm_eq, up_eq, cl_some, ob_some, oe_some, oe_none, ob_none, i10]
  by_cases hx : ¬ (0 ≤ x1 ∧ x1 ≤ 2)
  · rw [if_pos hx, if_pos hx]; exact ⟨_, _, _, rfl, rfl, h⟩
  rw [if_neg hx, if_neg hx]
  have hx := Decidable.not_not.mp hx
  have h16 := hr.1.2.2.1
  obtain ⟨Y0, N0, s0, -, a2, -, -, a5, -, a7, a8⟩ := row_eq hr hnf (o := 0) (Or.inl rfl)
  have hr0 := oNN hr a7
  obtain ⟨Y, N, s, b1, b2, b3, b4, b5, b6, b7, b8⟩ := row_eq hr0 hnf (o := x1) (by omega)
  have es : s0 = s := by rw [a8, b8]; exact (cw_cg (fun k => a7.2.2 82 0 k (by decide) (by omega)) C).symm
  subst es
  have e0 : gI N0 64 0 13 = gI M 64 0 13 := a7.2.2 64 0 13 (by decide) (by omega)
  have e1 : gI N 64 0 13 = gI M 64 0 13 := (b7.2.2 64 0 13 (by decide) (by omega)).trans e0
  have z0 : zR Y N0 := ⟨P, C, K, by rw [e0]; exact oNN b3 b7.sy⟩
  have k1 := b3.1.2.2.2.2.1.2.2
  have k0 := hr0.1.2.2.2.1.2.2
  unfold fX10_planRefusal fX11_mayOrder
  rw [b1, a2]
  simp only [nm_eq, up_eq, cl_some, ob_some, oe_some, oe_none, ob_none, k1, k0, a5]
  by_cases c0 : s0 = 0
  · subst c0
    rw [if_pos (show ((0 : Nat) : Int) = 0 from rfl), if_pos (show ((0 : Nat) : Int) = 0 from rfl)]
    simp only [nm_eq, up_eq, cl_some, ob_some, oe_some, oe_none, ob_none]
    exact ⟨_, _, _, rfl, rfl, z0⟩
  rw [if_neg (show ¬ (s0 : Int) = 0 by omega), if_neg (show ¬ (s0 : Int) = 0 by omega)]
  by_cases cK : K = 0
  · subst cK
    rw [if_pos (show ((0 : Nat) : Int) = 0 from rfl), if_pos (show ((0 : Nat) : Int) = 0 from rfl)]
    simp only [nm_eq, up_eq, cl_some, ob_some, oe_some, oe_none, ob_none]
    exact ⟨_, _, _, rfl, rfl, z0⟩
  rw [if_neg (show ¬ (K : Int) = 0 by omega), if_neg (show ¬ (K : Int) = 0 by omega)]
  by_cases c6 : 6 < s0
  · rw [if_pos (show 6 < (s0 : Int) by omega), if_pos (show 6 < (s0 : Int) by omega)]
    simp only [nm_eq, up_eq, cl_some, ob_some, oe_some, oe_none, ob_none]
    exact ⟨_, _, _, rfl, rfl, z0⟩
  rw [if_neg (show ¬ 6 < (s0 : Int) by omega), if_neg (show ¬ 6 < (s0 : Int) by omega)]
  have cp : ∀ j, j < s0 → ((gR Y 14 0 j).getD 0) < C ∧ gR Y 14 0 j = some ((gR Y 14 0 j).getD 0) ∧ gI N 117 0 j = (((gR Y 14 0 j).getD 0 : Nat) : Int) := by
    intro j hj
    obtain ⟨x, x1, x2, x3, -⟩ := b6 j hj
    rw [x2]
    exact ⟨x1, rfl, x3⟩
  have cb := clerk_b b3
  obtain ⟨Y1, p1, p2, p3, p4, p5, p6⟩ := layPlan_eq hnf b3 (by omega) (s := s0) (by omega) (cp := fun j => (gR Y 14 0 j).getD 0) (fun j hj => ⟨(cp j hj).1, (cp j hj).2.1⟩) cb.1 cb.2
  obtain ⟨N1, m1, m2, m3, -⟩ := measure_eq hnf b3 (by omega) (s := s0) (by omega) b5 (cp := fun j => (gR Y 14 0 j).getD 0) (fun j hj => ⟨(cp j hj).1, (cp j hj).2.2⟩) cb.1 cb.2
  have hr1 := b3.oP p2
  have g := greatL hr1 (s := s0) (by omega) p4 (w := fun l => gI N 64 0 13 - sentv N ((gR Y 14 0 l).getD 0)) (d := dn (fun j => gI Y 3 j 3) (fun j => gI Y 3 j 1) K) (fun l hl => ⟨p6 l hl, p5 l hl⟩) s0 nf 0 (by omega) (by omega)
  have g : fX6_greatestInTurn nf Y1 0 = _ := g
  rw [if_neg c0] at m3
  have z1 : zR Y1 N1 := ⟨P, C, K, by rw [m2.2.2 64 0 13 (by omega), e1]; exact hr1.oM m2⟩
  simp only [nm_eq, up_eq, cl_some, ob_some, oe_some, oe_none, ob_none, p1, hr1.1.1.2.1 8 (by decide), g, b2, m1, m3]
  rw [if_pos True.intro, if_neg (show ¬ (0 : Int) < 0 by decide)]
  exact ⟨_, _, _, rfl, rfl, z1⟩
end WB
