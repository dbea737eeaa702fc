/-! ===== the porter ===== -/
section PT
variable {P C K : Nat} {D : Int} {X M : zS}
/-- a cup that a porter takes, at post q -/
theorem porter_ok (h : zR X M) {P C K : Nat} (hr : RR P C K (1000 + 2300 * gI M 64 0 13) X M) {nf : Nat} (hnf : 1000 ≤ nf) {c q : Nat} (hc : c < C) (hq : q < P) (h4 : gR X 5 c 4 = some q) (h83 : gI M 83 0 c = q) (z : gI M 82 0 c ≠ 4) {A B : Option (Int × zS)}
    (eA : A = (nm_ (gR X 5 c 4) fun (r_7 : Option Nat) => nm_ (gR X 5 c 1) fun (r_8 : Option Nat) => cl_ (fX10_way nf X r_7 r_8) fun (x_10 : Int) (s_9 : zS) => up_ (sI s_9 5 c 11 (wr ((gI X 0 0 13) + (imax 1 (wr (3 * x_10)))))) fun (s_11 : zS) => cl_ (fX4_leaveFor s_11 c 6) fun (_ : Unit) (s_12 : zS) => some (gI s_12 5 c 11, s_12)))
    (eB : B = (cl_ (fX11_between nf M 0 (gI M 83 0 c) (gI M 81 0 c)) fun (x_18 : Int) (s_17 : zS) => nm_ (wr (3 * x_18)) fun (x_19 : Int) => nm_ (gR s_17 64 0 16) fun (r_20 : Option Nat) => Option.bind r_20 fun i_21 => g_ ((0 : Int) ≤ (c : Int) ∧ ((c : Int) : Int) < 24) (up_ (sI s_17 82 i_21 (Int.toNat ((c : Int))) 6) fun (s_24 : zS) => nm_ (gR s_24 64 0 18) fun (r_25 : Option Nat) => if x_19 < 1 then (Option.bind r_25 fun i_34 => g_ ((0 : Int) ≤ (c : Int) ∧ ((c : Int) : Int) < 24) (up_ (sI s_24 84 i_34 (Int.toNat ((c : Int))) (wr ((gI s_24 64 0 13) + 1))) fun (s_37 : zS) => nm_ (gR s_37 64 0 18) fun (r_38 : Option Nat) => Option.bind r_38 fun i_39 => g_ ((0 : Int) ≤ (c : Int) ∧ ((c : Int) : Int) < 24) (some (gI s_37 84 i_39 (Int.toNat ((c : Int))), s_37)))) else (Option.bind r_25 fun i_26 => g_ ((0 : Int) ≤ (c : Int) ∧ ((c : Int) : Int) < 24) (up_ (sI s_24 84 i_26 (Int.toNat ((c : Int))) (wr ((gI s_24 64 0 13) + x_19))) fun (s_29 : zS) => nm_ (gR s_29 64 0 18) fun (r_30 : Option Nat) => Option.bind r_30 fun i_31 => g_ ((0 : Int) ≤ (c : Int) ∧ ((c : Int) : Int) < 24) (some (gI s_29 84 i_31 (Int.toNat ((c : Int))), s_29))))))) :
    ∃ r X' M', A = some (r, X') ∧ B = some (r, M') ∧ zR X' M' := by
  obtain ⟨⟨hX, hM, hN⟩, hS, hF, hB, hP, hL, hC, hK, hD, hZ⟩ := id hr
  have h16 := hN.1
  have hg : 0 ≤ (c : Int) ∧ (c : Int) < 24 := by omega
  obtain ⟨⟨a0, a1, a2, a3⟩, ⟨b1, b2, b3, b4⟩, ⟨c1, c2, c3⟩, d4, d5, d6, d7, d8, d9, d10, d11, d12, d13, d14, d15, d16, d17, d18, d19, d20, d21, d22, d23, d24, d25⟩ := hC c hc
  obtain ⟨p, hp⟩ : ∃ p : Nat, gI M 81 0 c = p := ⟨(gI M 81 0 c).toNat, by omega⟩
  have b1' : gR X 5 c 1 = some p := by rw [b1, hp, Int.toNat_natCast]
  obtain ⟨w, hw, w1, w2⟩ := way_eq hr hnf (a := q) (b := p) hq (by omega)
  have hs := hS.1
  have w3 : wr (3 * w) = 3 * w := wr_id (by unfold zin; omega)
  obtain ⟨d, hd, ed, em⟩ : ∃ d : Int, (1 ≤ d ∧ d ≤ 2100) ∧ imax 1 (3 * w) = d ∧ d = (if 3 * w < 1 then 1 else 3 * w) := by
    unfold imax
    by_cases e : 3 * w < 1
    · exact ⟨1, by omega, by rw [if_neg (by omega)], by rw [if_pos e]⟩
    · by_cases e2 : 1 < 3 * w
      · exact ⟨3 * w, by omega, by rw [if_pos e2], by rw [if_neg e]⟩
      · exact ⟨1, by omega, by rw [if_neg e2], by rw [if_neg e]; omega⟩
  have nk : ∀ k, k < K → gI M 102 0 k ≠ c := fun k hk e => by
    have := ((hK k hk).2.2.2 (by omega)).2.2.1
    rw [e, Int.toNat_natCast] at this
    exact z this
  have eX : A = some (gI M 64 0 13 + d, (sR (sR (sR (sR (sI (sI X 5 c 11 (gI M 64 0 13 + d)) 5 c 3 6) 5 c 4 none) 5 c 6 none) 5 c 7 none) 5 c 8 none)) := by
    rw [eA]
    unfold fX4_leaveFor
    simp only [nm_eq, up_eq, cl_some, ob_some, oe_some, oe_none, ob_none, h4, b1', w1, w3, ed, hS.1.1, gI_sI, gI_sR, gI_sN, gI_sCp, gI_sB, gR_sI, gR_sR, gR_sN, gR_sCp, gR_sB, gN_sI, gN_sR, gN_sN, gN_sCp, gN_sB, ↓reduceIte, and_true, true_and, and_false, false_and, and_self, or_true, true_or, or_false, false_or, or_self, Nat.reduceEqDiff, Int.reduceNeg, ne_eq, not_true_eq_false, not_false_eq_true, Int.toNat_natCast, reduceCtorEq, i10, i01, implies_true, true_implies, false_implies, g_t (c := True) trivial]
    rw [wr_id (by unfold zin; omega)]
  have eM : B = some (gI M 64 0 13 + d, sI (sI M 82 0 c 6) 84 0 c (gI M 64 0 13 + d)) := by
    rw [eB, h83, hp, w2]
    simp only [nm_eq, up_eq, cl_some, ob_some, oe_some, oe_none, ob_none, w3, hM.2 16 rfl, hM.2 18 rfl, g_t hg, gI_sI, gI_sR, gI_sN, gI_sCp, gI_sB, gR_sI, gR_sR, gR_sN, gR_sCp, gR_sB, gN_sI, gN_sR, gN_sN, gN_sCp, gN_sB, ↓reduceIte, and_true, true_and, and_false, false_and, and_self, or_true, true_or, or_false, false_or, or_self, Nat.reduceEqDiff, Int.reduceNeg, ne_eq, not_true_eq_false, not_false_eq_true, Int.toNat_natCast, reduceCtorEq, i10, i01, implies_true, true_implies, false_implies, g_t (c := True) trivial]
    by_cases e : 3 * w < 1
    · rw [if_pos e] at em
      subst em
      rw [if_pos e, wr_id (by unfold zin; omega)]
    · rw [if_neg e] at em
      subst em
      rw [if_neg e, wr_id (by unfold zin; omega)]
  refine ⟨_, _, _, eX, eM, P, C, K, hr.cup hc (fun _ => rfl) (fun _ => rfl) (by repeat first | exact .rf | refine eqS_sI rfl ?_ | refine eqS_sR rfl ?_ | refine eqS_sB (fun _ => rfl) ?_ | refine eqS_sN (fun _ => rfl) ?_) (fun i k hi => ?_) (fun _ _ _ => rfl) (by repeat first | exact .rf | refine eqS_sI rfl ?_ | refine eqS_sR rfl ?_ | refine eqS_sB (fun _ => rfl) ?_ | refine eqS_sN (fun _ => rfl) ?_) (fun t ht i hi => ?_) (fun _ _ => rfl) (hS.cg (by repeat first | exact .rf | refine eqS_sI rfl ?_ | refine eqS_sR rfl ?_ | refine eqS_sB (fun _ => rfl) ?_ | refine eqS_sN (fun _ => rfl) ?_) (fun _ _ => rfl) (by repeat first | exact .rf | refine eqS_sI rfl ?_ | refine eqS_sR rfl ?_ | refine eqS_sB (fun _ => rfl) ?_ | refine eqS_sN (fun _ => rfl) ?_)) ?_ nk⟩
  · simp only [gI_sI, gI_sR, gI_sN, gI_sCp, gI_sB, gR_sI, gR_sR, gR_sN, gR_sCp, gR_sB, gN_sI, gN_sR, gN_sN, gN_sCp, gN_sB, ↓reduceIte, and_true, true_and, and_false, false_and, and_self, or_true, true_or, or_false, false_or, or_self, Nat.reduceEqDiff, Int.reduceNeg, ne_eq, not_true_eq_false, not_false_eq_true, Int.toNat_natCast, reduceCtorEq, i10, i01, implies_true, true_implies, false_implies, g_t (c := True) trivial, hi]
  · rcases ht with rfl | rfl | rfl | rfl | rfl | rfl | rfl | rfl | rfl | rfl <;> simp only [gI_sI, gI_sR, gI_sN, gI_sCp, gI_sB, gR_sI, gR_sR, gR_sN, gR_sCp, gR_sB, gN_sI, gN_sR, gN_sN, gN_sCp, gN_sB, ↓reduceIte, and_true, true_and, and_false, false_and, and_self, or_true, true_or, or_false, false_or, or_self, Nat.reduceEqDiff, Int.reduceNeg, ne_eq, not_true_eq_false, not_false_eq_true, Int.toNat_natCast, reduceCtorEq, i10, i01, implies_true, true_implies, false_implies, g_t (c := True) trivial, hi]
  · unfold RC
    simp only [gI_sI, gI_sR, gI_sN, gI_sCp, gI_sB, gR_sI, gR_sR, gR_sN, gR_sCp, gR_sB, gN_sI, gN_sR, gN_sN, gN_sCp, gN_sB, ↓reduceIte, and_true, true_and, and_false, false_and, and_self, or_true, true_or, or_false, false_or, or_self, Nat.reduceEqDiff, Int.reduceNeg, ne_eq, not_true_eq_false, not_false_eq_true, Int.toNat_natCast, reduceCtorEq, i10, i01, implies_true, true_implies, false_implies, g_t (c := True) trivial]
    and_intros <;> first | exact True.intro | assumption | omega | exact d7.2 | (intro x; first | assumption | omega | (exfalso; omega))
/-- whether a porter may take cup c -/
abbrev mayT (M : zS) (c : Nat) : Prop := gI M 82 0 c = 5 ∨ (gI M 82 0 c = 2 ∧ gI M 72 0 (gI M 83 0 c).toNat ≠ 0) ∨ (gI M 82 0 c = 1 ∧ gI M 85 0 c = 0 ∧ gI M 86 0 c = -9)
theorem mdec (hr : RR P C K D X M) {c : Nat} (hc : c < C) (j79 : zS → Int → Option (Int × zS)) : (nm_ (fun (s_42 : zS) => j79 s_42 1) fun (j74 : zS → Option (Int × zS)) => if gI M 82 0 (Int.toNat ((c : Int))) = 5 then (j74 M) else (nm_ (gR M 64 0 16) fun (r_43 : Option Nat) => Option.bind r_43 fun i_44 => g_ ((0 : Int) ≤ (c : Int) ∧ ((c : Int) : Int) < 24) (nm_ (fun (s_47 : zS) => nm_ (gR s_47 64 0 16) fun (r_48 : Option Nat) => Option.bind r_48 fun i_49 => g_ ((0 : Int) ≤ (c : Int) ∧ ((c : Int) : Int) < 24) (nm_ (fun (s_52 : zS) => j79 s_52 0) fun (j78 : zS → Option (Int × zS)) => if gI s_47 82 i_49 (Int.toNat ((c : Int))) = 1 then (nm_ (gR s_47 64 0 19) fun (r_53 : Option Nat) => Option.bind r_53 fun i_54 => g_ ((0 : Int) ≤ (c : Int) ∧ ((c : Int) : Int) < 24) (if gI s_47 85 i_54 (Int.toNat ((c : Int))) = 0 then (nm_ (gR s_47 64 0 20) fun (r_57 : Option Nat) => Option.bind r_57 fun i_58 => g_ ((0 : Int) ≤ (c : Int) ∧ ((c : Int) : Int) < 24) (if gI s_47 86 i_58 (Int.toNat ((c : Int))) = (-9) then (j74 s_47) else (j78 s_47))) else (j78 s_47))) else (j78 s_47))) fun (j44 : zS → Option (Int × zS)) => if gI M 82 i_44 (Int.toNat ((c : Int))) = 2 then (nm_ (gR M 64 0 6) fun (r_61 : Option Nat) => nm_ (gR M 64 0 17) fun (r_62 : Option Nat) => Option.bind r_62 fun i_63 => g_ ((0 : Int) ≤ (c : Int) ∧ ((c : Int) : Int) < 24) (Option.bind r_61 fun i_66 => g_ ((0 : Int) ≤ gI M 83 i_63 (Int.toNat ((c : Int))) ∧ (gI M 83 i_63 (Int.toNat ((c : Int))) : Int) < 16) (if gI M 72 i_66 (Int.toNat (gI M 83 i_63 (Int.toNat ((c : Int))))) = 0 then (j44 M) else (j74 M)))) else (j44 M)))) = j79 M (if mayT M c then 1 else 0) := by
  obtain ⟨⟨hX, hM, hN⟩, hS, hF, hB, hP, hL, hC, hK, hD, hZ⟩ := hr
  have h16 := hN.1
  have hg : 0 ≤ (c : Int) ∧ (c : Int) < 24 := by omega
  obtain ⟨⟨a0, a1, a2, a3⟩, ⟨b1, b2, b3, b4⟩, ⟨c1, c2, c3⟩, d4, d5, -⟩ := hC c hc
  simp only [nm_eq, up_eq, cl_some, ob_some, oe_some, oe_none, ob_none, hM.2 16 rfl, hM.2 17 rfl, hM.2 6 rfl, hM.2 19 rfl, hM.2 20 rfl, g_t hg, Int.toNat_natCast]
  by_cases z5 : gI M 82 0 c = 5
  · rw [if_pos z5, if_pos (show mayT M c from Or.inl z5)]
  rw [if_neg z5]
  by_cases z2 : gI M 82 0 c = 2
  · have q := d5 (by omega)
    rw [if_pos z2, g_t (by omega), if_neg (show ¬ gI M 82 0 c = 1 by omega)]
    by_cases w : gI M 72 0 (gI M 83 0 c).toNat = 0
    · rw [if_pos w, if_neg (show ¬ mayT M c by unfold mayT; omega)]
    · rw [if_neg w, if_pos (show mayT M c from Or.inr (Or.inl ⟨z2, w⟩))]
  rw [if_neg z2]
  by_cases z1 : gI M 82 0 c = 1
  · rw [if_pos z1]
    by_cases w : gI M 85 0 c = 0
    · rw [if_pos w]
      by_cases v : gI M 86 0 c = -9
      · rw [if_pos v, if_pos (show mayT M c from Or.inr (Or.inr ⟨z1, w, v⟩))]
      · rw [if_neg v, if_neg (show ¬ mayT M c by unfold mayT; omega)]
    · rw [if_neg w, if_neg (show ¬ mayT M c by unfold mayT; omega)]
  · rw [if_neg z1, if_neg (show ¬ mayT M c by unfold mayT; omega)]
theorem xdec (hr : RR P C K D X M) {c : Nat} (hc : c < C) : fX10_porterMayTake X (some c) = some ((if mayT M c then 1 else 0), X) := by
  obtain ⟨⟨hX, hM, hN⟩, hS, hF, hB, hP, hL, hC, hK, hD, hZ⟩ := hr
  have h16 := hN.1
  obtain ⟨⟨a0, a1, a2, a3⟩, ⟨b1, b2, b3, b4⟩, ⟨c1, c2, c3⟩, d4, d5, d6, d7, d8, d9, d10, d11, d12, -⟩ := hC c hc
  unfold fX10_porterMayTake mayT
  simp only [nm_eq, up_eq, cl_some, ob_some, oe_some, oe_none, ob_none, c1, d7.1]
  have hz : gI M 82 0 c = 0 ∨ gI M 82 0 c = 1 ∨ gI M 82 0 c = 2 ∨ gI M 82 0 c = 3 ∨ gI M 82 0 c = 4 ∨ gI M 82 0 c = 5 ∨ gI M 82 0 c = 6 := by omega
  rcases hz with z | z | z | z | z | z | z
  · have := (d4 z).1
    simp [z, this]
  · have r4 := (d5 (by omega)).1
    by_cases w : gI M 85 0 c = 0
    · obtain ⟨r7, e, -⟩ := d11 ⟨z, w⟩
      rcases e with e | e
      · simp [z, r4, w, r7, e, ox]
      · have e9 : ¬ gI M 86 0 c = -9 := by omega
        have e0 : ¬ gI M 86 0 c < 0 := by omega
        simp [z, r4, w, r7, e9, e0, ox]
    · simp [z, r4, w]
  · have r4 := d5 (by omega)
    have q := (hP (gI M 83 0 c).toNat (by omega)).2.2.2.2.2.1
    rcases q.2 with w | w <;> simp [z, r4.1, q.1, w]
  · have := d6 (by omega)
    simp [z, this]
  · have := d6 (by omega)
    simp [z, this]
  · have := (d5 (by omega)).1
    simp [z, this]
  · have := d6 (by omega)
    simp [z, this]
theorem P_porter (h : zR X M) {nf : Nat} (hnf : 1000 ≤ nf) (x1 : Int) (h1 : zin x1) : ∃ r X' M', fX10_porter nf X 0 x1 = some (r, X') ∧ fX11_porter nf M 0 x1 = some (r, M') ∧ zR X' M' := by
  obtain ⟨P, C, K, hr⟩ := id h
  obtain ⟨⟨hX, hM, hN⟩, hS, hF, hB, hP, hL, hC, hK, hD, hZ⟩ := id hr
  have h16 := hN.1
  rcases idx0 x1 C with hx | ⟨c, hc, rfl⟩
  · unfold fX10_porter fX11_porter
    rw [findCup_out hr hx, isCup_eq hr, cl_some, cl_some, oe_none, if_neg (show ¬ (0 ≤ x1 ∧ x1 < C) by omega), if_pos rfl]
    exact ⟨_, _, _, rfl, rfl, h⟩
  have hg : 0 ≤ (c : Int) ∧ (c : Int) < 24 := by omega
  have eM : fX11_porter nf M 0 c = (fun (s_7 : zS) (u_8 : Int) => if u_8 = 0 then (some ((-3), s_7)) else (nm_ (gR s_7 64 0 17) fun (r_9 : Option Nat) => Option.bind r_9 fun i_10 => g_ ((0 : Int) ≤ (c : Int) ∧ ((c : Int) : Int) < 24) (nm_ (gR s_7 64 0 15) fun (r_13 : Option Nat) => Option.bind r_13 fun i_14 => g_ ((0 : Int) ≤ (c : Int) ∧ ((c : Int) : Int) < 24) (cl_ (fX11_between nf s_7 0 (gI s_7 83 i_10 (Int.toNat ((c : Int)))) (gI s_7 81 i_14 (Int.toNat ((c : Int))))) fun (x_18 : Int) (s_17 : zS) => nm_ (wr (3 * x_18)) fun (x_19 : Int) => nm_ (gR s_17 64 0 16) fun (r_20 : Option Nat) => Option.bind r_20 fun i_21 => g_ ((0 : Int) ≤ (c : Int) ∧ ((c : Int) : Int) < 24) (up_ (sI s_17 82 i_21 (Int.toNat ((c : Int))) 6) fun (s_24 : zS) => nm_ (gR s_24 64 0 18) fun (r_25 : Option Nat) => if x_19 < 1 then (Option.bind r_25 fun i_34 => g_ ((0 : Int) ≤ (c : Int) ∧ ((c : Int) : Int) < 24) (up_ (sI s_24 84 i_34 (Int.toNat ((c : Int))) (wr ((gI s_24 64 0 13) + 1))) fun (s_37 : zS) => nm_ (gR s_37 64 0 18) fun (r_38 : Option Nat) => Option.bind r_38 fun i_39 => g_ ((0 : Int) ≤ (c : Int) ∧ ((c : Int) : Int) < 24) (some (gI s_37 84 i_39 (Int.toNat ((c : Int))), s_37)))) else (Option.bind r_25 fun i_26 => g_ ((0 : Int) ≤ (c : Int) ∧ ((c : Int) : Int) < 24) (up_ (sI s_24 84 i_26 (Int.toNat ((c : Int))) (wr ((gI s_24 64 0 13) + x_19))) fun (s_29 : zS) => nm_ (gR s_29 64 0 18) fun (r_30 : Option Nat) => Option.bind r_30 fun i_31 => g_ ((0 : Int) ≤ (c : Int) ∧ ((c : Int) : Int) < 24) (some (gI s_29 84 i_31 (Int.toNat ((c : Int))), s_29))))))))) M (if mayT M c then 1 else 0) := by
    unfold fX11_porter
    rw [isCup_eq hr, cl_some, if_pos (show 0 ≤ (c : Int) ∧ (c : Int) < C by omega), if_neg (by decide), nm_eq]
    refine Eq.trans (congrArg (fun o => Option.bind o _) (hM.2 16 rfl)) ?_
    rw [ob_some, g_t hg]
    exact mdec hr hc (fun (s_7 : zS) (u_8 : Int) => if u_8 = 0 then (some ((-3), s_7)) else (nm_ (gR s_7 64 0 17) fun (r_9 : Option Nat) => Option.bind r_9 fun i_10 => g_ ((0 : Int) ≤ (c : Int) ∧ ((c : Int) : Int) < 24) (nm_ (gR s_7 64 0 15) fun (r_13 : Option Nat) => Option.bind r_13 fun i_14 => g_ ((0 : Int) ≤ (c : Int) ∧ ((c : Int) : Int) < 24) (cl_ (fX11_between nf s_7 0 (gI s_7 83 i_10 (Int.toNat ((c : Int)))) (gI s_7 81 i_14 (Int.toNat ((c : Int))))) fun (x_18 : Int) (s_17 : zS) => nm_ (wr (3 * x_18)) fun (x_19 : Int) => nm_ (gR s_17 64 0 16) fun (r_20 : Option Nat) => Option.bind r_20 fun i_21 => g_ ((0 : Int) ≤ (c : Int) ∧ ((c : Int) : Int) < 24) (up_ (sI s_17 82 i_21 (Int.toNat ((c : Int))) 6) fun (s_24 : zS) => nm_ (gR s_24 64 0 18) fun (r_25 : Option Nat) => if x_19 < 1 then (Option.bind r_25 fun i_34 => g_ ((0 : Int) ≤ (c : Int) ∧ ((c : Int) : Int) < 24) (up_ (sI s_24 84 i_34 (Int.toNat ((c : Int))) (wr ((gI s_24 64 0 13) + 1))) fun (s_37 : zS) => nm_ (gR s_37 64 0 18) fun (r_38 : Option Nat) => Option.bind r_38 fun i_39 => g_ ((0 : Int) ≤ (c : Int) ∧ ((c : Int) : Int) < 24) (some (gI s_37 84 i_39 (Int.toNat ((c : Int))), s_37)))) else (Option.bind r_25 fun i_26 => g_ ((0 : Int) ≤ (c : Int) ∧ ((c : Int) : Int) < 24) (up_ (sI s_24 84 i_26 (Int.toNat ((c : Int))) (wr ((gI s_24 64 0 13) + x_19))) fun (s_29 : zS) => nm_ (gR s_29 64 0 18) fun (r_30 : Option Nat) => Option.bind r_30 fun i_31 => g_ ((0 : Int) ≤ (c : Int) ∧ ((c : Int) : Int) < 24) (some (gI s_29 84 i_31 (Int.toNat ((c : Int))), s_29)))))))))
  have eX : fX10_porter nf X 0 c = (if (if mayT M c then (1 : Int) else 0) = 0 then (some ((-3), X)) else (nm_ (gR X 5 c 4) fun (r_7 : Option Nat) => nm_ (gR X 5 c 1) fun (r_8 : Option Nat) => cl_ (fX10_way nf X r_7 r_8) fun (x_10 : Int) (s_9 : zS) => up_ (sI s_9 5 c 11 (wr ((gI X 0 0 13) + (imax 1 (wr (3 * x_10)))))) fun (s_11 : zS) => cl_ (fX4_leaveFor s_11 c 6) fun (_ : Unit) (s_12 : zS) => some (gI s_12 5 c 11, s_12))) := by
    unfold fX10_porter
    rw [findCup_in hr hc, cl_some, oe_some, xdec hr hc, cl_some]
  by_cases T : mayT M c
  · rw [if_pos T, if_neg (by decide)] at eX
    rw [if_pos T] at eM
    have eM := eM.trans (if_neg (by decide))
    rw [nm_eq, hM.2 17 rfl, ob_some, g_t hg, nm_eq, hM.2 15 rfl, ob_some, g_t hg, Int.toNat_natCast] at eM
    have q := (hC c hc).2.2.2.2.1 (by unfold mayT at T; omega)
    have q83 : gI M 83 0 c = ((gI M 83 0 c).toNat : Int) := by omega
    exact porter_ok h hr hnf hc (q := (gI M 83 0 c).toNat) (by omega) q.1 q83 (by unfold mayT at T; omega) eX eM
  · rw [if_neg T, if_pos rfl] at eX
    rw [if_neg T] at eM
    have eM := eM.trans (if_pos rfl)
    exact ⟨_, _, _, eX, eM, h⟩
end PT
