/-! ===== the row is laid ===== -/
/-- the model's run so far has only laid its row -/
def oN (N' N : zS) : Prop := (∀ t, gN N' t = gN N t) ∧ (∀ t i k, gR N' t i k = gR N t i k) ∧ ∀ t i k, t ≠ 117 → ¬ (t = 64 ∧ k = 52) → gI N' t i k = gI N t i k
theorem oN.rf {N : zS} : oN N N := ⟨fun _ => rfl, fun _ _ _ => rfl, fun _ _ _ _ _ => rfl⟩
def cw (N : zS) : Nat → Nat
  | 0 => 0
  | k + 1 => cw N k + if gI N 82 0 k = 3 then 1 else 0
theorem cw_cg {N N' : zS} (h : ∀ k, gI N' 82 0 k = gI N 82 0 k) : ∀ k, cw N' k = cw N k
  | 0 => rfl
  | k + 1 => by unfold cw; rw [cw_cg h k, h]
def RW (C : Nat) (Y N : zS) (k : Nat) : Prop := ∃ c : Nat, c < C ∧ gR Y 14 0 k = some c ∧ gI N 117 0 k = c ∧ gI N 82 0 c = 3
section RL
variable {P C K : Nat} {D : Int} {X M : zS}
theorem insL {nf : Nat} (κ : zS → Int → Option (Int × zS)) (κ' : zS → Int → Option (Unit × zS)) {o : Int} (ho : o = 0 ∨ o = 1 ∨ o = 2) (u1 u2 : Int) {c s : Nat} (hc : c < C) (hs : s < 24) : ∀ (p n : Nat) (Y N : zS), p < n → p ≤ s → RR P C K D Y N → gI N 82 0 c = 3 → (∀ k, k ≤ s → k ≠ p → RW C Y N k) →
    ∃ Y' N' p', fX10_lineUp_L32 κ 0 o u1 u2 c nf n Y (p : Int) = κ Y' ((p' : Nat) : Int) ∧ fX11_layRow_L30 κ' 0 o c nf n N (p : Int) = κ' N' ((p' : Nat) : Int) ∧ RR P C K D Y' N' ∧ p' ≤ s ∧ (∀ k, k ≤ s → k ≠ p' → RW C Y' N' k) ∧ oN N' N ∧ gI N' 64 0 52 = gI N 64 0 52
  | 0, n + 1, Y, N, hn, hp, hr, zc, hw => by
    refine ⟨Y, N, 0, ?_, ?_, hr, Nat.zero_le s, hw, oN.rf, rfl⟩
    · unfold fX10_lineUp_L32; rw [if_neg (by omega)]
    · unfold fX11_layRow_L30; rw [if_neg (by omega)]
  | p + 1, n + 1, Y, N, hn, hp, hr, zc, hw => by
    obtain ⟨d, d1, d2, d3, d4⟩ := hw p (by omega) (by omega)
    obtain ⟨v, v1, v2⟩ := ahead_eq hr hc d1 zc d4 ho
    have hX := hr.1.1
    have hM := hr.1.2.1
    have gp : (0 : Int) ≤ (p : Int) ∧ (p : Int) < 24 := by omega
    have gp1 : (0 : Int) ≤ ((p + 1 : Nat) : Int) ∧ ((p + 1 : Nat) : Int) < 24 := by omega
    have w1 : wr (((p + 1 : Nat) : Int) - 1) = p := ((wrd ((p + 1 : Nat) : Int) (by omega) (by omega)).2).trans (by omega)
    have w2 : wr (((p + 1 : Nat) : Int) + -1) = p := ((wrd ((p + 1 : Nat) : Int) (by omega) (by omega)).1).trans (by omega)
    have eX : fX10_lineUp_L32 κ 0 o u1 u2 c nf (n + 1) Y ((p + 1 : Nat) : Int) = if v = 0 then κ Y ((p + 1 : Nat) : Int) else fX10_lineUp_L32 κ 0 o u1 u2 c nf n (sR Y 14 0 (p + 1) (some d)) (p : Int) := by
      conv => lhs; unfold fX10_lineUp_L32
      rw [if_pos (by omega)]
      simp only [w1, w2, nm_eq, up_eq, cl_some, ob_some, oe_some, oe_none, ob_none, hX.2.1 3 (by decide), g_t gp, g_t gp1, Int.toNat_natCast, d2, v1]
    have eM : fX11_layRow_L30 κ' 0 o c nf (n + 1) N ((p + 1 : Nat) : Int) = if v = 0 then κ' N ((p + 1 : Nat) : Int) else fX11_layRow_L30 κ' 0 o c nf n (sI N 117 0 (p + 1) d) (p : Int) := by
      conv => lhs; unfold fX11_layRow_L30
      rw [if_pos (by omega)]
      simp only [w1, w2, nm_eq, up_eq, cl_some, ob_some, oe_some, oe_none, ob_none, hM.2 51 rfl, g_t gp, g_t gp1, Int.toNat_natCast, d3, v2]
    by_cases v0 : v = 0
    · rw [if_pos v0] at eX eM
      exact ⟨Y, N, p + 1, eX, eM, hr, hp, hw, oN.rf, rfl⟩
    · rw [if_neg v0] at eX eM
      have hr2 : RR P C K D (sR Y 14 0 (p + 1) (some d)) (sI N 117 0 (p + 1) d) := hr.sc (fun _ => rfl) (fun _ => rfl) (eqS_sR rfl .rf) (fun _ _ _ => rfl) (eqS_sI rfl .rf)
      obtain ⟨Y', N', p', f1, f2, f3, f4, f5, f6, f7⟩ := insL κ κ' ho u1 u2 hc hs p n _ _ (by omega) (by omega) hr2 zc (fun k hk hk2 => by
        by_cases e : k = p + 1
        · subst e
          exact ⟨d, d1, by simp only [gI_sI, gI_sR, gI_sN, gI_sCp, gI_sB, gR_sI, gR_sR, gR_sN, gR_sCp, gR_sB, gN_sI, gN_sR, gN_sN, gN_sCp, gN_sB, ↓reduceIte, and_true, true_and, and_false, false_and, and_self, or_true, true_or, or_false, false_or, or_self, Nat.reduceEqDiff, Int.reduceNeg, ne_eq, not_true_eq_false, not_false_eq_true, Int.toNat_natCast, reduceCtorEq, i10, i01, implies_true, true_implies, false_implies, g_t (c := True) trivial], by simp only [gI_sI, gI_sR, gI_sN, gI_sCp, gI_sB, gR_sI, gR_sR, gR_sN, gR_sCp, gR_sB, gN_sI, gN_sR, gN_sN, gN_sCp, gN_sB, ↓reduceIte, and_true, true_and, and_false, false_and, and_self, or_true, true_or, or_false, false_or, or_self, Nat.reduceEqDiff, Int.reduceNeg, ne_eq, not_true_eq_false, not_false_eq_true, Int.toNat_natCast, reduceCtorEq, i10, i01, implies_true, true_implies, false_implies, g_t (c := True) trivial], d4⟩
        · obtain ⟨x, x1, x2, x3, x4⟩ := hw k hk e
          exact ⟨x, x1, by simp only [gI_sI, gI_sR, gI_sN, gI_sCp, gI_sB, gR_sI, gR_sR, gR_sN, gR_sCp, gR_sB, gN_sI, gN_sR, gN_sN, gN_sCp, gN_sB, ↓reduceIte, and_true, true_and, and_false, false_and, and_self, or_true, true_or, or_false, false_or, or_self, Nat.reduceEqDiff, Int.reduceNeg, ne_eq, not_true_eq_false, not_false_eq_true, Int.toNat_natCast, reduceCtorEq, i10, i01, implies_true, true_implies, false_implies, g_t (c := True) trivial, e]; exact x2, by simp only [gI_sI, gI_sR, gI_sN, gI_sCp, gI_sB, gR_sI, gR_sR, gR_sN, gR_sCp, gR_sB, gN_sI, gN_sR, gN_sN, gN_sCp, gN_sB, ↓reduceIte, and_true, true_and, and_false, false_and, and_self, or_true, true_or, or_false, false_or, or_self, Nat.reduceEqDiff, Int.reduceNeg, ne_eq, not_true_eq_false, not_false_eq_true, Int.toNat_natCast, reduceCtorEq, i10, i01, implies_true, true_implies, false_implies, g_t (c := True) trivial, e]; exact x3, x4⟩)
      refine ⟨Y', N', p', eX.trans f1, eM.trans f2, f3, f4, f5, ⟨f6.1, f6.2.1, fun t i k h1 h2 => ?_⟩, f7.trans rfl⟩
      rw [f6.2.2 t i k h1 h2, gI_sI, if_neg (fun q => h1 q.1)]
theorem rowL {nf : Nat} (hnf : 1000 ≤ nf) {o : Int} (ho : o = 0 ∨ o = 1 ∨ o = 2) : ∀ (m n k s : Nat) (Y N : zS), k + m = C → m < n → s ≤ k → RR P C K D Y N → gI N 64 0 52 = s → (∀ j, j < s → RW C Y N j) → s = cw N k →
    ∃ Y' N' s', fX10_lineUp_L4 0 o nf n Y (s : Int) (k : Int) = some (((s' : Nat) : Int), Y') ∧ fX11_layRow_L7 0 o nf n N (k : Int) = some ((), N') ∧ RR P C K D Y' N' ∧ s' ≤ C ∧ gI N' 64 0 52 = ((s' : Nat) : Int) ∧ (∀ j, j < s' → RW C Y' N' j) ∧ oN N' N ∧ s' = cw N C
  | 0, n + 1, k, s, Y, N, hk, _, hs, hr, h52, hw, hcw => by
    have hN := hr.1.2.2
    have kC : k = C := by omega
    refine ⟨Y, N, s, ?_, ?_, hr, by omega, h52, hw, oN.rf, kC ▸ hcw⟩
    · unfold fX10_lineUp_L4; rw [if_neg (by rw [hN.2.2.1.2.1]; omega)]
    · unfold fX11_layRow_L7; rw [if_neg (by rw [hN.2.1.2.1]; omega)]
  | m + 1, n + 1, k, s, Y, N, hk, hn, hs, hr, h52, hw, hcw => by
    have hX := hr.1.1
    have hM := hr.1.2.1
    have hN := hr.1.2.2
    have h16 := hN.1
    have hC := hr.2.2.2.2.2.2.1 k (by omega)
    have gk : (0 : Int) ≤ (k : Int) ∧ (k : Int) < 24 := by omega
    by_cases z : gI N 82 0 k = 3
    · obtain ⟨Y1, N1, p, f1, f2, f3, f4, f5, f6, f7⟩ := insL (nf := nf) (o := o) (c := k) (s := s)
        (fun (s_12 : zS) (y_11 : Int) => nm_ (gR s_12 0 0 3) fun (r_13 : Option Nat) => Option.bind r_13 fun i_14 => g_ ((0 : Int) ≤ y_11 ∧ (y_11 : Int) < 24) (up_ (sR s_12 14 i_14 (Int.toNat (y_11)) (some k)) fun (s_17 : zS) => nm_ (wr ((s : Int) + 1)) fun (x_18 : Int) => nm_ (wr ((k : Int) + 1)) fun (x_10 : Int) => fX10_lineUp_L4 0 o nf n s_17 x_18 x_10))
        (fun (s_10 : zS) (y_9 : Int) => nm_ (gR s_10 64 0 51) fun (r_11 : Option Nat) => Option.bind r_11 fun i_12 => g_ ((0 : Int) ≤ y_9 ∧ (y_9 : Int) < 24) (up_ (sI s_10 117 i_12 (Int.toNat (y_9)) (k : Int)) fun (s_15 : zS) => up_ (sI s_15 64 0 52 (wr ((gI s_15 64 0 52) + 1))) fun (s_16 : zS) => nm_ (wr ((k : Int) + 1)) fun (x_7 : Int) => fX11_layRow_L7 0 o nf n s_16 x_7))
        ho (s : Int) (k : Int) (by omega) (by omega) s nf Y N (by omega) (Nat.le_refl s) hr z (fun j hj hj2 => hw j (by omega))
      have hX1 := f3.1.1
      have hM1 := f3.1.2.1
      have gp : (0 : Int) ≤ (p : Int) ∧ (p : Int) < 24 := by omega
      have hr2 : RR P C K D (sR Y1 14 0 p (some k)) (sI (sI N1 117 0 p k) 64 0 52 ((s + 1 : Nat) : Int)) := f3.sc (fun _ => rfl) (fun _ => rfl) (eqS_sR rfl .rf) (fun _ _ _ => rfl) (eqS_sI rfl (eqS_sI rfl .rf))
      have z1 : ∀ x : Nat, gI N1 82 0 x = gI N 82 0 x := fun x => f6.2.2 82 0 x (by decide) (by omega)
      obtain ⟨Y', N', s', a1, a2, a3, a4, a5, a6, a7, a8⟩ := rowL hnf ho m n (k + 1) (s + 1) _ _ (by omega) (by omega) (by omega) hr2 (by simp only [gI_sI, gI_sR, gI_sN, gI_sCp, gI_sB, gR_sI, gR_sR, gR_sN, gR_sCp, gR_sB, gN_sI, gN_sR, gN_sN, gN_sCp, gN_sB, ↓reduceIte, and_true, true_and, and_false, false_and, and_self, or_true, true_or, or_false, false_or, or_self, Nat.reduceEqDiff, Int.reduceNeg, ne_eq, not_true_eq_false, not_false_eq_true, Int.toNat_natCast, reduceCtorEq, i10, i01, implies_true, true_implies, false_implies, g_t (c := True) trivial]) (fun j hj => by
        by_cases e : j = p
        · subst e
          exact ⟨k, by omega, by simp only [gI_sI, gI_sR, gI_sN, gI_sCp, gI_sB, gR_sI, gR_sR, gR_sN, gR_sCp, gR_sB, gN_sI, gN_sR, gN_sN, gN_sCp, gN_sB, ↓reduceIte, and_true, true_and, and_false, false_and, and_self, or_true, true_or, or_false, false_or, or_self, Nat.reduceEqDiff, Int.reduceNeg, ne_eq, not_true_eq_false, not_false_eq_true, Int.toNat_natCast, reduceCtorEq, i10, i01, implies_true, true_implies, false_implies, g_t (c := True) trivial], by simp only [gI_sI, gI_sR, gI_sN, gI_sCp, gI_sB, gR_sI, gR_sR, gR_sN, gR_sCp, gR_sB, gN_sI, gN_sR, gN_sN, gN_sCp, gN_sB, ↓reduceIte, and_true, true_and, and_false, false_and, and_self, or_true, true_or, or_false, false_or, or_self, Nat.reduceEqDiff, Int.reduceNeg, ne_eq, not_true_eq_false, not_false_eq_true, Int.toNat_natCast, reduceCtorEq, i10, i01, implies_true, true_implies, false_implies, g_t (c := True) trivial], by simp only [gI_sI, gI_sR, gI_sN, gI_sCp, gI_sB, gR_sI, gR_sR, gR_sN, gR_sCp, gR_sB, gN_sI, gN_sR, gN_sN, gN_sCp, gN_sB, ↓reduceIte, and_true, true_and, and_false, false_and, and_self, or_true, true_or, or_false, false_or, or_self, Nat.reduceEqDiff, Int.reduceNeg, ne_eq, not_true_eq_false, not_false_eq_true, Int.toNat_natCast, reduceCtorEq, i10, i01, implies_true, true_implies, false_implies, g_t (c := True) trivial]; rw [z1]; exact z⟩
        · obtain ⟨x, x1, x2, x3, x4⟩ := f5 j (by omega) e
          exact ⟨x, x1, by simp only [gI_sI, gI_sR, gI_sN, gI_sCp, gI_sB, gR_sI, gR_sR, gR_sN, gR_sCp, gR_sB, gN_sI, gN_sR, gN_sN, gN_sCp, gN_sB, ↓reduceIte, and_true, true_and, and_false, false_and, and_self, or_true, true_or, or_false, false_or, or_self, Nat.reduceEqDiff, Int.reduceNeg, ne_eq, not_true_eq_false, not_false_eq_true, Int.toNat_natCast, reduceCtorEq, i10, i01, implies_true, true_implies, false_implies, g_t (c := True) trivial, e]; exact x2, by simp only [gI_sI, gI_sR, gI_sN, gI_sCp, gI_sB, gR_sI, gR_sR, gR_sN, gR_sCp, gR_sB, gN_sI, gN_sR, gN_sN, gN_sCp, gN_sB, ↓reduceIte, and_true, true_and, and_false, false_and, and_self, or_true, true_or, or_false, false_or, or_self, Nat.reduceEqDiff, Int.reduceNeg, ne_eq, not_true_eq_false, not_false_eq_true, Int.toNat_natCast, reduceCtorEq, i10, i01, implies_true, true_implies, false_implies, g_t (c := True) trivial, e]; exact x3, x4⟩) (by
        rw [cw_cg (N := N) (fun x => by simp only [gI_sI, gI_sR, gI_sN, gI_sCp, gI_sB, gR_sI, gR_sR, gR_sN, gR_sCp, gR_sB, gN_sI, gN_sR, gN_sN, gN_sCp, gN_sB, ↓reduceIte, and_true, true_and, and_false, false_and, and_self, or_true, true_or, or_false, false_or, or_self, Nat.reduceEqDiff, Int.reduceNeg, ne_eq, not_true_eq_false, not_false_eq_true, Int.toNat_natCast, reduceCtorEq, i10, i01, implies_true, true_implies, false_implies, g_t (c := True) trivial]; exact z1 x)]
        unfold cw
        rw [if_pos z, hcw])
      refine ⟨Y', N', s', ?_, ?_, a3, a4, a5, a6, ⟨fun t => (a7.1 t).trans (f6.1 t), fun t i j => (a7.2.1 t i j).trans (f6.2.1 t i j), fun t i j h1 h2 => ?_⟩, a8.trans (cw_cg (fun x => by simp only [gI_sI, gI_sR, gI_sN, gI_sCp, gI_sB, gR_sI, gR_sR, gR_sN, gR_sCp, gR_sB, gN_sI, gN_sR, gN_sN, gN_sCp, gN_sB, ↓reduceIte, and_true, true_and, and_false, false_and, and_self, or_true, true_or, or_false, false_or, or_self, Nat.reduceEqDiff, Int.reduceNeg, ne_eq, not_true_eq_false, not_false_eq_true, Int.toNat_natCast, reduceCtorEq, i10, i01, implies_true, true_implies, false_implies, g_t (c := True) trivial]; exact z1 x) C)⟩
      · conv => lhs; unfold fX10_lineUp_L4
        rw [if_pos (by rw [hN.2.2.1.2.1]; omega)]
        simp only [nm_eq, up_eq, cl_some, ob_some, oe_some, oe_none, ob_none, hX.2.1 1 (by decide), g_t gk, Int.toNat_natCast, hC.1.1, hC.2.2.1.1, z, ↓reduceIte] at f1 ⊢
        rw [f1]
        simp only [hX1.2.1 3 (by decide), nm_eq, up_eq, cl_some, ob_some, oe_some, oe_none, ob_none, g_t gp, Int.toNat_natCast, nat_wr s (by omega), nat_wr k (by omega)]
        exact a1
      · conv => lhs; unfold fX11_layRow_L7
        rw [if_pos (by rw [hN.2.1.2.1]; omega)]
        simp only [nm_eq, up_eq, cl_some, ob_some, oe_some, oe_none, ob_none, hM.2 16 rfl, g_t gk, Int.toNat_natCast, z, ↓reduceIte, h52] at f2 ⊢
        rw [f2]
        simp only [hM1.2 51 rfl, nm_eq, up_eq, cl_some, ob_some, oe_some, oe_none, ob_none, g_t gp, Int.toNat_natCast, gI_sI, ↓reduceIte, and_true, true_and, and_false, false_and, and_self, or_true, true_or, or_false, false_or, or_self, Nat.reduceEqDiff, Int.reduceNeg, ne_eq, not_true_eq_false, not_false_eq_true, Int.toNat_natCast, reduceCtorEq, i10, i01, implies_true, true_implies, false_implies, g_t (c := True) trivial, f7, h52, nat_wr s (by omega), nat_wr k (by omega)]
        exact a2
      · rw [a7.2.2 t i j h1 h2, gI_sI, if_neg (fun q => h2 ⟨q.1, q.2.2⟩), gI_sI, if_neg (fun q => h1 q.1)]
        exact f6.2.2 t i j h1 h2
    · obtain ⟨Y', N', s', a1, a2, a3⟩ := rowL hnf ho m n (k + 1) s Y N (by omega) (by omega) (by omega) hr h52 hw (by unfold cw; rw [if_neg z, hcw]; rfl)
      refine ⟨Y', N', s', ?_, ?_, a3⟩
      · conv => lhs; unfold fX10_lineUp_L4
        rw [if_pos (by rw [hN.2.2.1.2.1]; omega)]
        simp only [nm_eq, up_eq, cl_some, ob_some, oe_some, oe_none, ob_none, hX.2.1 1 (by decide), g_t gk, Int.toNat_natCast, hC.1.1, hC.2.2.1.1, z, ↓reduceIte, nat_wr k (by omega)]
        exact a1
      · conv => lhs; unfold fX11_layRow_L7
        rw [if_pos (by rw [hN.2.1.2.1]; omega)]
        simp only [nm_eq, up_eq, cl_some, ob_some, oe_some, oe_none, ob_none, hM.2 16 rfl, g_t gk, Int.toNat_natCast, z, ↓reduceIte, nat_wr k (by omega)]
        exact a2
theorem row_eq (hr : RR P C K D X M) {nf : Nat} (hnf : 1000 ≤ nf) {o : Int} (ho : o = 0 ∨ o = 1 ∨ o = 2) : ∃ Y N s, fX10_lineUp nf X 0 o = some (((s : Nat) : Int), Y) ∧ fX11_layRow nf M 0 o = some ((), N) ∧ RR P C K D Y N ∧ s ≤ C ∧ gI N 64 0 52 = ((s : Nat) : Int) ∧ (∀ j, j < s → RW C Y N j) ∧ oN N M ∧ s = cw M C := by
  have h16 := hr.1.2.2.1
  have hr2 : RR P C K D X (sI M 64 0 52 0) := hr.sc (fun _ => rfl) (fun _ => rfl) .rf (fun _ _ _ => rfl) (eqS_sI rfl .rf)
  obtain ⟨Y, N, s, a1, a2, a3, a4, a5, a6, a7, a8⟩ := rowL hnf ho C nf 0 0 X (sI M 64 0 52 0) (by omega) (by omega) (Nat.le_refl 0) hr2 (by simp only [gI_sI, gI_sR, gI_sN, gI_sCp, gI_sB, gR_sI, gR_sR, gR_sN, gR_sCp, gR_sB, gN_sI, gN_sR, gN_sN, gN_sCp, gN_sB, ↓reduceIte, and_true, true_and, and_false, false_and, and_self, or_true, true_or, or_false, false_or, or_self, Nat.reduceEqDiff, Int.reduceNeg, ne_eq, not_true_eq_false, not_false_eq_true, Int.toNat_natCast, reduceCtorEq, i10, i01, implies_true, true_implies, false_implies, g_t (c := True) trivial]; rfl) (fun j hj => by omega) rfl
  refine ⟨Y, N, s, a1, ?_, a3, a4, a5, a6, ⟨a7.1, a7.2.1, fun t i k h1 h2 => ?_⟩, a8.trans (cw_cg (N := M) (N' := sI M 64 0 52 0) (fun _ => rfl) C)⟩
  · unfold fX11_layRow
    rw [up_eq]
    exact a2
  · rw [a7.2.2 t i k h1 h2, gI_sI, if_neg (fun q => h2 ⟨q.1, q.2.2⟩)]
theorem P_row (h : zR X M) {nf : Nat} (hnf : 1000 ≤ nf) (x1 : Int) (h1 : zin x1) : ∃ r X' M', fX10_row nf X 0 x1 = some (r, X') ∧ fX11_row nf M 0 x1 = some (r, M') ∧ zR X' M' := by
  obtain ⟨P, C, K, hr⟩ := id h
  have hS := hr.2.1
  have h16 := hr.1.2.2.1
  obtain ⟨Y, N, s, e1, e2, e3, e4, e5, e6, e7, -⟩ := row_eq hr hnf (o := gI M 64 0 38) (by have := hS.2.1; omega)
  have z : zR Y N := ⟨P, C, K, by rw [e7.2.2 64 0 13 (by decide) (by decide)]; exact e3⟩
  have hX1 := e3.1.1
  have hM1 := e3.1.2.1
  unfold fX10_row fX11_row
  rw [hS.2.1.1, e1, e2]
  simp only [nm_eq, up_eq, cl_some, ob_some, oe_some, oe_none, ob_none, in_eq, i10, e5, (wrd (s : Int) (by omega) (by omega)).2, hX1.2.1 3 (by decide), hM1.2 51 rfl]
  by_cases c0 : x1 < 0
  · rw [if_pos c0, if_pos (by omega)]; exact ⟨_, _, _, rfl, rfl, z⟩
  rw [if_neg c0]
  by_cases c1 : x1 < (s : Int)
  · obtain ⟨x, b1, b2, b3, -⟩ := e6 x1.toNat (by omega)
    have hC := e3.2.2.2.2.2.2.1 x b1
    rw [if_pos c1, if_neg (by omega), g_t (by omega), g_t (by omega), b2, ob_some, hC.1.2.1, b3]
    exact ⟨_, _, _, rfl, rfl, z⟩
  · rw [if_neg c1, if_pos (by omega)]; exact ⟨_, _, _, rfl, rfl, z⟩
end RL
