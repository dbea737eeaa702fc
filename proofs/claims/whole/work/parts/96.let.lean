/-! ===== wires let cups on ===== -/
theorem dec_1 {M : zS} {p a : Nat} {u v : Option Nat} (h : (dec0 M p u v).1 = some a) : u = some a := by
  cases u with
  | none => rw [dec_n] at h; cases h
  | some x =>
    cases v with
    | none => rw [dec_r] at h; exact h
    | some y =>
      rw [dec_s] at h
      split at h
      · split at h
        · cases h
        · exact h
      · exact h
theorem dec_2 {M : zS} {p b : Nat} {u v : Option Nat} (h : (dec0 M p u v).2 = some b) : v = some b := by
  cases u with
  | none => rw [dec_n] at h; exact h
  | some x =>
    cases v with
    | none => rw [dec_r] at h; cases h
    | some y =>
      rw [dec_s] at h
      split at h
      · split at h
        · exact h
        · cases h
      · exact h
theorem ls1 (M : zS) (p : Nat) : lsM M p 1 = if gI M 78 0 (2 * p + 1) = -9 then -1000 else gI M 78 0 (2 * p + 1) := rfl
theorem ls0 (M : zS) (p : Nat) : lsM M p 0 = if gI M 78 0 (2 * p) = -9 then -1000 else gI M 78 0 (2 * p) := rfl
section LT
variable {P C K : Nat} {D : Int} {X M : zS}
theorem go_both (hr : RR P C K D X M) {p : Nat} (h0 : 0 < p) (hp : p < P) (e : Option Nat × Option Nat) (h1 : ∀ a, e.1 = some a → a < C ∧ wW M p 1 a) (h2 : ∀ b, e.2 = some b → b < C ∧ wW M p 0 b) : RR P C K D (goX X p e) (goM M p e) ∧ gI (goM M p e) 64 0 13 = gI M 64 0 13 ∧ ∀ q, q ≠ p → ∀ d : Int, d = 0 ∨ d = 1 → ∀ k, NSw M X k q d → NSw (goM M p e) (goX X p e) k q d := by
  obtain ⟨u, v⟩ := e
  unfold goX goM
  cases u with
  | none =>
    cases v with
    | none => exact ⟨hr, rfl, fun q _ d _ k h => h⟩
    | some b =>
      obtain ⟨hb, wb⟩ := h2 b rfl
      refine ⟨dn_go hr h0 hp hb wb, ?_, fun q hq d hd k h => NSw_dn hd hq wb h⟩
      show gI (dnM M p b) 64 0 13 = _
      unfold dnM
      simp only [gI_sI, gI_sR, gI_sN, gI_sCp, gI_sB, gR_sI, gR_sR, gR_sN, gR_sCp, gR_sB, gN_sI, gN_sR, gN_sN, gN_sCp, gN_sB, ↓reduceIte, and_true, true_and, and_false, false_and, and_self, or_true, true_or, or_false, false_or, or_self, Nat.reduceEqDiff, Int.reduceNeg, ne_eq, not_true_eq_false, not_false_eq_true, Int.toNat_natCast, reduceCtorEq, i10, i01, implies_true, true_implies, false_implies, g_t (c := True) trivial]
  | some a =>
    obtain ⟨ha, wa⟩ := h1 a rfl
    have r1 := up_go hr h0 hp ha wa
    have c1 : gI (upM M p a) 64 0 13 = gI M 64 0 13 := by
      unfold upM
      simp only [gI_sI, gI_sR, gI_sN, gI_sCp, gI_sB, gR_sI, gR_sR, gR_sN, gR_sCp, gR_sB, gN_sI, gN_sR, gN_sN, gN_sCp, gN_sB, ↓reduceIte, and_true, true_and, and_false, false_and, and_self, or_true, true_or, or_false, false_or, or_self, Nat.reduceEqDiff, Int.reduceNeg, ne_eq, not_true_eq_false, not_false_eq_true, Int.toNat_natCast, reduceCtorEq, i10, i01, implies_true, true_implies, false_implies, g_t (c := True) trivial]
    cases v with
    | none => exact ⟨r1, c1, fun q hq d hd k h => NSw_up hd hq wa h⟩
    | some b =>
      obtain ⟨hb, wb⟩ := h2 b rfl
      have ne : ¬ b = a := by
        rintro rfl
        have := wa.2.1
        have := wb.2.1
        omega
      have wb' : wW (upM M p a) p 0 b := by
        have x1 := wb.1
        have x2 := wb.2.1
        have x3 := wb.2.2
        rw [if_neg (by decide)] at x3
        unfold wW upM
        simp only [gI_sI, gI_sR, gI_sN, gI_sCp, gI_sB, gR_sI, gR_sR, gR_sN, gR_sCp, gR_sB, gN_sI, gN_sR, gN_sN, gN_sCp, gN_sB, ↓reduceIte, and_true, true_and, and_false, false_and, and_self, or_true, true_or, or_false, false_or, or_self, Nat.reduceEqDiff, Int.reduceNeg, ne_eq, not_true_eq_false, not_false_eq_true, Int.toNat_natCast, reduceCtorEq, i10, i01, implies_true, true_implies, false_implies, g_t (c := True) trivial, ne]
        exact ⟨x1, x2, by rw [if_neg (by decide)]; exact x3⟩
      refine ⟨dn_go r1 h0 hp hb wb', ?_, fun q hq d hd k h => NSw_dn hd hq wb' (NSw_up hd hq wa h)⟩
      show gI (dnM (upM M p a) p b) 64 0 13 = _
      rw [← c1]
      unfold dnM
      simp only [gI_sI, gI_sR, gI_sN, gI_sCp, gI_sB, gR_sI, gR_sR, gR_sN, gR_sCp, gR_sB, gN_sI, gN_sR, gN_sN, gN_sCp, gN_sB, ↓reduceIte, and_true, true_and, and_false, false_and, and_self, or_true, true_or, or_false, false_or, or_self, Nat.reduceEqDiff, Int.reduceNeg, ne_eq, not_true_eq_false, not_false_eq_true, Int.toNat_natCast, reduceCtorEq, i10, i01, implies_true, true_implies, false_implies, g_t (c := True) trivial]
theorem letStep (hr : RR P C K D X M) {nf : Nat} (hnf : 1000 ≤ nf) {p : Nat} (h0 : 0 < p) (hp : p < P) (hn : ∀ q, p ≤ q → q < P → ∀ d : Int, d = 0 ∨ d = 1 → NSw M X C q d) : ∃ X' M', (∀ n, fX10_letOnWires_L67 0 nf (n + 1) X (p : Int) = fX10_letOnWires_L67 0 nf n X' ((p + 1 : Nat) : Int)) ∧ (∀ n, fX11_letAll_L2 0 nf (n + 1) M (p : Int) = fX11_letAll_L2 0 nf n M' ((p + 1 : Nat) : Int)) ∧ RR P C K D X' M' ∧ gI M' 64 0 13 = gI M 64 0 13 ∧ ∀ q, p + 1 ≤ q → q < P → ∀ d : Int, d = 0 ∨ d = 1 → NSw M' X' C q d := by
  have hX := hr.1.1
  have hN := hr.1.2.2
  have h16 := hN.1
  have hS := hr.2.1
  have hs := hS.1
  have gp : (0 : Int) ≤ (p : Int) ∧ (p : Int) < 16 := by omega
  obtain ⟨e1, -, e3, e4, e5, e6, -, -, -, e10, -⟩ := hr.2.2.2.2.1 p hp
  obtain ⟨-, e10u, e10d⟩ := e10 h0
  have nU := hn p (Nat.le_refl p) hp 1 (Or.inr rfl)
  have nV := hn p (Nat.le_refl p) hp 0 (Or.inl rfl)
  have hU : ∀ a, gR X 10 (2 * p) 3 = some a → a < C ∧ wW M p 1 a := fun a h => by
    rcases nU.2.2 with ⟨g1, -⟩ | ⟨r, g1, g2, g3, g4, -⟩
    · rw [wI_1, h] at g1; cases g1
    · rw [wI_1, h] at g2; cases g2; exact ⟨g1, g4⟩
  have hV : ∀ b, gR X 10 (2 * p + 1) 3 = some b → b < C ∧ wW M p 0 b := fun b h => by
    rcases nV.2.2 with ⟨g1, -⟩ | ⟨r, g1, g2, g3, g4, -⟩
    · rw [wI_0, h] at g1; cases g1
    · rw [wI_0, h] at g2; cases g2; exact ⟨g1, g4⟩
  have lU : gI X 10 (2 * p) 0 = lsM M p 1 := by rw [ls1]; exact e10u.1
  have lV : gI X 10 (2 * p + 1) 0 = lsM M p 0 := by rw [ls0]; exact e10d.1
  have bU : -1000 ≤ lsM M p 1 ∧ lsM M p 1 ≤ 20000 := by rw [ls1]; split <;> omega
  have bV : -1000 ≤ lsM M p 0 ∧ lsM M p 0 ≤ 20000 := by rw [ls0]; split <;> omega
  have eM : ∀ n, fX11_letAll_L2 0 nf (n + 1) M (p : Int) = zS1 (fun s_5 u_6 => zS2 (fun s_11 u_12 => zS3 (zS4 nf n p) nf p s_11 u_6 u_12) nf p s_5) nf p M := fun n => la_step nf n p M (by rw [hN.2.1.1]; omega)
  by_cases wh : gI M 72 0 p = 0
  · -- whole
    have fA := free_eq (p := p) (w := 2 * p) (w' := 2 * p + 1) nU.2.1 e4.2.2 hS.1.1 lU e5.1 nV.1 lV (wr_id (by unfold zin; omega)) (wr_id (by unfold zin; omega))
    have fB := free_eq (p := p) (w := 2 * p + 1) (w' := 2 * p) nV.2.1 e4.2.2 hS.1.1 lV e5.1 nU.1 lU (wr_id (by unfold zin; omega)) (wr_id (by unfold zin; omega))
    have lx := letX (M := M) rfl rfl e1.2.2.1 e1.2.2.2.1 fA fB e5.1 (fun a b ha hb => by
      have a1 := hU a ha
      have b1 := hV b hb
      exact ⟨(hr.2.2.2.2.2.2.1 a a1.1).2.2.2.2.2.2.2.2.2.2.2.2.2.2.2.2.1 (Or.inl a1.2.1), (hr.2.2.2.2.2.2.1 b b1.1).2.2.2.2.2.2.2.2.2.2.2.2.2.2.2.2.1 (Or.inl b1.2.1)⟩)
    -- what goes
    generalize hu : (if ¬ nrS M p 1 C < gI M 70 0 p ∧ ¬ gI M 64 0 13 - lsM M p 1 < gI M 70 0 p ∧ (gI M 71 0 p ≠ 0 ∨ (onS M p 0 C = 0 ∧ ¬ gI M 64 0 13 - lsM M p 0 < gI M 70 0 p)) then gR X 10 (2 * p) 3 else none) = u at lx
    generalize hv : (if ¬ nrS M p 0 C < gI M 70 0 p ∧ ¬ gI M 64 0 13 - lsM M p 0 < gI M 70 0 p ∧ (gI M 71 0 p ≠ 0 ∨ (onS M p 1 C = 0 ∧ ¬ gI M 64 0 13 - lsM M p 1 < gI M 70 0 p)) then gR X 10 (2 * p + 1) 3 else none) = v at lx
    have cu : ∀ a, u = some a → a < C ∧ wW M p 1 a := fun a h => by
      rw [h] at hu
      split at hu
      · exact hU a hu
      · cases hu
    have cv : ∀ b, v = some b → b < C ∧ wW M p 0 b := fun b h => by
      rw [h] at hv
      split at hv
      · exact hV b hv
      · cases hv
    have k1 : ∀ a, (dec0 M p u v).1 = some a → a < C ∧ wW M p 1 a := fun a h => cu a (dec_1 h)
    have k2 : ∀ b, (dec0 M p u v).2 = some b → b < C ∧ wW M p 0 b := fun b h => cv b (dec_2 h)
    obtain ⟨g1, g2, g3⟩ := go_both hr h0 hp _ k1 k2
    refine ⟨_, _, fun n => ?_, fun n => ?_, g1, g2, fun q h1 h2 d hd => g3 q (by omega) d hd C (hn q (by omega) h2 d hd)⟩
    · conv => lhs; unfold fX10_letOnWires_L67
      rw [if_pos (by rw [hN.2.2.1.1]; omega)]
      simp only [nm_eq, up_eq, cl_some, ob_some, oe_some, oe_none, ob_none, hX.2.1 0 (by decide), g_t gp, Int.toNat_natCast, e1.1, e6.1]
      rw [if_neg (show ¬ (1 : Int) - gI M 72 0 p = 0 by omega), lx, cl_some, nat_wr p (by omega)]
    · rw [eM n, zS1_eq hr hnf h0 hp _ nU.2.2]
      show zS2 _ nf p M = _
      rw [zS2_eq hr hnf h0 hp _ nV.2.2]
      show zS3 _ nf p M _ _ = _
      rw [zS3_eq hr hnf h0 hp _ _ _ (fun a h => by split at h; exact (hU a h).1; cases h) (fun b h => by split at h; exact (hV b h).1; cases h)]
      have xu : (if ¬ gI M 64 0 13 - lsM M p 1 < gI M 70 0 p ∧ (gI M 71 0 p ≠ 0 ∨ (onS M p 0 C = 0 ∧ ¬ gI M 64 0 13 - lsM M p 0 < gI M 70 0 p)) then (if gI M 72 0 p = 0 ∧ ¬ nrS M p 1 C < gI M 70 0 p then gR X 10 (2 * p) 3 else none) else none) = u := by
        rw [← hu]
        by_cases z : ¬ nrS M p 1 C < gI M 70 0 p
        · rw [if_pos (show gI M 72 0 p = 0 ∧ ¬ nrS M p 1 C < gI M 70 0 p from ⟨wh, z⟩)]
          by_cases y : ¬ gI M 64 0 13 - lsM M p 1 < gI M 70 0 p ∧ (gI M 71 0 p ≠ 0 ∨ (onS M p 0 C = 0 ∧ ¬ gI M 64 0 13 - lsM M p 0 < gI M 70 0 p))
          · rw [if_pos y, if_pos ⟨z, y⟩]
          · rw [if_neg y, if_neg (fun q => y q.2)]
        · rw [if_neg (show ¬ (gI M 72 0 p = 0 ∧ ¬ nrS M p 1 C < gI M 70 0 p) from fun q => z q.2), ite_self, if_neg (fun q => z q.1)]
      have xv : (if ¬ gI M 64 0 13 - lsM M p 0 < gI M 70 0 p ∧ (gI M 71 0 p ≠ 0 ∨ (onS M p 1 C = 0 ∧ ¬ gI M 64 0 13 - lsM M p 1 < gI M 70 0 p)) then (if gI M 72 0 p = 0 ∧ ¬ nrS M p 0 C < gI M 70 0 p then gR X 10 (2 * p + 1) 3 else none) else none) = v := by
        rw [← hv]
        by_cases z : ¬ nrS M p 0 C < gI M 70 0 p
        · rw [if_pos (show gI M 72 0 p = 0 ∧ ¬ nrS M p 0 C < gI M 70 0 p from ⟨wh, z⟩)]
          by_cases y : ¬ gI M 64 0 13 - lsM M p 0 < gI M 70 0 p ∧ (gI M 71 0 p ≠ 0 ∨ (onS M p 1 C = 0 ∧ ¬ gI M 64 0 13 - lsM M p 1 < gI M 70 0 p))
          · rw [if_pos y, if_pos ⟨z, y⟩]
          · rw [if_neg y, if_neg (fun q => y q.2)]
        · rw [if_neg (show ¬ (gI M 72 0 p = 0 ∧ ¬ nrS M p 0 C < gI M 70 0 p) from fun q => z q.2), ite_self, if_neg (fun q => z q.1)]
      rw [xu, xv]
      exact zS4_eq hr h0 hp _ k1 (fun b h => (k2 b h).1)
  · -- broken
    refine ⟨X, M, fun n => ?_, fun n => ?_, hr, rfl, fun q h1 h2 d hd => hn q (by omega) h2 d hd⟩
    · conv => lhs; unfold fX10_letOnWires_L67
      rw [if_pos (by rw [hN.2.2.1.1]; omega)]
      simp only [nm_eq, up_eq, cl_some, ob_some, oe_some, oe_none, ob_none, hX.2.1 0 (by decide), g_t gp, Int.toNat_natCast, e1.1, e6.1]
      rw [if_pos (show (1 : Int) - gI M 72 0 p = 0 by omega), nat_wr p (by omega)]
    · rw [eM n, zS1_eq hr hnf h0 hp _ nU.2.2]
      show zS2 _ nf p M = _
      rw [zS2_eq hr hnf h0 hp _ nV.2.2]
      show zS3 _ nf p M _ _ = _
      rw [if_neg (show ¬ (gI M 72 0 p = 0 ∧ ¬ nrS M p 1 C < gI M 70 0 p) from fun q => wh q.1), if_neg (show ¬ (gI M 72 0 p = 0 ∧ ¬ nrS M p 0 C < gI M 70 0 p) from fun q => wh q.1)]
      rw [zS3_eq hr hnf h0 hp _ none none (fun a h => by cases h) (fun b h => by cases h), ite_self, ite_self, dec_n]
      exact zS4_eq hr h0 hp (none, none) (fun a h => by cases h) (fun b h => by cases h)
theorem letL {nf : Nat} (hnf : 1000 ≤ nf) : ∀ (m n p : Nat) (Y N : zS), p + m = P → m < n → 0 < p → RR P C K D Y N → (∀ q, p ≤ q → q < P → ∀ d : Int, d = 0 ∨ d = 1 → NSw N Y C q d) → ∃ Y' N', fX10_letOnWires_L67 0 nf n Y (p : Int) = some ((), Y') ∧ fX11_letAll_L2 0 nf n N (p : Int) = some ((), N') ∧ RR P C K D Y' N' ∧ gI N' 64 0 13 = gI N 64 0 13
  | 0, n + 1, p, Y, N, hk, _, _, hr, _ => by
    have hN := hr.1.2.2
    refine ⟨Y, N, ?_, ?_, hr, rfl⟩
    · unfold fX10_letOnWires_L67; rw [if_neg (by rw [hN.2.2.1.1]; omega)]
    · unfold fX11_letAll_L2; rw [if_neg (by rw [hN.2.1.1]; omega)]
  | m + 1, n + 1, p, Y, N, hk, hn, h0, hr, hw => by
    obtain ⟨Y1, N1, f1, f2, f3, f4, f5⟩ := letStep hr hnf h0 (by omega) hw
    obtain ⟨Y', N', g1, g2, g3, g4⟩ := letL hnf m n (p + 1) Y1 N1 (by omega) (by omega) (by omega) f3 f5
    exact ⟨Y', N', (f1 n).trans g1, (f2 n).trans g2, g3, g4.trans f4⟩
theorem ph_let {nf : Nat} (hnf : 1000 ≤ nf) : phase (fun X => fX10_letOnWires nf X 0) (fun M => fX11_letAll nf M 0) 0 := by
  intro P C K D X M hr hD
  have h16 := hr.1.2.2.1
  obtain ⟨Y1, f1, f2, f3⟩ := clearL (nf := nf) (fun (s_1 : zS) => fX10_letOnWires_L42 (fun (s_2 : zS) => fX10_letOnWires_L67 0 nf nf s_2 1) 0 nf nf s_1 0) (P - 1) nf 1 X (by omega) (by omega) (by omega) hr (fun p h1 h2 => by omega)
  obtain ⟨Y2, g1, g2, g3⟩ := noteL (nf := nf) (fun (s_2 : zS) => fX10_letOnWires_L67 0 nf nf s_2 1) C nf 0 Y1 (by omega) (by omega) f2 f3
  obtain ⟨Y', N', k1, k2, k3, k4⟩ := letL hnf (P - 1) nf 1 Y2 M (by omega) (by omega) (by omega) g2 (fun q h1 h2 d hd => g3 q (by omega) h2 d hd)
  refine ⟨Y', N', ?_, k2, k3.le (by omega), k4⟩
  exact f1.trans (Eq.trans g1 k1)
end LT
