/-! ===== a tick, of its phases ===== -/
def phase (f g : zS → Option (Unit × zS)) (δ : Int) : Prop := ∀ (P C K : Nat) (D : Int) (X M : zS), RR P C K D X M → D ≤ 60000000 → ∃ X' M', f X = some ((), X') ∧ g M = some ((), M') ∧ RR P C K (D + δ) X' M' ∧ gI M' 64 0 13 = gI M 64 0 13
theorem cl_as {α β γ : Type} (o : Option (α × zS)) (k : α → zS → Option (β × zS)) (k' : β → zS → Option (γ × zS)) : (cl_ o fun a s => cl_ (k a s) k') = cl_ (cl_ o k) k' := by
  cases o with
  | none => rfl
  | some p => rfl
theorem RR.le {P C K : Nat} {D D' : Int} {X M : zS} (h : RR P C K D X M) (hD : D ≤ D') : RR P C K D' X M := by
  obtain ⟨a, b, c, d, e, f, g, i, j, k⟩ := h
  exact ⟨a, b, c, d, e, f, g, i, j.le hD, k⟩
theorem RR.clock {P C K : Nat} {D : Int} {X M : zS} (hr : RR P C K D X M) (h : gI M 64 0 13 + 1 ≤ 20000) : RR P C K D (sI X 0 0 13 (gI M 64 0 13 + 1)) (sI M 64 0 13 (gI M 64 0 13 + 1)) := by
  obtain ⟨hX, hM, hN⟩ := hr.1
  obtain ⟨-, hS, hF, hB, hP, hL, hC, hK, hD, hZ⟩ := hr
  refine ⟨⟨hX.cg rfl (by repeat first | exact .rf | refine eqS_sI rfl ?_ | refine eqS_sR rfl ?_ | refine eqS_sB (fun _ => rfl) ?_ | refine eqS_sN (fun _ => rfl) ?_), hM.cg rfl (by repeat first | exact .rf | refine eqS_sI rfl ?_ | refine eqS_sR rfl ?_ | refine eqS_sB (fun _ => rfl) ?_ | refine eqS_sN (fun _ => rfl) ?_), hN.cg (fun _ => rfl) (by repeat first | exact .rf | refine eqS_sI rfl ?_ | refine eqS_sR rfl ?_ | refine eqS_sB (fun _ => rfl) ?_ | refine eqS_sN (fun _ => rfl) ?_) (by repeat first | exact .rf | refine eqS_sI rfl ?_ | refine eqS_sR rfl ?_ | refine eqS_sB (fun _ => rfl) ?_ | refine eqS_sN (fun _ => rfl) ?_)⟩, ?_, hF.cg (by repeat first | exact .rf | refine eqS_sI rfl ?_ | refine eqS_sR rfl ?_ | refine eqS_sB (fun _ => rfl) ?_ | refine eqS_sN (fun _ => rfl) ?_) (by repeat first | exact .rf | refine eqS_sI rfl ?_ | refine eqS_sR rfl ?_ | refine eqS_sB (fun _ => rfl) ?_ | refine eqS_sN (fun _ => rfl) ?_), hB.cg (by repeat first | exact .rf | refine eqS_sI rfl ?_ | refine eqS_sR rfl ?_ | refine eqS_sB (fun _ => rfl) ?_ | refine eqS_sN (fun _ => rfl) ?_) (by repeat first | exact .rf | refine eqS_sI rfl ?_ | refine eqS_sR rfl ?_ | refine eqS_sB (fun _ => rfl) ?_ | refine eqS_sN (fun _ => rfl) ?_), fun p hp => (hP p hp).cg (by repeat first | exact .rf | refine eqS_sI rfl ?_ | refine eqS_sR rfl ?_ | refine eqS_sB (fun _ => rfl) ?_ | refine eqS_sN (fun _ => rfl) ?_) (by repeat first | exact .rf | refine eqS_sI rfl ?_ | refine eqS_sR rfl ?_ | refine eqS_sB (fun _ => rfl) ?_ | refine eqS_sN (fun _ => rfl) ?_), fun p hp => (hL p hp).cg (by repeat first | exact .rf | refine eqS_sI rfl ?_ | refine eqS_sR rfl ?_ | refine eqS_sB (fun _ => rfl) ?_ | refine eqS_sN (fun _ => rfl) ?_) (by repeat first | exact .rf | refine eqS_sI rfl ?_ | refine eqS_sR rfl ?_ | refine eqS_sB (fun _ => rfl) ?_ | refine eqS_sN (fun _ => rfl) ?_), fun c hc => (hC c hc).cg (by repeat first | exact .rf | refine eqS_sI rfl ?_ | refine eqS_sR rfl ?_ | refine eqS_sB (fun _ => rfl) ?_ | refine eqS_sN (fun _ => rfl) ?_) (fun _ _ => rfl) (by repeat first | exact .rf | refine eqS_sI rfl ?_ | refine eqS_sR rfl ?_ | refine eqS_sB (fun _ => rfl) ?_ | refine eqS_sN (fun _ => rfl) ?_) (by simp only [gI_sI, gI_sR, gI_sN, gI_sCp, gI_sB, gR_sI, gR_sR, gR_sN, gR_sCp, gR_sB, gN_sI, gN_sR, gN_sN, gN_sCp, gN_sB, ↓reduceIte, and_true, true_and, and_false, false_and, and_self, or_true, true_or, or_false, false_or, or_self, Nat.reduceEqDiff, Int.reduceNeg, ne_eq, not_true_eq_false, not_false_eq_true, Int.toNat_natCast, reduceCtorEq, i10, i01, implies_true, true_implies, false_implies, g_t (c := True) trivial]; omega), fun k hk => (hK k hk).cg (by repeat first | exact .rf | refine eqS_sI rfl ?_ | refine eqS_sR rfl ?_ | refine eqS_sB (fun _ => rfl) ?_ | refine eqS_sN (fun _ => rfl) ?_) (by repeat first | exact .rf | refine eqS_sI rfl ?_ | refine eqS_sR rfl ?_ | refine eqS_sB (fun _ => rfl) ?_ | refine eqS_sN (fun _ => rfl) ?_), hD.cg (by repeat first | exact .rf | refine eqS_sI rfl ?_ | refine eqS_sR rfl ?_ | refine eqS_sB (fun _ => rfl) ?_ | refine eqS_sN (fun _ => rfl) ?_), (by repeat first | exact hZ | refine RZ.sI (by first | rfl | (simp [zZ]; omega)) ?_)⟩
  unfold RS at hS ⊢
  simp only [gI_sI, gI_sR, gI_sN, gI_sCp, gI_sB, gR_sI, gR_sR, gR_sN, gR_sCp, gR_sB, gN_sI, gN_sR, gN_sN, gN_sCp, gN_sB, ↓reduceIte, and_true, true_and, and_false, false_and, and_self, or_true, true_or, or_false, false_or, or_self, Nat.reduceEqDiff, Int.reduceNeg, ne_eq, not_true_eq_false, not_false_eq_true, Int.toNat_natCast, reduceCtorEq, i10, i01, implies_true, true_implies, false_implies, g_t (c := True) trivial]
  exact ⟨by omega, hS.2⟩
section TI
variable {nf : Nat}
theorem tickL (h1 : phase (fun X => cl_ (fX10_moveCups nf X 0) fun _ s => fX10_porterCups nf s 0) (fun M => fX11_move nf M 0) 48) (h2 : phase (fun X => fX10_workClerks nf X 0) (fun M => fX11_serve nf M 0) 200) (h3 : phase (fun X => fX5_bring nf X 0 (gI X 0 0 13) (some 0)) (fun M => fX11_bring nf M 0) 2000) (h4 : phase (fun X => fX10_takeFromRow nf X 0) (fun M => fX11_takeOn nf M 0) 0) (h5 : phase (fun X => fX10_letOnWires nf X 0) (fun M => fX11_letAll nf M 0) 0) (t : Nat) (ht : t ≤ 200) : ∀ (m n k : Nat) (X M : zS), k + m = t → m < n → zR X M → gI M 64 0 13 + m ≤ 20000 → ∃ r X' M', fX10_tick_L31 0 (t : Int) nf n X (k : Int) = some (r, X') ∧ fX11_tick_L31 0 (t : Int) nf n M (k : Int) = some (r, M') ∧ zR X' M'
  | 0, n + 1, k, X, M, hk, _, h, _ => by
    obtain ⟨P, C, K, hr⟩ := id h
    unfold fX10_tick_L31 fX11_tick_L31
    rw [if_neg (by omega), if_neg (by omega), hr.2.1.1.1]
    exact ⟨_, _, _, rfl, rfl, h⟩
  | m + 1, n + 1, k, X, M, hk, hn, h, hb => by
    obtain ⟨P, C, K, hr⟩ := id h
    have hs := hr.2.1.1
    have r0 := hr.clock (by omega)
    have c0 : gI (sI M 64 0 13 (gI M 64 0 13 + 1)) 64 0 13 = gI M 64 0 13 + 1 := by simp only [gI_sI, gI_sR, gI_sN, gI_sCp, gI_sB, gR_sI, gR_sR, gR_sN, gR_sCp, gR_sB, gN_sI, gN_sR, gN_sN, gN_sCp, gN_sB, ↓reduceIte, and_true, true_and, and_false, false_and, and_self, or_true, true_or, or_false, false_or, or_self, Nat.reduceEqDiff, Int.reduceNeg, ne_eq, not_true_eq_false, not_false_eq_true, Int.toNat_natCast, reduceCtorEq, i10, i01, implies_true, true_implies, false_implies, g_t (c := True) trivial]
    obtain ⟨X1, M1, a1, b1, r1, c1⟩ := h1 _ _ _ _ _ _ r0 (by omega)
    obtain ⟨X2, M2, a2, b2, r2, c2⟩ := h2 _ _ _ _ _ _ r1 (by omega)
    obtain ⟨X3, M3, a3, b3, r3, c3⟩ := h3 _ _ _ _ _ _ r2 (by omega)
    obtain ⟨X4, M4, a4, b4, r4, c4⟩ := h4 _ _ _ _ _ _ r3 (by omega)
    obtain ⟨X5, M5, a5, b5, r5, c5⟩ := h5 _ _ _ _ _ _ r4 (by omega)
    dsimp only at a1 b1 a2 b2 a3 b3 a4 b4 a5 b5
    have e5 : gI M5 64 0 13 = gI M 64 0 13 + 1 := by rw [c5, c4, c3, c2, c1, c0]
    have z5 : zR X5 M5 := ⟨P, C, K, r5.le (by rw [e5]; omega)⟩
    obtain ⟨r, X', M', f1, f2, f3⟩ := tickL h1 h2 h3 h4 h5 t ht m n (k + 1) X5 M5 (by omega) (by omega) z5 (by rw [e5]; omega)
    have hX2 := r2.1.1
    have w : wr (gI M 64 0 13 + 1) = gI M 64 0 13 + 1 := wr_id (by unfold zin; omega)
    refine ⟨r, X', M', ?_, ?_, f3⟩
    · unfold fX10_tick_L31
      rw [if_pos (by omega), up_eq, hs.1, w, cl_as, a1, cl_some, a2, cl_some]
      simp only [nm_eq, up_eq, cl_some, ob_some, oe_some, oe_none, ob_none, hX2.2.1 6 (by decide), hX2.2.1 4 (by decide), a3, a4, a5, nat_wr k (by omega)]
      exact f1
    · unfold fX11_tick_L31
      rw [if_pos (by omega), up_eq, w, b1, cl_some, b2, cl_some, b3, cl_some, b4, cl_some, b5, cl_some, nm_eq, nat_wr k (by omega)]
      exact f2
theorem tick_of {nf : Nat} (hnf : 1000 ≤ nf) (h1 : phase (fun X => cl_ (fX10_moveCups nf X 0) fun _ s => fX10_porterCups nf s 0) (fun M => fX11_move nf M 0) 48) (h2 : phase (fun X => fX10_workClerks nf X 0) (fun M => fX11_serve nf M 0) 200) (h3 : phase (fun X => fX5_bring nf X 0 (gI X 0 0 13) (some 0)) (fun M => fX11_bring nf M 0) 2000) (h4 : phase (fun X => fX10_takeFromRow nf X 0) (fun M => fX11_takeOn nf M 0) 0) (h5 : phase (fun X => fX10_letOnWires nf X 0) (fun M => fX11_letAll nf M 0) 0) {X M : zS} (h : zR X M) (x1 : Int) (hx1 : zin x1) : ∃ r X' M', fX10_tick nf X 0 x1 = some (r, X') ∧ fX11_tick nf M 0 x1 = some (r, M') ∧ zR X' M' := by
  obtain ⟨P, C, K, hr⟩ := id h
  have hs := hr.2.1.1
  unfold fX10_tick fX11_tick
  simp only [within_eq, in_eq, nm_eq, up_eq, cl_some, ob_some, oe_some, oe_none, ob_none, i10]
  by_cases hx : ¬ (1 ≤ x1 ∧ x1 ≤ 200)
  · rw [if_pos hx, if_pos hx]; exact ⟨_, _, _, rfl, rfl, h⟩
  rw [if_neg hx, if_neg hx, hs.1, wr_id (by unfold zin; omega)]
  by_cases c : 20000 < gI M 64 0 13 + x1
  · rw [if_pos c, if_pos c]; exact ⟨_, _, _, rfl, rfl, h⟩
  rw [if_neg c, if_neg c]
  obtain ⟨t, rfl⟩ : ∃ t : Nat, x1 = t := ⟨x1.toNat, by omega⟩
  exact tickL h1 h2 h3 h4 h5 t (by omega) t nf 0 X M (by omega) (by omega) h (by omega)
end TI
