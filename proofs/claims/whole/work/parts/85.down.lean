/-! ===== down to a joint ===== -/
section DN
variable {P C K : Nat} {D : Int} {X M : zS}
theorem down_joint (hr : RR P C K D X M) {nf : Nat} (hnf : 1000 ≤ nf) {c p : Nat} (hc : c < C) (z : gI M 82 0 c = 2) (hpP : p < P) (s1 : gI M 68 0 p = 1) (v : Int) (hD1 : D ≤ 60000100) : ∃ X' M', fX10_comeDown nf (sI X 5 c 9 v) 0 (some c) (some p) = some ((), X') ∧ fX11_comeDown nf (sI M 109 0 c v) 0 c p = some ((), M') ∧ RR P C K (D + 1) X' M' ∧ gI M' 64 0 13 = gI M 64 0 13 := by
  have hM := hr.1.2.1
  have hS := hr.2.1
  have h16 := hr.1.2.2.1
  have hP := hr.2.2.2.2.1
  have hCc := hr.2.2.2.2.2.2.1 c hc
  obtain ⟨q1, q2, q3, q4, q5, q6, q7, ⟨q8, q8w, q8a, q8m⟩, q9⟩ := hP p hpP
  have d75 := (hr.2.2.2.2.2.2.2.2.1.1 p hpP).2
  obtain ⟨b1, b2, b3, b4⟩ := hCc.2.1
  obtain ⟨h, eh⟩ : ∃ h : Nat, gI M 81 0 c = h := ⟨(gI M 81 0 c).toNat, by omega⟩
  rw [eh] at b1 b2 b3 b4
  simp only [Int.toNat_natCast] at b1 b4
  have hh : h < P := by omega
  have hne : ¬ h = p := by
    rintro rfl; omega
  have gc : (0 : Int) ≤ (c : Int) ∧ (c : Int) < 24 := by omega
  have gp : (0 : Int) ≤ (p : Int) ∧ (p : Int) < 16 := by omega
  have g0 : (0 : Int) = 0 ∨ (0 : Int) = 1 := Or.inl rfl
  have w75 : wr (gI M 75 0 p + 1) = gI M 75 0 p + 1 := wr_id (by unfold zin; omega)
  have x11 : gI (sI X 5 c 9 v) 8 p 11 = gI M 74 0 p := by simp only [gI_sI, gI_sR, gI_sN, gI_sCp, gI_sB, gR_sI, gR_sR, gR_sN, gR_sCp, gR_sB, gN_sI, gN_sR, gN_sN, gN_sCp, gN_sB, ↓reduceIte, and_true, true_and, and_false, false_and, and_self, or_true, true_or, or_false, false_or, or_self, Nat.reduceEqDiff, Int.reduceNeg, ne_eq, not_true_eq_false, not_false_eq_true, Int.toNat_natCast, reduceCtorEq, i10, i01, implies_true, true_implies, false_implies, g_t (c := True) trivial]; exact q8
  have x12 : gI M 74 0 p ≠ 0 → gI (sI X 5 c 9 v) 8 p 12 = gI M 75 0 p % gI M 74 0 p := by simp only [gI_sI, gI_sR, gI_sN, gI_sCp, gI_sB, gR_sI, gR_sR, gR_sN, gR_sCp, gR_sB, gN_sI, gN_sR, gN_sN, gN_sCp, gN_sB, ↓reduceIte, and_true, true_and, and_false, false_and, and_self, or_true, true_or, or_false, false_or, or_self, Nat.reduceEqDiff, Int.reduceNeg, ne_eq, not_true_eq_false, not_false_eq_true, Int.toNat_natCast, reduceCtorEq, i10, i01, implies_true, true_implies, false_implies, g_t (c := True) trivial]; exact q8m
  obtain ⟨y, t, w1, w2, w3⟩ := wear_eq x11 q8w q8a x12
  have hx : PX P M (sI (sI X 5 c 9 v) 8 p 12 y) := by
    have a := PX.of hr
    unfold PX at a ⊢
    simp only [gI_sI, gI_sR, gI_sN, gI_sCp, gI_sB, gR_sI, gR_sR, gR_sN, gR_sCp, gR_sB, gN_sI, gN_sR, gN_sN, gN_sCp, gN_sB, ↓reduceIte, and_true, true_and, and_false, false_and, and_self, or_true, true_or, or_false, false_or, or_self, Nat.reduceEqDiff, Int.reduceNeg, ne_eq, not_true_eq_false, not_false_eq_true, Int.toNat_natCast, reduceCtorEq, i10, i01, implies_true, true_implies, false_implies, g_t (c := True) trivial]
    exact a
  have hm : PM P M (sI M 109 0 c v) := by
    have a := PM.of hr
    unfold PM at a ⊢
    simp only [gI_sI, gI_sR, gI_sN, gI_sCp, gI_sB, gR_sI, gR_sR, gR_sN, gR_sCp, gR_sB, gN_sI, gN_sR, gN_sN, gN_sCp, gN_sB, ↓reduceIte, and_true, true_and, and_false, false_and, and_self, or_true, true_or, or_false, false_or, or_self, Nat.reduceEqDiff, Int.reduceNeg, ne_eq, not_true_eq_false, not_false_eq_true, Int.toNat_natCast, reduceCtorEq, i10, i01, implies_true, true_implies, false_implies, g_t (c := True) trivial]
    exact ⟨a.1, a.2.1⟩
  have hm2 : PM P M (sI (sI M 109 0 c v) 75 0 p (gI M 75 0 p + 1)) := by
    have a := PM.of hr
    unfold PM at a ⊢
    simp only [gI_sI, gI_sR, gI_sN, gI_sCp, gI_sB, gR_sI, gR_sR, gR_sN, gR_sCp, gR_sB, gN_sI, gN_sR, gN_sN, gN_sCp, gN_sB, ↓reduceIte, and_true, true_and, and_false, false_and, and_self, or_true, true_or, or_false, false_or, or_self, Nat.reduceEqDiff, Int.reduceNeg, ne_eq, not_true_eq_false, not_false_eq_true, Int.toNat_natCast, reduceCtorEq, i10, i01, implies_true, true_implies, false_implies, g_t (c := True) trivial]
    exact ⟨a.1, a.2.1⟩
  obtain ⟨x, to, r1, r2, r3, r4, r5, -⟩ := right_both hr hx hm hnf (a := p) (b := h) hh hne
  have oe9 : oi to = -9 ↔ to = none := by
    cases to with
    | none => simp [oi]
    | some r => simp only [oi, Option.elim, reduceCtorEq, iff_false]
  -- the class
  have eX : fX10_thrownTo nf (sI X 5 c 9 v) 0 (some c) (some p) = if t = 0 then some (to, sI (sI X 5 c 9 v) 8 p 12 y) else Option.elim to (some (none, sI (sI X 5 c 9 v) 8 p 12 y)) fun i => cl_ (fX10_childBehind nf (sI (sI X 5 c 9 v) 8 p 12 y) 0 (some p) (gI (sI (sI X 5 c 9 v) 8 p 12 y) 8 i 0)) fun (r_15 : Option Nat) (s_14 : zS) => some (r_15, s_14) := by
    unfold fX10_thrownTo
    rw [ob_some, w1, cl_some, ob_some, nm_eq, show gR (sI (sI X 5 c 9 v) 8 p 12 y) 5 c 1 = some h by simp only [gI_sI, gI_sR, gI_sN, gI_sCp, gI_sB, gR_sI, gR_sR, gR_sN, gR_sCp, gR_sB, gN_sI, gN_sR, gN_sN, gN_sCp, gN_sB]; exact b1, r1, cl_some, nm_eq]
    cases x with
    | none => rw [oe_none, r3 rfl, cl_some]
    | some r => rw [oe_some, r2 r rfl]
  -- where it goes
  obtain ⟨res, f1, f2, f3⟩ : ∃ res : Option Nat, fX10_thrownTo nf (sI X 5 c 9 v) 0 (some c) (some p) = some (res, sI (sI X 5 c 9 v) 8 p 12 y) ∧ (oi res = -9 ∨ (0 < oi res ∧ oi res < P ∧ gI M 67 0 (oi res).toNat = p)) ∧ (if (0 < gI M 74 0 p ∧ (gI M 75 0 p + 1) % gI M 74 0 p = 0) then (if to = none then res = none else ∃ i r : Nat, to = some i ∧ res = some r ∧ fX11_nextChild nf (sI (sI M 109 0 c v) 75 0 p (gI M 75 0 p + 1)) 0 p i = some ((r : Int), sI (sI M 109 0 c v) 75 0 p (gI M 75 0 p + 1))) else res = to) := by
    have oto : oi to = -9 ∨ (0 < oi to ∧ oi to < P ∧ gI M 67 0 (oi to).toNat = p) := by
      cases to with
      | none => exact Or.inl rfl
      | some r =>
        obtain ⟨e1, e2, e3⟩ := r5 r rfl
        refine Or.inr ⟨?_, ?_, ?_⟩
        · simp only [oi, Option.elim]; omega
        · simp only [oi, Option.elim]; omega
        · simp only [oi, Option.elim, Int.toNat_natCast]; exact e3
    by_cases t0 : t = 0
    · rw [if_pos t0] at eX
      refine ⟨to, eX, oto, ?_⟩
      rw [if_neg (fun q => (w3.2 q) t0)]
    · rw [if_neg t0] at eX
      cases hto : to with
      | none =>
        subst hto
        rw [oe_none] at eX
        refine ⟨none, eX, Or.inl rfl, ?_⟩
        rw [if_pos (w3.1 t0), if_pos rfl]
      | some i =>
        subst hto
        obtain ⟨e1, e2, e3⟩ := r5 i rfl
        obtain ⟨r, n1, n2, n3, n4, n5⟩ := next_both hr hx hm2 hnf e1 e2 e3
        rw [oe_some, show gI (sI (sI X 5 c 9 v) 8 p 12 y) 8 i 0 = i from (hx.2.2 i e2).2.1, n1, cl_some] at eX
        refine ⟨some r, eX, Or.inr ⟨?_, ?_, ?_⟩, ?_⟩
        · simp only [oi, Option.elim]; omega
        · simp only [oi, Option.elim]; omega
        · simp only [oi, Option.elim, Int.toNat_natCast]; exact n5
        · rw [if_pos (w3.1 t0), if_neg (by simp)]
          exact ⟨i, r, rfl, rfl, n2⟩
  -- the model
  have eM : fX11_comeDown nf (sI M 109 0 c v) 0 c p = cl_ (fX11_waitAt (sI (sI M 109 0 c v) 75 0 p (gI M 75 0 p + 1)) 0 c p 0 (oi res)) fun (_ : Unit) (s_23 : zS) => cl_ (fX11_ring s_23 0 p) fun (_ : Unit) (s_24 : zS) => some ((), s_24) := by
    unfold fX11_comeDown
    simp only [nm_eq, up_eq, cl_some, ob_some, oe_some, oe_none, ob_none, gI_sI, gI_sR, gI_sN, gI_sCp, gI_sB, gR_sI, gR_sR, gR_sN, gR_sCp, gR_sB, gN_sI, gN_sR, gN_sN, gN_sCp, gN_sB, ↓reduceIte, and_true, true_and, and_false, false_and, and_self, or_true, true_or, or_false, false_or, or_self, Nat.reduceEqDiff, Int.reduceNeg, ne_eq, not_true_eq_false, not_false_eq_true, Int.toNat_natCast, reduceCtorEq, i10, i01, implies_true, true_implies, false_implies, g_t (c := True) trivial, hM.2 2 rfl, hM.2 15 rfl, hM.2 8 rfl, hM.2 9 rfl, g_t gc, g_t gp, Int.toNat_natCast, eh, r4, w75]
    rw [if_neg (show ¬ gI M 68 0 p = 2 by omega)]
    by_cases w0 : 0 < gI M 74 0 p
    · rw [if_pos w0, g_t (show gI M 74 0 p ≠ 0 by omega), Int.tmod_eq_emod_of_nonneg (by omega)]
      by_cases m0 : (gI M 75 0 p + 1) % gI M 74 0 p = 0
      · rw [if_pos ⟨w0, m0⟩] at f3
        rw [if_pos m0]
        by_cases tn : to = none
        · rw [if_pos tn] at f3
          rw [if_pos (oe9.2 tn), f3, tn]
        · rw [if_neg tn] at f3
          obtain ⟨i, r, e1, e2, e3⟩ := f3
          rw [if_neg (fun q => tn (oe9.1 q)), e1, e2]
          rw [show oi (some i) = (i : Int) from rfl, e3, cl_some]
          rfl
      · rw [if_neg (fun q => m0 q.2)] at f3
        rw [if_neg m0, f3]
    · rw [if_neg (fun q => w0 q.1)] at f3
      rw [if_neg w0, f3]
  have r2' := down_rr hr hc z hpP s1 v y w2 res f2
  obtain ⟨X', M', k1, k2, k3, k4⟩ := ring_both r2' hpP
  refine ⟨X', M', ?_, ?_, k3, k4.trans (by simp only [gI_sI, gI_sR, gI_sN, gI_sCp, gI_sB, gR_sI, gR_sR, gR_sN, gR_sCp, gR_sB, gN_sI, gN_sR, gN_sN, gN_sCp, gN_sB, ↓reduceIte, and_true, true_and, and_false, false_and, and_self, or_true, true_or, or_false, false_or, or_self, Nat.reduceEqDiff, Int.reduceNeg, ne_eq, not_true_eq_false, not_false_eq_true, Int.toNat_natCast, reduceCtorEq, i10, i01, implies_true, true_implies, false_implies, g_t (c := True) trivial])⟩
  · unfold fX10_comeDown fX4_waitToGoDown fX4_leaveFor
    rw [ob_some, show gI (sI X 5 c 9 v) 8 p 2 = 1 by simp only [gI_sI, gI_sR, gI_sN, gI_sCp, gI_sB, gR_sI, gR_sR, gR_sN, gR_sCp, gR_sB, gN_sI, gN_sR, gN_sN, gN_sCp, gN_sB, ↓reduceIte, and_true, true_and, and_false, false_and, and_self, or_true, true_or, or_false, false_or, or_self, Nat.reduceEqDiff, Int.reduceNeg, ne_eq, not_true_eq_false, not_false_eq_true, Int.toNat_natCast, reduceCtorEq, i10, i01, implies_true, true_implies, false_implies, g_t (c := True) trivial]; rw [q4.1]; exact s1, if_pos rfl, f1]
    simp only [nm_eq, up_eq, cl_some, ob_some, oe_some, oe_none, ob_none, gI_sI, gI_sR, gI_sN, gI_sCp, gI_sB, gR_sI, gR_sR, gR_sN, gR_sCp, gR_sB, gN_sI, gN_sR, gN_sN, gN_sCp, gN_sB, ↓reduceIte, and_true, true_and, and_false, false_and, and_self, or_true, true_or, or_false, false_or, or_self, Nat.reduceEqDiff, Int.reduceNeg, ne_eq, not_true_eq_false, not_false_eq_true, Int.toNat_natCast, reduceCtorEq, i10, i01, implies_true, true_implies, false_implies, g_t (c := True) trivial, hS.1.1]
    rw [k1, cl_some]
  · rw [eM]
    unfold fX11_waitAt
    simp only [nm_eq, up_eq, cl_some, ob_some, oe_some, oe_none, ob_none, gI_sI, gI_sR, gI_sN, gI_sCp, gI_sB, gR_sI, gR_sR, gR_sN, gR_sCp, gR_sB, gN_sI, gN_sR, gN_sN, gN_sCp, gN_sB, ↓reduceIte, and_true, true_and, and_false, false_and, and_self, or_true, true_or, or_false, false_or, or_self, Nat.reduceEqDiff, Int.reduceNeg, ne_eq, not_true_eq_false, not_false_eq_true, Int.toNat_natCast, reduceCtorEq, i10, i01, implies_true, true_implies, false_implies, g_t (c := True) trivial, hM.2 16 rfl, hM.2 17 rfl, hM.2 18 rfl, hM.2 19 rfl, hM.2 20 rfl, g_t gc, g_t g0, Int.toNat_natCast]
    rw [k2, cl_some]
theorem down_both (hr : RR P C K D X M) {nf : Nat} (hnf : 1000 ≤ nf) {c p : Nat} (hc : c < C) (z : gI M 82 0 c = 2) (z3 : gI M 83 0 c = p) (v : Int) (hD1 : D ≤ 60000100) : ∃ X' M', fX10_comeDown nf (sI X 5 c 9 v) 0 (some c) (some p) = some ((), X') ∧ fX11_comeDown nf (sI M 109 0 c v) 0 c p = some ((), M') ∧ RR P C K (D + 1) X' M' ∧ gI M' 64 0 13 = gI M 64 0 13 := by
  have hM := hr.1.2.1
  have h16 := hr.1.2.2.1
  have hP := hr.2.2.2.2.1
  have hCc := hr.2.2.2.2.2.2.1 c hc
  have q5 := hCc.2.2.2.2.1 (by omega)
  have q16 := hCc.2.2.2.2.2.2.2.2.2.2.2.2.2.2.2.1 z
  have hp0 : 0 < p := by omega
  have hpP : p < P := by omega
  obtain ⟨b1, b2, b3, b4⟩ := hCc.2.1
  have q4 := (hP p hpP).2.2.2.1.1
  have gc : (0 : Int) ≤ (c : Int) ∧ (c : Int) < 24 := by omega
  have gp : (0 : Int) ≤ (p : Int) ∧ (p : Int) < 16 := by omega
  rcases ((hP p hpP).2.2.1 hp0).2.1 with s | s
  · exact down_joint hr hnf hc z hpP s v hD1
  · obtain ⟨h, eh⟩ : ∃ h : Nat, gI M 81 0 c = h := ⟨(gI M 81 0 c).toNat, by omega⟩
    rw [eh] at b1
    simp only [Int.toNat_natCast] at b1
    have eX : fX10_comeDown nf (sI X 5 c 9 v) 0 (some c) (some p) = if p = h then (cl_ (fX10_comeHome nf (sI X 5 c 9 v) 0 (some c)) fun (_ : Unit) (s_8 : zS) => some ((), s_8)) else some ((), sR (sR (sR (sR (sR (sI (sI X 5 c 9 v) 5 c 3 5) 5 c 4 none) 5 c 6 none) 5 c 7 none) 5 c 8 none) 5 c 4 (some p)) := by
      unfold fX10_comeDown fX4_leaveFor
      simp only [nm_eq, up_eq, cl_some, ob_some, oe_some, oe_none, ob_none, gI_sI, gI_sR, gI_sN, gI_sCp, gI_sB, gR_sI, gR_sR, gR_sN, gR_sCp, gR_sB, gN_sI, gN_sR, gN_sN, gN_sCp, gN_sB, ↓reduceIte, and_true, true_and, and_false, false_and, and_self, or_true, true_or, or_false, false_or, or_self, Nat.reduceEqDiff, Int.reduceNeg, ne_eq, not_true_eq_false, not_false_eq_true, Int.toNat_natCast, reduceCtorEq, i10, i01, implies_true, true_implies, false_implies, g_t (c := True) trivial, q4, b1]
      rw [if_neg (show ¬ gI M 68 0 p = 1 by omega)]
      by_cases e : p = h
      · rw [if_pos e, if_pos (by rw [e])]
      · rw [if_neg e, if_neg (fun q => e (Option.some.inj q))]
    have eM : fX11_comeDown nf (sI M 109 0 c v) 0 c p = if p = h then (cl_ (fX11_comeHome nf (sI M 109 0 c v) 0 c) fun (_ : Unit) (s_8 : zS) => some ((), s_8)) else some ((), sI (sI (sI M 109 0 c v) 82 0 c 5) 83 0 c p) := by
      unfold fX11_comeDown
      simp only [nm_eq, up_eq, cl_some, ob_some, oe_some, oe_none, ob_none, gI_sI, gI_sR, gI_sN, gI_sCp, gI_sB, gR_sI, gR_sR, gR_sN, gR_sCp, gR_sB, gN_sI, gN_sR, gN_sN, gN_sCp, gN_sB, ↓reduceIte, and_true, true_and, and_false, false_and, and_self, or_true, true_or, or_false, false_or, or_self, Nat.reduceEqDiff, Int.reduceNeg, ne_eq, not_true_eq_false, not_false_eq_true, Int.toNat_natCast, reduceCtorEq, i10, i01, implies_true, true_implies, false_implies, g_t (c := True) trivial, hM.2 2 rfl, hM.2 15 rfl, hM.2 16 rfl, hM.2 17 rfl, g_t gc, g_t gp, Int.toNat_natCast, eh]
      rw [if_pos s]
      by_cases e : p = h
      · rw [if_pos e, if_pos (by rw [e])]
      · rw [if_neg e, if_neg (by omega)]
    by_cases e : p = h
    · rw [if_pos e] at eX eM
      obtain ⟨X', M', f1, f2, f3⟩ := home_both hr hnf hc (Or.inl z) v hD1
      rw [f1, cl_some] at eX
      rw [f2, cl_some] at eM
      exact ⟨X', M', eX, eM, f3⟩
    · rw [if_neg e] at eX eM
      exact ⟨_, _, eX, eM, (stray_rr hr hc z hpP s v).le (by omega), by simp only [gI_sI, gI_sR, gI_sN, gI_sCp, gI_sB, gR_sI, gR_sR, gR_sN, gR_sCp, gR_sB, gN_sI, gN_sR, gN_sN, gN_sCp, gN_sB, ↓reduceIte, and_true, true_and, and_false, false_and, and_self, or_true, true_or, or_false, false_or, or_self, Nat.reduceEqDiff, Int.reduceNeg, ne_eq, not_true_eq_false, not_false_eq_true, Int.toNat_natCast, reduceCtorEq, i10, i01, implies_true, true_implies, false_implies, g_t (c := True) trivial]⟩
end DN
