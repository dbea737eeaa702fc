/-! ===== clerks work, one after another ===== -/
theorem PX_V {P : Nat} {X M Y : zS} (h : PX P M X) (e : eqS vX Y X) : PX P M Y := by
  refine ⟨((e 0 10 rfl).1 0).trans h.1, ((e 0 0 rfl).2 0).trans h.2.1, fun i hi => ?_⟩
  obtain ⟨a, b, c⟩ := h.2.2 i hi
  exact ⟨((e 11 i rfl).2 0).trans a, ((e 8 0 rfl).1 i).trans b, ((e 8 1 rfl).2 i).trans c⟩
theorem PM_V {P : Nat} {M N : zS} (h : PM P M M) (e : eqS vM N M) : PM P M N := ⟨((e 64 0 rfl).1 0).trans h.1, ((e 64 1 rfl).2 0).trans h.2.1, fun i => (e 67 i rfl).1 0⟩
def offF (X M Y N : zS) (k : Nat) : Prop := (∀ t, gN Y t = gN X t) ∧ (∀ t, gN N t = gN M t) ∧ eqS vX Y X ∧ eqS vM N M ∧ (∀ i j, gI Y 3 i j = if i = k ∧ j = 3 then 0 else gI X 3 i j) ∧ (∀ i j, gR Y 3 i j = if i = k ∧ j = 2 then none else gR X 3 i j) ∧ (∀ i j, 3 ≤ i → gI Y 15 i j = gI X 15 i j) ∧ (∀ i, gI N 102 0 i = if i = k then -9 else gI M 102 0 i) ∧ (∀ i, i ≠ k → gI N 103 0 i = gI M 103 0 i)
section SX
variable {P C K : Nat} {D : Int} {X M : zS}
theorem tail_eq (hr : RR P C K D X M) {nf : Nat} (hnf : 1000 ≤ nf) {k c : Nat} (hk : k < K) (hc : c < C) (has : gI M 102 0 k = c) {Y N : zS} (hf : offF X M Y N k) (L Q G H : Nat → Int) {s : Int} (hs0 : 0 ≤ s) (hs3 : s ≤ 3) (hs1 : s ≠ 1) (hL : ∀ j, j < 6 → L j = H j ∧ 0 ≤ H j ∧ H j ≤ D + 50) (hQ : ∀ j, j < 6 → Q j = G (6 * c + j) ∧ 0 ≤ G (6 * c + j) ∧ G (6 * c + j) ≤ 3000) (hG : ∀ j, (j < 6 * c ∨ 6 * c + 6 ≤ j) → G j = gI M 91 0 j) {Z W : zS} (eZ : Z = sI (sB (sB Y 15 0 L) 15 (c + 3) Q) 5 c 12 s) (eW : W = sI (sB (sB N 91 0 G) 92 0 H) 88 0 c s) : ∃ X' M',
    (nm_ (gR Z 0 0 9) fun (r_13 : Option Nat) => nm_ (gR Z 5 c 1) fun (r_14 : Option Nat) => nm_ (gR Z 0 0 9) fun (r_15 : Option Nat) => cl_ (fX10_rightChild nf Z r_14 r_15) fun (r_17 : Option Nat) (s_16 : zS) => cl_ (fX4_waitToGoDown s_16 c r_13 r_17 (gI s_16 0 0 13)) fun (_ : Unit) (s_18 : zS) => some ((), s_18)) = some ((), X') ∧
    (nm_ (gR W 64 0 15) fun (r_27 : Option Nat) => Option.bind r_27 fun i_28 => g_ ((0 : Int) ≤ (c : Int) ∧ ((c : Int) : Int) < 24) (cl_ (fX11_rightChild nf W 0 0 (gI W 81 i_28 (Int.toNat ((c : Int))))) fun (x_32 : Int) (s_31 : zS) => cl_ (fX11_waitAt s_31 0 c 0 0 x_32) fun (_ : Unit) (s_33 : zS) => some ((), s_33))) = some ((), M') ∧ RR P C K (D + 50) X' M' ∧ gI M' 64 0 13 = gI M 64 0 13 := by
  obtain ⟨p1, p2, p3, p4, p5, p6, p7, p8, p9⟩ := hf
  have hX := hr.1.1
  have hM := hr.1.2.1
  have hS := hr.2.1
  have h16 := hr.1.2.2.1
  have hCc := hr.2.2.2.2.2.2.1 c hc
  obtain ⟨b1, b2, b3, b4⟩ := hCc.2.1
  obtain ⟨h, eh⟩ : ∃ h : Nat, gI M 81 0 c = h := ⟨(gI M 81 0 c).toNat, by omega⟩
  rw [eh] at b1 b2 b3 b4
  simp only [Int.toNat_natCast] at b1 b4
  have hh : h < P := by omega
  have gc : (0 : Int) ≤ (c : Int) ∧ (c : Int) < 24 := by omega
  have g0 : (0 : Int) = 0 ∨ (0 : Int) = 1 := Or.inl rfl
  have hx : PX P M Z := by
    have a := PX_V (PX.of hr) p3
    rw [eZ]
    unfold PX at a ⊢
    simp only [gI_sI, gI_sR, gI_sN, gI_sCp, gI_sB, gR_sI, gR_sR, gR_sN, gR_sCp, gR_sB, gN_sI, gN_sR, gN_sN, gN_sCp, gN_sB, ↓reduceIte, and_true, true_and, and_false, false_and, and_self, or_true, true_or, or_false, false_or, or_self, Nat.reduceEqDiff, Int.reduceNeg, ne_eq, not_true_eq_false, not_false_eq_true, Int.toNat_natCast, reduceCtorEq, i10, i01, implies_true, true_implies, false_implies, g_t (c := True) trivial]
    exact a
  have hm : PM P M W := by
    have a := PM_V (PM.of hr) p4
    rw [eW]
    unfold PM at a ⊢
    simp only [gI_sI, gI_sR, gI_sN, gI_sCp, gI_sB, gR_sI, gR_sR, gR_sN, gR_sCp, gR_sB, gN_sI, gN_sR, gN_sN, gN_sCp, gN_sB, ↓reduceIte, and_true, true_and, and_false, false_and, and_self, or_true, true_or, or_false, false_or, or_self, Nat.reduceEqDiff, Int.reduceNeg, ne_eq, not_true_eq_false, not_false_eq_true, Int.toNat_natCast, reduceCtorEq, i10, i01, implies_true, true_implies, false_implies, g_t (c := True) trivial]
    exact a
  obtain ⟨x, to, r1, r2, r3, r4, r5, r6⟩ := right_both hr hx hm hnf (a := 0) (b := h) hh (by omega)
  have r6 := r6 (below_z hr 16 h hh (by omega))
  subst r6
  have ho : oi x = -9 ∨ (0 < oi x ∧ oi x < P ∧ gI M 67 0 (oi x).toNat = 0) := by
    cases x with
    | none => exact Or.inl rfl
    | some r =>
      obtain ⟨e1, e2, e3⟩ := r5 r rfl
      refine Or.inr ⟨?_, ?_, ?_⟩
      · simp only [oi, Option.elim]; omega
      · simp only [oi, Option.elim]; omega
      · simp only [oi, Option.elim, Int.toNat_natCast]; exact e3
  have fin := settled_rr hr hk hc has p1 p2 p3 p4 p5 p6 p7 p8 p9 L Q G H hs0 hs3 hs1 hL hQ hG x ho
  have z0 : gR Z 0 0 9 = some 0 := by rw [eZ]; simp only [gI_sI, gI_sR, gI_sN, gI_sCp, gI_sB, gR_sI, gR_sR, gR_sN, gR_sCp, gR_sB, gN_sI, gN_sR, gN_sN, gN_sCp, gN_sB]; exact ((p3 0 9 rfl).2 0).trans (hX.2.1 9 (by decide))
  have z1 : gR Z 5 c 1 = some h := by rw [eZ]; simp only [gI_sI, gI_sR, gI_sN, gI_sCp, gI_sB, gR_sI, gR_sR, gR_sN, gR_sCp, gR_sB, gN_sI, gN_sR, gN_sN, gN_sCp, gN_sB]; exact ((p3 5 1 rfl).2 c).trans b1
  have z13 : gI Z 0 0 13 = gI M 64 0 13 := by rw [eZ]; simp only [gI_sI, gI_sR, gI_sN, gI_sCp, gI_sB, gR_sI, gR_sR, gR_sN, gR_sCp, gR_sB, gN_sI, gN_sR, gN_sN, gN_sCp, gN_sB, ↓reduceIte, and_true, true_and, and_false, false_and, and_self, or_true, true_or, or_false, false_or, or_self, Nat.reduceEqDiff, Int.reduceNeg, ne_eq, not_true_eq_false, not_false_eq_true, Int.toNat_natCast, reduceCtorEq, i10, i01, implies_true, true_implies, false_implies, g_t (c := True) trivial]; exact ((p3 0 13 rfl).1 0).trans hS.1.1
  have w81 : gI W 81 0 c = h := by rw [eW]; simp only [gI_sI, gI_sR, gI_sN, gI_sCp, gI_sB, gR_sI, gR_sR, gR_sN, gR_sCp, gR_sB, gN_sI, gN_sR, gN_sN, gN_sCp, gN_sB, ↓reduceIte, and_true, true_and, and_false, false_and, and_self, or_true, true_or, or_false, false_or, or_self, Nat.reduceEqDiff, Int.reduceNeg, ne_eq, not_true_eq_false, not_false_eq_true, Int.toNat_natCast, reduceCtorEq, i10, i01, implies_true, true_implies, false_implies, g_t (c := True) trivial]; exact ((p4 81 c rfl).1 0).trans eh
  have wr_ : ∀ j, marr j = true → gR W 64 0 j = some 0 := fun j hj => by
    have e : ¬ j = 46 := by
      rintro rfl; cases hj
    rw [eW]; simp only [gI_sI, gI_sR, gI_sN, gI_sCp, gI_sB, gR_sI, gR_sR, gR_sN, gR_sCp, gR_sB, gN_sI, gN_sR, gN_sN, gN_sCp, gN_sB]
    exact ((p4 64 j (by simp [vM, e])).2 0).trans (hM.2 j hj)
  have w13 : gI W 64 0 13 = gI M 64 0 13 := by rw [eW]; simp only [gI_sI, gI_sR, gI_sN, gI_sCp, gI_sB, gR_sI, gR_sR, gR_sN, gR_sCp, gR_sB, gN_sI, gN_sR, gN_sN, gN_sCp, gN_sB, ↓reduceIte, and_true, true_and, and_false, false_and, and_self, or_true, true_or, or_false, false_or, or_self, Nat.reduceEqDiff, Int.reduceNeg, ne_eq, not_true_eq_false, not_false_eq_true, Int.toNat_natCast, reduceCtorEq, i10, i01, implies_true, true_implies, false_implies, g_t (c := True) trivial]; exact (p4 64 13 rfl).1 0
  refine ⟨_, _, ?_, ?_, fin, by simp only [gI_sI, gI_sR, gI_sN, gI_sCp, gI_sB, gR_sI, gR_sR, gR_sN, gR_sCp, gR_sB, gN_sI, gN_sR, gN_sN, gN_sCp, gN_sB, ↓reduceIte, and_true, true_and, and_false, false_and, and_self, or_true, true_or, or_false, false_or, or_self, Nat.reduceEqDiff, Int.reduceNeg, ne_eq, not_true_eq_false, not_false_eq_true, Int.toNat_natCast, reduceCtorEq, i10, i01, implies_true, true_implies, false_implies, g_t (c := True) trivial]; exact (p4 64 13 rfl).1 0⟩
  · simp only [nm_eq, z0, z1, r1, cl_some, z13]
    rw [eZ]
    unfold fX4_waitToGoDown fX4_leaveFor
    simp only [nm_eq, up_eq, cl_some, ob_some, oe_some, oe_none, ob_none, gI_sI, gI_sR, gI_sN, gI_sCp, gI_sB, gR_sI, gR_sR, gR_sN, gR_sCp, gR_sB, gN_sI, gN_sR, gN_sN, gN_sCp, gN_sB]
  · have r4' : fX11_rightChild nf W 0 0 (h : Int) = some (oi x, W) := r4
    simp only [nm_eq, wr_ 15 rfl, ob_some, g_t gc, Int.toNat_natCast, w81, r4', cl_some]
    unfold fX11_waitAt
    simp only [nm_eq, up_eq, cl_some, ob_some, oe_some, oe_none, ob_none, gI_sI, gI_sR, gI_sN, gI_sCp, gI_sB, gR_sI, gR_sR, gR_sN, gR_sCp, gR_sB, gN_sI, gN_sR, gN_sN, gN_sCp, gN_sB, ↓reduceIte, and_true, true_and, and_false, false_and, and_self, or_true, true_or, or_false, false_or, or_self, Nat.reduceEqDiff, Int.reduceNeg, ne_eq, not_true_eq_false, not_false_eq_true, Int.toNat_natCast, reduceCtorEq, i10, i01, implies_true, true_implies, false_implies, g_t (c := True) trivial, wr_ 16 rfl, wr_ 17 rfl, wr_ 18 rfl, wr_ 19 rfl, wr_ 20 rfl, g_t gc, g_t g0, Int.toNat_natCast, w13]
    rw [eW]
theorem serveStep (hr : RR P C K D X M) (hD1 : D ≤ 60000200) {nf : Nat} (hnf : 1000 ≤ nf) {k : Nat} (hk : k < K) : ∃ X' M', (∀ n, fX10_workClerks_L2 0 nf (n + 1) X (k : Int) = fX10_workClerks_L2 0 nf n X' ((k + 1 : Nat) : Int)) ∧ (∀ n, fX11_serve_L2 0 nf (n + 1) M (k : Int) = fX11_serve_L2 0 nf n M' ((k + 1 : Nat) : Int)) ∧ RR P C K (D + 50) X' M' ∧ gI M' 64 0 13 = gI M 64 0 13 := by
  have hX := hr.1.1
  have hM := hr.1.2.1
  have hN := hr.1.2.2
  have h16 := hN.1
  have gk : (0 : Int) ≤ (k : Int) ∧ (k : Int) < 4 := by omega
  obtain ⟨⟨k1, k2, k3, k4, k5⟩, k6, k7, k8⟩ := hr.2.2.2.2.2.2.2.1 k hk
  have wk : wr ((k : Int) + 1) = ((k + 1 : Nat) : Int) := nat_wr k (by omega)
  by_cases k9 : gI M 102 0 k = -9
  · have r9 : ox (gI M 102 0 k) = none := by rw [k9]; rfl
    refine ⟨X, M, fun n => ?_, fun n => ?_, hr.le (by clear wk; omega), rfl⟩
    · conv => lhs; unfold fX10_workClerks_L2
      rw [if_pos (by rw [hN.2.2.1.2.2]; clear wk; omega)]
      simp only [nm_eq, up_eq, cl_some, ob_some, oe_some, oe_none, ob_none, hX.2.1 2 (by decide), g_t gk, Int.toNat_natCast, k1, k6, r9, wk]
    · conv => lhs; unfold fX11_serve_L2
      rw [if_pos (by rw [hN.2.1.2.2]; clear wk; omega)]
      simp only [nm_eq, up_eq, cl_some, ob_some, oe_some, oe_none, ob_none, hM.2 36 rfl, g_t gk, Int.toNat_natCast, k9, ↓reduceIte, wk]
  · have k8 := k8 k9
    obtain ⟨c, has⟩ : ∃ c : Nat, gI M 102 0 k = c := ⟨(gI M 102 0 k).toNat, by clear wk; omega⟩
    rw [has, Int.toNat_natCast] at k8
    have hc : c < C := by clear wk; omega
    have gc : (0 : Int) ≤ (c : Int) ∧ (c : Int) < 24 := by clear wk; omega
    have rc : ox (gI M 102 0 k) = some c := by rw [ox_eq]; exact has
    have wl : wr (gI M 103 0 k - 1) = gI M 103 0 k - 1 := wr_id (by clear wk; unfold zin; omega)
    have eX : ∀ n, fX10_workClerks_L2 0 nf (n + 1) X (k : Int) = if gI M 103 0 k - 1 = 0 then (cl_ (fX10_finish nf (sI X 3 k 3 (gI M 103 0 k - 1)) 0 (some k) (some c)) fun _ s => fX10_workClerks_L2 0 nf n s ((k + 1 : Nat) : Int)) else fX10_workClerks_L2 0 nf n (sI X 3 k 3 (gI M 103 0 k - 1)) ((k + 1 : Nat) : Int) := by
      intro n
      conv => lhs; unfold fX10_workClerks_L2
      rw [if_pos (by rw [hN.2.2.1.2.2]; clear wk wl; omega)]
      simp only [nm_eq, up_eq, cl_some, ob_some, oe_some, oe_none, ob_none, gI_sI, gI_sR, gI_sN, gI_sCp, gI_sB, gR_sI, gR_sR, gR_sN, gR_sCp, gR_sB, gN_sI, gN_sR, gN_sN, gN_sCp, gN_sB, ↓reduceIte, and_true, true_and, and_false, false_and, and_self, or_true, true_or, or_false, false_or, or_self, Nat.reduceEqDiff, Int.reduceNeg, ne_eq, not_true_eq_false, not_false_eq_true, Int.toNat_natCast, reduceCtorEq, i10, i01, implies_true, true_implies, false_implies, g_t (c := True) trivial, hX.2.1 2 (by decide), g_t gk, Int.toNat_natCast, k1, k6, rc, k8.2.1.1, wk, wl]
    have eM : ∀ n, fX11_serve_L2 0 nf (n + 1) M (k : Int) = if gI M 103 0 k - 1 = 0 then (cl_ (fX11_settle nf (sI (sI M 103 0 k (gI M 103 0 k - 1)) 102 0 k (-9)) 0 c) fun _ s => fX11_serve_L2 0 nf n s ((k + 1 : Nat) : Int)) else fX11_serve_L2 0 nf n (sI M 103 0 k (gI M 103 0 k - 1)) ((k + 1 : Nat) : Int) := by
      intro n
      conv => lhs; unfold fX11_serve_L2
      rw [if_pos (by rw [hN.2.1.2.2]; clear wk wl; omega)]
      simp only [nm_eq, up_eq, cl_some, ob_some, oe_some, oe_none, ob_none, gI_sI, gI_sR, gI_sN, gI_sCp, gI_sB, gR_sI, gR_sR, gR_sN, gR_sCp, gR_sB, gN_sI, gN_sR, gN_sN, gN_sCp, gN_sB, ↓reduceIte, and_true, true_and, and_false, false_and, and_self, or_true, true_or, or_false, false_or, or_self, Nat.reduceEqDiff, Int.reduceNeg, ne_eq, not_true_eq_false, not_false_eq_true, Int.toNat_natCast, reduceCtorEq, i10, i01, implies_true, true_implies, false_implies, g_t (c := True) trivial, hM.2 36 rfl, hM.2 37 rfl, g_t gk, Int.toNat_natCast, k9, wk, wl, has]
    clear wk wl
    by_cases l0 : gI M 103 0 k - 1 = 0
    · obtain ⟨⟨a0, a1, a2, a3⟩, ⟨b1, b2, b3, b4⟩, ⟨c1, c2, c3⟩, d4, d5, d6, d7, d8, d9, d10, d11, d12, d13, d14, d15, d16, d17, d18, d19, d20, d21, d22, d23, d24, d25⟩ := hr.2.2.2.2.2.2.1 c hc
      have hf : offF X M (sR (sI X 3 k 3 (gI M 103 0 k - 1)) 3 k 2 none) (sI (sI M 103 0 k (gI M 103 0 k - 1)) 102 0 k (-9)) k := off_facts hr l0
      have x12 : gI (sR (sI X 3 k 3 (gI M 103 0 k - 1)) 3 k 2 none) 5 c 12 = gI M 88 0 c := by simp only [gI_sI, gI_sR, gI_sN, gI_sCp, gI_sB, gR_sI, gR_sR, gR_sN, gR_sCp, gR_sB, gN_sI, gN_sR, gN_sN, gN_sCp, gN_sB, ↓reduceIte, and_true, true_and, and_false, false_and, and_self, or_true, true_or, or_false, false_or, or_self, Nat.reduceEqDiff, Int.reduceNeg, ne_eq, not_true_eq_false, not_false_eq_true, Int.toNat_natCast, reduceCtorEq, i10, i01, implies_true, true_implies, false_implies, g_t (c := True) trivial]; exact d20.1
      have m88 : gI (sI (sI M 103 0 k (gI M 103 0 k - 1)) 102 0 k (-9)) 88 0 c = gI M 88 0 c := by simp only [gI_sI, gI_sR, gI_sN, gI_sCp, gI_sB, gR_sI, gR_sR, gR_sN, gR_sCp, gR_sB, gN_sI, gN_sR, gN_sN, gN_sCp, gN_sB, ↓reduceIte, and_true, true_and, and_false, false_and, and_self, or_true, true_or, or_false, false_or, or_self, Nat.reduceEqDiff, Int.reduceNeg, ne_eq, not_true_eq_false, not_false_eq_true, Int.toNat_natCast, reduceCtorEq, i10, i01, implies_true, true_implies, false_implies, g_t (c := True) trivial]
      have m89 : gI (sI (sI M 103 0 k (gI M 103 0 k - 1)) 102 0 k (-9)) 89 0 c = gI M 89 0 c := by simp only [gI_sI, gI_sR, gI_sN, gI_sCp, gI_sB, gR_sI, gR_sR, gR_sN, gR_sCp, gR_sB, gN_sI, gN_sR, gN_sN, gN_sCp, gN_sB, ↓reduceIte, and_true, true_and, and_false, false_and, and_self, or_true, true_or, or_false, false_or, or_self, Nat.reduceEqDiff, Int.reduceNeg, ne_eq, not_true_eq_false, not_false_eq_true, Int.toNat_natCast, reduceCtorEq, i10, i01, implies_true, true_implies, false_implies, g_t (c := True) trivial]
      have mr : ∀ j, gR (sI (sI M 103 0 k (gI M 103 0 k - 1)) 102 0 k (-9)) 64 0 j = gR M 64 0 j := fun j => by simp only [gI_sI, gI_sR, gI_sN, gI_sCp, gI_sB, gR_sI, gR_sR, gR_sN, gR_sCp, gR_sB, gN_sI, gN_sR, gN_sN, gN_sCp, gN_sB]
      by_cases s1 : gI M 88 0 c = 1
      · obtain ⟨Y, N, L, Q, G, H, s, f1, ⟨w, f2, f2'⟩, f10, f3, f4, f5, f6, f7, f8, f9⟩ := settle_eq hr hD1 hnf hk hc has s1 l0
        obtain ⟨X', M', g1, g2, g3, g4⟩ := tail_eq hr hnf hk hc has f3 L Q G H f4 f5 f6 f7 f8 f9 rfl rfl
        have n22 : gR (sB (sB N 91 0 G) 92 0 H) 64 0 22 = some 0 := by
          simp only [gI_sI, gI_sR, gI_sN, gI_sCp, gI_sB, gR_sI, gR_sR, gR_sN, gR_sCp, gR_sB, gN_sI, gN_sR, gN_sN, gN_sCp, gN_sB]
          exact ((f3.2.2.2.1 64 22 rfl).2 0).trans (hM.2 22 rfl)
        have n46 : gI (sB (sB N 91 0 G) 92 0 H) 64 0 46 = gI N 64 0 46 := by simp only [gI_sI, gI_sR, gI_sN, gI_sCp, gI_sB, gR_sI, gR_sR, gR_sN, gR_sCp, gR_sB, gN_sI, gN_sR, gN_sN, gN_sCp, gN_sB, ↓reduceIte, and_true, true_and, and_false, false_and, and_self, or_true, true_or, or_false, false_or, or_self, Nat.reduceEqDiff, Int.reduceNeg, ne_eq, not_true_eq_false, not_false_eq_true, Int.toNat_natCast, reduceCtorEq, i10, i01, implies_true, true_implies, false_implies, g_t (c := True) trivial]
        have eS : fX11_settle nf (sI (sI M 103 0 k (gI M 103 0 k - 1)) 102 0 k (-9)) 0 c = some ((), M') := by
          rw [Int.toNat_natCast] at g2
          unfold fX11_settle
          rw [Int.toNat_natCast, nm_eq, mr, hM.2 22 rfl, ob_some, g_t gc, m88, if_pos s1, f2, cl_some, nm_eq, mr, hM.2 23 rfl, ob_some, g_t gc, m89, nm_eq, f2', nm_eq, n46, n22]
          rcases f10 with ⟨e, es⟩ | ⟨e, es⟩
          · rw [if_pos e, ob_some, g_t gc, up_eq, ← es]
            exact g2
          · rw [if_neg e, ob_some, g_t gc, up_eq, ← es]
            exact g2
        refine ⟨X', M', fun n => ?_, fun n => ?_, g3, g4⟩
        · rw [eX n, if_pos l0]
          unfold fX10_finish
          rw [ob_some, up_eq, ob_some, x12, if_pos s1, f1, cl_some, g1, cl_some]
        · rw [eM n, if_pos l0, eS, cl_some]
      · have hL0 : ∀ j, j < 6 → gI (sR (sI X 3 k 3 (gI M 103 0 k - 1)) 3 k 2 none) 15 0 j = gI (sI (sI M 103 0 k (gI M 103 0 k - 1)) 102 0 k (-9)) 92 0 j ∧ 0 ≤ gI (sI (sI M 103 0 k (gI M 103 0 k - 1)) 102 0 k (-9)) 92 0 j ∧ gI (sI (sI M 103 0 k (gI M 103 0 k - 1)) 102 0 k (-9)) 92 0 j ≤ D + 50 := fun j hj => by
          simp only [gI_sI, gI_sR, gI_sN, gI_sCp, gI_sB, gR_sI, gR_sR, gR_sN, gR_sCp, gR_sB, gN_sI, gN_sR, gN_sN, gN_sCp, gN_sB, ↓reduceIte, and_true, true_and, and_false, false_and, and_self, or_true, true_or, or_false, false_or, or_self, Nat.reduceEqDiff, Int.reduceNeg, ne_eq, not_true_eq_false, not_false_eq_true, Int.toNat_natCast, reduceCtorEq, i10, i01, implies_true, true_implies, false_implies, g_t (c := True) trivial]
          have e1 := hr.2.1.2.2.2.2 j hj
          have e2 := hr.2.2.2.2.2.2.2.2.1.2 j hj
          omega
        have hQ0 : ∀ j, j < 6 → gI (sR (sI X 3 k 3 (gI M 103 0 k - 1)) 3 k 2 none) 15 (c + 3) j = gI (sI (sI M 103 0 k (gI M 103 0 k - 1)) 102 0 k (-9)) 91 0 (6 * c + j) ∧ 0 ≤ gI (sI (sI M 103 0 k (gI M 103 0 k - 1)) 102 0 k (-9)) 91 0 (6 * c + j) ∧ gI (sI (sI M 103 0 k (gI M 103 0 k - 1)) 102 0 k (-9)) 91 0 (6 * c + j) ≤ 3000 := fun j hj => by
          simp only [gI_sI, gI_sR, gI_sN, gI_sCp, gI_sB, gR_sI, gR_sR, gR_sN, gR_sCp, gR_sB, gN_sI, gN_sR, gN_sN, gN_sCp, gN_sB, ↓reduceIte, and_true, true_and, and_false, false_and, and_self, or_true, true_or, or_false, false_or, or_self, Nat.reduceEqDiff, Int.reduceNeg, ne_eq, not_true_eq_false, not_false_eq_true, Int.toNat_natCast, reduceCtorEq, i10, i01, implies_true, true_implies, false_implies, g_t (c := True) trivial]
          exact d23 j hj
        obtain ⟨X', M', g1, g2, g3, g4⟩ := tail_eq hr hnf hk hc has hf (fun j => gI (sR (sI X 3 k 3 (gI M 103 0 k - 1)) 3 k 2 none) 15 0 j) (fun j => gI (sR (sI X 3 k 3 (gI M 103 0 k - 1)) 3 k 2 none) 15 (c + 3) j) (fun j => gI (sI (sI M 103 0 k (gI M 103 0 k - 1)) 102 0 k (-9)) 91 0 j) (fun j => gI (sI (sI M 103 0 k (gI M 103 0 k - 1)) 102 0 k (-9)) 92 0 j) (s := gI M 88 0 c) d20.2.1 d20.2.2 s1 hL0 hQ0 (fun j _ => by simp only [gI_sI, gI_sR, gI_sN, gI_sCp, gI_sB, gR_sI, gR_sR, gR_sN, gR_sCp, gR_sB, gN_sI, gN_sR, gN_sN, gN_sCp, gN_sB, ↓reduceIte, and_true, true_and, and_false, false_and, and_self, or_true, true_or, or_false, false_or, or_self, Nat.reduceEqDiff, Int.reduceNeg, ne_eq, not_true_eq_false, not_false_eq_true, Int.toNat_natCast, reduceCtorEq, i10, i01, implies_true, true_implies, false_implies, g_t (c := True) trivial]) (Z := sR (sI X 3 k 3 (gI M 103 0 k - 1)) 3 k 2 none) (W := sI (sI M 103 0 k (gI M 103 0 k - 1)) 102 0 k (-9)) (by rw [sB_self (t := 15) (i := 0) (fun _ => rfl), sB_self (fun _ => rfl), sI_self x12.symm]) (by rw [sB_self (t := 91) (fun _ => rfl), sB_self (fun _ => rfl), sI_self m88.symm])
        have eS : fX11_settle nf (sI (sI M 103 0 k (gI M 103 0 k - 1)) 102 0 k (-9)) 0 c = some ((), M') := by
          rw [Int.toNat_natCast] at g2
          unfold fX11_settle
          rw [Int.toNat_natCast, nm_eq, mr, hM.2 22 rfl, ob_some, g_t gc, m88, if_neg s1]
          exact g2
        refine ⟨X', M', fun n => ?_, fun n => ?_, g3, g4⟩
        · rw [eX n, if_pos l0]
          unfold fX10_finish
          rw [ob_some, up_eq, ob_some, x12, if_neg s1, g1, cl_some]
        · rw [eM n, if_pos l0, eS, cl_some]
    · refine ⟨_, _, fun n => (eX n).trans (if_neg l0), fun n => (eM n).trans (if_neg l0), (left_rr hr hk k9 (by omega) (by omega)).le (by omega), by simp only [gI_sI, gI_sR, gI_sN, gI_sCp, gI_sB, gR_sI, gR_sR, gR_sN, gR_sCp, gR_sB, gN_sI, gN_sR, gN_sN, gN_sCp, gN_sB, ↓reduceIte, and_true, true_and, and_false, false_and, and_self, or_true, true_or, or_false, false_or, or_self, Nat.reduceEqDiff, Int.reduceNeg, ne_eq, not_true_eq_false, not_false_eq_true, Int.toNat_natCast, reduceCtorEq, i10, i01, implies_true, true_implies, false_implies, g_t (c := True) trivial]⟩
theorem serveL {nf : Nat} (hnf : 1000 ≤ nf) : ∀ (m n k : Nat) (E : Int) (Y N : zS), k + m = K → m < n → RR P C K E Y N → E + 50 * m ≤ 60000200 → ∃ Y' N', fX10_workClerks_L2 0 nf n Y (k : Int) = some ((), Y') ∧ fX11_serve_L2 0 nf n N (k : Int) = some ((), N') ∧ RR P C K (E + 50 * m) Y' N' ∧ gI N' 64 0 13 = gI N 64 0 13
  | 0, n + 1, k, E, Y, N, hk, _, hr, _ => by
    have hN := hr.1.2.2
    refine ⟨Y, N, ?_, ?_, hr.le (by omega), rfl⟩
    · unfold fX10_workClerks_L2; rw [if_neg (by rw [hN.2.2.1.2.2]; omega)]
    · unfold fX11_serve_L2; rw [if_neg (by rw [hN.2.1.2.2]; omega)]
  | m + 1, n + 1, k, E, Y, N, hk, hn, hr, hE => by
    obtain ⟨Y1, N1, f1, f2, f3, f4⟩ := serveStep hr (by omega) hnf (k := k) (by omega)
    obtain ⟨Y', N', g1, g2, g3, g4⟩ := serveL hnf m n (k + 1) (E + 50) Y1 N1 (by omega) (by omega) f3 (by omega)
    exact ⟨Y', N', (f1 n).trans g1, (f2 n).trans g2, g3.le (by omega), g4.trans f4⟩
theorem ph_serve {nf : Nat} (hnf : 1000 ≤ nf) : phase (fun X => fX10_workClerks nf X 0) (fun M => fX11_serve nf M 0) 200 := by
  intro P C K D X M hr hD
  have h16 := hr.1.2.2.1
  obtain ⟨Y', N', g1, g2, g3, g4⟩ := serveL hnf K nf 0 D X M (by omega) (by omega) hr (by omega)
  exact ⟨Y', N', g1, g2, g3.le (by omega), g4⟩
end SX
