/-! ===== plans: the class lays one ===== -/
def mg (w d : Nat → Int) : Nat → Int
  | 0 => 0
  | i + 1 => imax (mg w d i) (wr (w i + d i))
section PM
variable {P C K : Nat} {D : Int} {X M : zS}
theorem sentX (hr : RR P C K D X M) {c : Nat} (hc : c < C) : fX4_sentTick X c = some (sentv M c, X) := by
  have q := hr.2.2.2.2.2.2.1 c hc
  obtain ⟨-, -, -, -, -, -, -, -, -, -, -, -, -, -, -, -, -, -, -, d20, -, d22, -⟩ := q
  unfold fX4_sentTick sentv
  rw [d20.1, d22.1]
  by_cases e : gI M 88 0 c = 0
  · rw [if_pos e, if_pos e]
  · rw [if_neg e, if_neg e]
theorem sentM (hr : RR P C K D X M) {c : Nat} (hc : c < C) : fX11_sentOf M 0 c = some (sentv M c, M) := by
  have hM := hr.1.2.1
  have h16 := hr.1.2.2.1
  unfold fX11_sentOf sentv
  simp only [nm_eq, up_eq, cl_some, ob_some, oe_some, oe_none, ob_none, hM.2 22 rfl, hM.2 24 rfl, g_t (show (0 : Int) ≤ (c : Int) ∧ (c : Int) < 24 by omega), Int.toNat_natCast]
  by_cases e : gI M 88 0 c = 0
  · rw [if_pos e, if_pos e]
  · rw [if_neg e, if_neg e]
theorem sentv_b (hr : RR P C K D X M) {c : Nat} (hc : c < C) : 0 ≤ sentv M c ∧ sentv M c ≤ gI M 64 0 13 := by
  obtain ⟨-, -, -, -, -, -, -, -, -, -, -, -, -, -, -, -, -, -, -, d20, -, d22, -⟩ := hr.2.2.2.2.2.2.1 c hc
  have := hr.2.1.1
  unfold sentv
  split <;> omega
theorem cupsL {nf : Nat} (hr : RR P C K D X M) {s : Nat} (hs : s ≤ 6) {cp : Nat → Nat} (hcp : ∀ j, j < s → cp j < C ∧ gR X 14 0 j = some (cp j)) : ∀ (m n j : Nat) (Y : zS), j + m = s → m < n → oP Y X → gI Y 7 0 4 = j → (∀ i, i < j → gI Y 24 0 i = gI M 64 0 13 - sentv M (cp i)) →
    ∃ Y', fX10_layPlan_L50 0 (s : Int) nf n Y (j : Int) = (cl_ (fX6_layPlaces nf Y' 0) fun (_ : Unit) (s_9 : zS) => some ((), s_9)) ∧ oP Y' X ∧ gI Y' 7 0 4 = s ∧ gI Y' 7 0 2 = gI Y 7 0 2 ∧ (∀ i, gI Y' 22 0 i = gI Y 22 0 i ∧ gI Y' 23 0 i = gI Y 23 0 i) ∧ ∀ i, i < s → gI Y' 24 0 i = gI M 64 0 13 - sentv M (cp i)
  | 0, n + 1, j, Y, hj, _, hY, h4, ha => by
    have hX := (hr.oP hY).1.1
    have : j = s := by omega
    subst this
    unfold fX10_layPlan_L50
    rw [if_neg (by omega)]
    simp only [nm_eq, up_eq, cl_some, ob_some, oe_some, oe_none, ob_none, hX.2.1 0 (by decide), hX.2.1 1 (by decide), hX.2.1 2 (by decide), hX.2.1 3 (by decide), hX.2.1 4 (by decide), hX.2.1 5 (by decide), hX.2.1 6 (by decide), hX.2.1 7 (by decide), hX.2.1 8 (by decide), hX.2.1 9 (by decide), hX.2.2.1.1, hX.2.2.1.2, hX.2.2.2.1.1, hX.2.2.2.1.2, hX.2.2.2.2.1, hX.2.2.2.2.2.1.1, hX.2.2.2.2.2.1.2.1, hX.2.2.2.2.2.1.2.2, hX.2.2.2.2.2.2.1.1, hX.2.2.2.2.2.2.1.2.1, hX.2.2.2.2.2.2.1.2.2.1, hX.2.2.2.2.2.2.1.2.2.2.1, hX.2.2.2.2.2.2.1.2.2.2.2.1, hX.2.2.2.2.2.2.1.2.2.2.2.2.1, hX.2.2.2.2.2.2.1.2.2.2.2.2.2]
    exact ⟨Y, rfl, hY, h4, rfl, fun _ => ⟨rfl, rfl⟩, ha⟩
  | m + 1, n + 1, j, Y, hj, hn, hY, h4, ha => by
    have hr2 := hr.oP hY
    have hX := hr2.1.1
    have hS := hr2.2.1
    have gj : (0 : Int) ≤ (j : Int) ∧ (j : Int) < 24 := by omega
    have gj6 : (0 : Int) ≤ (j : Int) ∧ (j : Int) < 6 := by omega
    obtain ⟨c1, c2⟩ := hcp j (by omega)
    have c2 : gR Y 14 0 j = some (cp j) := (hY.2.1 14 0 j).trans c2
    have sb := sentv_b hr c1
    have hs1 := hS.1
    have sx := sentX hr2 c1
    obtain ⟨Y', f1, f2, f3, f4, f5, f6⟩ := cupsL (nf := nf) hr hs hcp m n (j + 1) (sI (sI Y 24 0 j (gI M 64 0 13 - sentv M (cp j))) 7 0 4 ((j + 1 : Nat) : Int)) (by omega) (by omega) ((hY.sI (by omega)).sI (by omega)) (by simp only [gI_sI, gI_sR, gI_sN, gI_sCp, gI_sB, gR_sI, gR_sR, gR_sN, gR_sCp, gR_sB, gN_sI, gN_sR, gN_sN, gN_sCp, gN_sB, ↓reduceIte, and_true, true_and, and_false, false_and, and_self, or_true, true_or, or_false, false_or, or_self, Nat.reduceEqDiff, Int.reduceNeg, ne_eq, not_true_eq_false, not_false_eq_true, Int.toNat_natCast, reduceCtorEq, i10, i01, implies_true, true_implies, false_implies, g_t (c := True) trivial]) (fun i hi => by
      by_cases e : i = j
      · subst e; simp only [gI_sI, gI_sR, gI_sN, gI_sCp, gI_sB, gR_sI, gR_sR, gR_sN, gR_sCp, gR_sB, gN_sI, gN_sR, gN_sN, gN_sCp, gN_sB, ↓reduceIte, and_true, true_and, and_false, false_and, and_self, or_true, true_or, or_false, false_or, or_self, Nat.reduceEqDiff, Int.reduceNeg, ne_eq, not_true_eq_false, not_false_eq_true, Int.toNat_natCast, reduceCtorEq, i10, i01, implies_true, true_implies, false_implies, g_t (c := True) trivial]
      · simp only [gI_sI, gI_sR, gI_sN, gI_sCp, gI_sB, gR_sI, gR_sR, gR_sN, gR_sCp, gR_sB, gN_sI, gN_sR, gN_sN, gN_sCp, gN_sB, ↓reduceIte, and_true, true_and, and_false, false_and, and_self, or_true, true_or, or_false, false_or, or_self, Nat.reduceEqDiff, Int.reduceNeg, ne_eq, not_true_eq_false, not_false_eq_true, Int.toNat_natCast, reduceCtorEq, i10, i01, implies_true, true_implies, false_implies, g_t (c := True) trivial, e]; exact ha i (by omega))
    refine ⟨Y', ?_, f2, f3, f4.trans (by simp only [gI_sI, gI_sR, gI_sN, gI_sCp, gI_sB, gR_sI, gR_sR, gR_sN, gR_sCp, gR_sB, gN_sI, gN_sR, gN_sN, gN_sCp, gN_sB, ↓reduceIte, and_true, true_and, and_false, false_and, and_self, or_true, true_or, or_false, false_or, or_self, Nat.reduceEqDiff, Int.reduceNeg, ne_eq, not_true_eq_false, not_false_eq_true, Int.toNat_natCast, reduceCtorEq, i10, i01, implies_true, true_implies, false_implies, g_t (c := True) trivial]), fun i => ?_, f6⟩
    · conv => lhs; unfold fX10_layPlan_L50
      rw [if_pos (by omega)]
      unfold fX6_addCup
      simp only [nm_eq, up_eq, cl_some, ob_some, oe_some, oe_none, ob_none, hX.2.1 0 (by decide), hX.2.1 1 (by decide), hX.2.1 2 (by decide), hX.2.1 3 (by decide), hX.2.1 4 (by decide), hX.2.1 5 (by decide), hX.2.1 6 (by decide), hX.2.1 7 (by decide), hX.2.1 8 (by decide), hX.2.1 9 (by decide), hX.2.2.1.1, hX.2.2.1.2, hX.2.2.2.1.1, hX.2.2.2.1.2, hX.2.2.2.2.1, hX.2.2.2.2.2.1.1, hX.2.2.2.2.2.1.2.1, hX.2.2.2.2.2.1.2.2, hX.2.2.2.2.2.2.1.1, hX.2.2.2.2.2.2.1.2.1, hX.2.2.2.2.2.2.1.2.2.1, hX.2.2.2.2.2.2.1.2.2.2.1, hX.2.2.2.2.2.2.1.2.2.2.2.1, hX.2.2.2.2.2.2.1.2.2.2.2.2.1, hX.2.2.2.2.2.2.1.2.2.2.2.2.2, g_t gj, Int.toNat_natCast, c2, sx, h4, hS.1.1]
      rw [if_pos (by omega), wr_id (z := gI M 64 0 13 - sentv M (cp j)) (by unfold zin; omega)]
      simp only [nm_eq, up_eq, cl_some, ob_some, oe_some, oe_none, ob_none, g_t gj6, Int.toNat_natCast, gI_sI, gI_sR, gI_sN, gI_sCp, gI_sB, gR_sI, gR_sR, gR_sN, gR_sCp, gR_sB, gN_sI, gN_sR, gN_sN, gN_sCp, gN_sB, ↓reduceIte, and_true, true_and, and_false, false_and, and_self, or_true, true_or, or_false, false_or, or_self, Nat.reduceEqDiff, Int.reduceNeg, ne_eq, not_true_eq_false, not_false_eq_true, Int.toNat_natCast, reduceCtorEq, i10, i01, implies_true, true_implies, false_implies, g_t (c := True) trivial, h4, nat_wr j (by omega)]
      exact f1
    · rw [(f5 i).1, (f5 i).2]; simp only [gI_sI, gI_sR, gI_sN, gI_sCp, gI_sB, gR_sI, gR_sR, gR_sN, gR_sCp, gR_sB, gN_sI, gN_sR, gN_sN, gN_sCp, gN_sB, ↓reduceIte, and_true, true_and, and_false, false_and, and_self, or_true, true_or, or_false, false_or, or_self, Nat.reduceEqDiff, Int.reduceNeg, ne_eq, not_true_eq_false, not_false_eq_true, Int.toNat_natCast, reduceCtorEq, i10, i01, implies_true, true_implies, false_implies, g_t (c := True) trivial, and_self]
theorem placesL {nf : Nat} (hnf : 1000 ≤ nf) (hr : RR P C K D X M) (hK : 0 < K) {s : Nat} (hs : s ≤ 6) {f nd : Nat → Int} (hf : ∀ j, j < K → 0 ≤ f j ∧ f j ≤ 30) (hn' : ∀ j, j < K → 1 ≤ nd j ∧ nd j ≤ 30) : ∀ (m n i : Nat) (Y : zS), i + m = s → m < n → oP Y X → gI Y 7 0 2 = K → gI Y 7 0 4 = s → (∀ j, j < K → gI Y 22 0 j = Fr f nd K i j ∧ gI Y 23 0 j = nd j) → (∀ l, l < i → gI Y 25 0 l = dn f nd K l) →
    ∃ Y', fX6_layPlaces_L2 0 nf n Y (i : Int) = some ((), Y') ∧ oP Y' X ∧ gI Y' 7 0 2 = K ∧ gI Y' 7 0 4 = s ∧ (∀ l, l < s → gI Y' 25 0 l = dn f nd K l) ∧ ∀ l, gI Y' 24 0 l = gI Y 24 0 l
  | 0, n + 1, i, Y, hi, _, hY, h2, h4, ha, hb => by
    have : i = s := by omega
    subst this
    unfold fX6_layPlaces_L2
    rw [if_neg (by rw [h4]; omega)]
    exact ⟨Y, rfl, hY, h2, h4, hb, fun _ => rfl⟩
  | m + 1, n + 1, i, Y, hi, hn, hY, h2, h4, ha, hb => by
    have hr2 := hr.oP hY
    have hX := hr2.1.1
    have h16 := hr2.1.2.2.1
    have e1 : am (fun j => gI Y 22 0 j) 1 = 0 := by
      show (if gI Y 22 0 0 < gI Y 22 0 0 then 0 else 0) = 0
      simp
    have eam : am (fun j => gI Y 22 0 j) K = am (Fr f nd K i) K := am_cg K fun j hj => (ha j hj).1
    have aK := am_lt (Fr f nd K i) K hK
    generalize hy : am (Fr f nd K i) K = y at eam aK
    have gy : (0 : Int) ≤ (y : Int) ∧ (y : Int) < 4 := by omega
    have gi : (0 : Int) ≤ (i : Int) ∧ (i : Int) < 6 := by omega
    have b := Fr_b hf hn' i y aK
    have b2 := hn' y aK
    obtain ⟨q1, q2⟩ := ha y aK
    have ed : dn f nd K i = Fr f nd K i y + nd y := by
      unfold dn
      rw [hy]
      show (if y = am (Fr f nd K i) K then _ else _) = _
      rw [if_pos hy.symm]
    obtain ⟨Y', f1, f2, f3, f4, f5, f6⟩ := placesL hnf hr hK hs hf hn' m n (i + 1) (sI (sI Y 22 0 y (Fr f nd K i y + nd y)) 25 0 i (Fr f nd K i y + nd y)) (by omega) (by omega) ((hY.sI (by omega)).sI (by omega)) (by simp only [gI_sI, gI_sR, gI_sN, gI_sCp, gI_sB, gR_sI, gR_sR, gR_sN, gR_sCp, gR_sB, gN_sI, gN_sR, gN_sN, gN_sCp, gN_sB, ↓reduceIte, and_true, true_and, and_false, false_and, and_self, or_true, true_or, or_false, false_or, or_self, Nat.reduceEqDiff, Int.reduceNeg, ne_eq, not_true_eq_false, not_false_eq_true, Int.toNat_natCast, reduceCtorEq, i10, i01, implies_true, true_implies, false_implies, g_t (c := True) trivial]; exact h2) (by simp only [gI_sI, gI_sR, gI_sN, gI_sCp, gI_sB, gR_sI, gR_sR, gR_sN, gR_sCp, gR_sB, gN_sI, gN_sR, gN_sN, gN_sCp, gN_sB, ↓reduceIte, and_true, true_and, and_false, false_and, and_self, or_true, true_or, or_false, false_or, or_self, Nat.reduceEqDiff, Int.reduceNeg, ne_eq, not_true_eq_false, not_false_eq_true, Int.toNat_natCast, reduceCtorEq, i10, i01, implies_true, true_implies, false_implies, g_t (c := True) trivial]; exact h4) (fun j hj => by
      have e : Fr f nd K (i + 1) j = if j = y then Fr f nd K i j + nd j else Fr f nd K i j := by
        show (if j = am (Fr f nd K i) K then _ else _) = _
        rw [hy]
      rw [e]
      by_cases c : j = y
      · subst c; simp only [gI_sI, gI_sR, gI_sN, gI_sCp, gI_sB, gR_sI, gR_sR, gR_sN, gR_sCp, gR_sB, gN_sI, gN_sR, gN_sN, gN_sCp, gN_sB, ↓reduceIte, and_true, true_and, and_false, false_and, and_self, or_true, true_or, or_false, false_or, or_self, Nat.reduceEqDiff, Int.reduceNeg, ne_eq, not_true_eq_false, not_false_eq_true, Int.toNat_natCast, reduceCtorEq, i10, i01, implies_true, true_implies, false_implies, g_t (c := True) trivial]; exact q2
      · simp only [gI_sI, gI_sR, gI_sN, gI_sCp, gI_sB, gR_sI, gR_sR, gR_sN, gR_sCp, gR_sB, gN_sI, gN_sR, gN_sN, gN_sCp, gN_sB, ↓reduceIte, and_true, true_and, and_false, false_and, and_self, or_true, true_or, or_false, false_or, or_self, Nat.reduceEqDiff, Int.reduceNeg, ne_eq, not_true_eq_false, not_false_eq_true, Int.toNat_natCast, reduceCtorEq, i10, i01, implies_true, true_implies, false_implies, g_t (c := True) trivial, c]; exact ha j hj) (fun l hl => by
      by_cases c : l = i
      · subst c; simp only [gI_sI, gI_sR, gI_sN, gI_sCp, gI_sB, gR_sI, gR_sR, gR_sN, gR_sCp, gR_sB, gN_sI, gN_sR, gN_sN, gN_sCp, gN_sB, ↓reduceIte, and_true, true_and, and_false, false_and, and_self, or_true, true_or, or_false, false_or, or_self, Nat.reduceEqDiff, Int.reduceNeg, ne_eq, not_true_eq_false, not_false_eq_true, Int.toNat_natCast, reduceCtorEq, i10, i01, implies_true, true_implies, false_implies, g_t (c := True) trivial]; exact ed.symm
      · simp only [gI_sI, gI_sR, gI_sN, gI_sCp, gI_sB, gR_sI, gR_sR, gR_sN, gR_sCp, gR_sB, gN_sI, gN_sR, gN_sN, gN_sCp, gN_sB, ↓reduceIte, and_true, true_and, and_false, false_and, and_self, or_true, true_or, or_false, false_or, or_self, Nat.reduceEqDiff, Int.reduceNeg, ne_eq, not_true_eq_false, not_false_eq_true, Int.toNat_natCast, reduceCtorEq, i10, i01, implies_true, true_implies, false_implies, g_t (c := True) trivial, c]; exact hb l (by omega))
    refine ⟨Y', ?_, f2, f3, f4, f5, fun l => (f6 l).trans (by simp only [gI_sI, gI_sR, gI_sN, gI_sCp, gI_sB, gR_sI, gR_sR, gR_sN, gR_sCp, gR_sB, gN_sI, gN_sR, gN_sN, gN_sCp, gN_sB, ↓reduceIte, and_true, true_and, and_false, false_and, and_self, or_true, true_or, or_false, false_or, or_self, Nat.reduceEqDiff, Int.reduceNeg, ne_eq, not_true_eq_false, not_false_eq_true, Int.toNat_natCast, reduceCtorEq, i10, i01, implies_true, true_implies, false_implies, g_t (c := True) trivial])⟩
    conv => lhs; unfold fX6_layPlaces_L2
    rw [if_pos (by rw [h4]; omega)]
    have l14 := fun κ => amL (nf := nf) κ (i : Int) hr2 h2 (K - 1) nf 1 (by omega) (by omega) (by omega)
    rw [e1, eam] at l14
    refine Eq.trans (l14 _) ?_
    simp only [nm_eq, up_eq, cl_some, ob_some, oe_some, oe_none, ob_none, hX.2.1 0 (by decide), hX.2.1 1 (by decide), hX.2.1 2 (by decide), hX.2.1 3 (by decide), hX.2.1 4 (by decide), hX.2.1 5 (by decide), hX.2.1 6 (by decide), hX.2.1 7 (by decide), hX.2.1 8 (by decide), hX.2.1 9 (by decide), hX.2.2.1.1, hX.2.2.1.2, hX.2.2.2.1.1, hX.2.2.2.1.2, hX.2.2.2.2.1, hX.2.2.2.2.2.1.1, hX.2.2.2.2.2.1.2.1, hX.2.2.2.2.2.1.2.2, hX.2.2.2.2.2.2.1.1, hX.2.2.2.2.2.2.1.2.1, hX.2.2.2.2.2.2.1.2.2.1, hX.2.2.2.2.2.2.1.2.2.2.1, hX.2.2.2.2.2.2.1.2.2.2.2.1, hX.2.2.2.2.2.2.1.2.2.2.2.2.1, hX.2.2.2.2.2.2.1.2.2.2.2.2.2, g_t gy, g_t gi, Int.toNat_natCast, q1, q2, gI_sI, gI_sR, gI_sN, gI_sCp, gI_sB, gR_sI, gR_sR, gR_sN, gR_sCp, gR_sB, gN_sI, gN_sR, gN_sN, gN_sCp, gN_sB, ↓reduceIte, and_true, true_and, and_false, false_and, and_self, or_true, true_or, or_false, false_or, or_self, Nat.reduceEqDiff, Int.reduceNeg, ne_eq, not_true_eq_false, not_false_eq_true, Int.toNat_natCast, reduceCtorEq, i10, i01, implies_true, true_implies, false_implies, g_t (c := True) trivial, nat_wr i (by omega)]
    rw [wr_id (z := Fr f nd K i y + nd y) (by unfold zin; omega)]
    exact f1
theorem greatL (hr : RR P C K D X M) {s : Nat} (hs : s ≤ 6) (h4 : gI X 7 0 4 = s) {w d : Nat → Int} (hw : ∀ l, l < s → gI X 24 0 l = w l ∧ gI X 25 0 l = d l) : ∀ (m n i : Nat), i + m = s → m < n → fX6_greatestInTurn_L4 0 n X (mg w d i) (i : Int) = some (mg w d s, X)
  | 0, n + 1, i, hi, _ => by
    have : i = s := by omega
    subst this
    unfold fX6_greatestInTurn_L4
    rw [if_neg (by rw [h4]; omega)]
  | m + 1, n + 1, i, hi, hn => by
    have hX := hr.1.1
    have q := hw i (by omega)
    have ih := greatL hr hs h4 hw m n (i + 1) (by omega) (by omega)
    unfold fX6_greatestInTurn_L4
    rw [if_pos (by rw [h4]; omega)]
    simp only [nm_eq, up_eq, cl_some, ob_some, oe_some, oe_none, ob_none, hX.2.1 0 (by decide), hX.2.1 1 (by decide), hX.2.1 2 (by decide), hX.2.1 3 (by decide), hX.2.1 4 (by decide), hX.2.1 5 (by decide), hX.2.1 6 (by decide), hX.2.1 7 (by decide), hX.2.1 8 (by decide), hX.2.1 9 (by decide), hX.2.2.1.1, hX.2.2.1.2, hX.2.2.2.1.1, hX.2.2.2.1.2, hX.2.2.2.2.1, hX.2.2.2.2.2.1.1, hX.2.2.2.2.2.1.2.1, hX.2.2.2.2.2.1.2.2, hX.2.2.2.2.2.2.1.1, hX.2.2.2.2.2.2.1.2.1, hX.2.2.2.2.2.2.1.2.2.1, hX.2.2.2.2.2.2.1.2.2.2.1, hX.2.2.2.2.2.2.1.2.2.2.2.1, hX.2.2.2.2.2.2.1.2.2.2.2.2.1, hX.2.2.2.2.2.2.1.2.2.2.2.2.2, g_t (show (0 : Int) ≤ (i : Int) ∧ (i : Int) < 6 by omega), Int.toNat_natCast, q.1, q.2, nat_wr i (by omega)]
    exact ih
/-- the class's plan, laid -/
theorem layPlan_eq {nf : Nat} (hnf : 1000 ≤ nf) (hr : RR P C K D X M) (hK : 0 < K) {s : Nat} (hs : s ≤ 6) {cp : Nat → Nat} (hcp : ∀ j, j < s → cp j < C ∧ gR X 14 0 j = some (cp j)) (hf : ∀ j, j < K → 0 ≤ gI X 3 j 3 ∧ gI X 3 j 3 ≤ 30) (hn' : ∀ j, j < K → 1 ≤ gI X 3 j 1 ∧ gI X 3 j 1 ≤ 30) :
    ∃ Y', fX10_layPlan nf X 0 (s : Int) = some ((), Y') ∧ oP Y' X ∧ gI Y' 7 0 2 = K ∧ gI Y' 7 0 4 = s ∧ (∀ l, l < s → gI Y' 25 0 l = dn (fun j => gI X 3 j 3) (fun j => gI X 3 j 1) K l) ∧ ∀ l, l < s → gI Y' 24 0 l = gI M 64 0 13 - sentv M (cp l) := by
  have hX := hr.1.1
  have h16 := hr.1.2.2.1
  obtain ⟨Y1, a1, a2, a3, a4, a5⟩ := clerksL (nf := nf) (fun (s_5 : zS) => fX10_layPlan_L50 0 (s : Int) nf nf s_5 0) (s : Int) hr K nf 0 (sI (sI X 7 0 2 0) 7 0 4 0) (by omega) (by omega) ((oP.rf.sI (by omega)).sI (by omega)) (by simp only [gI_sI, gI_sR, gI_sN, gI_sCp, gI_sB, gR_sI, gR_sR, gR_sN, gR_sCp, gR_sB, gN_sI, gN_sR, gN_sN, gN_sCp, gN_sB, ↓reduceIte, and_true, true_and, and_false, false_and, and_self, or_true, true_or, or_false, false_or, or_self, Nat.reduceEqDiff, Int.reduceNeg, ne_eq, not_true_eq_false, not_false_eq_true, Int.toNat_natCast, reduceCtorEq, i10, i01, implies_true, true_implies, false_implies, g_t (c := True) trivial]; rfl) (fun j hj => by omega)
  obtain ⟨Y2, b1, b2, b3, b4, b5, b6⟩ := cupsL (nf := nf) hr hs hcp s nf 0 Y1 (by omega) (by omega) a2 (a4.trans (by simp only [gI_sI, gI_sR, gI_sN, gI_sCp, gI_sB, gR_sI, gR_sR, gR_sN, gR_sCp, gR_sB, gN_sI, gN_sR, gN_sN, gN_sCp, gN_sB, ↓reduceIte, and_true, true_and, and_false, false_and, and_self, or_true, true_or, or_false, false_or, or_self, Nat.reduceEqDiff, Int.reduceNeg, ne_eq, not_true_eq_false, not_false_eq_true, Int.toNat_natCast, reduceCtorEq, i10, i01, implies_true, true_implies, false_implies, g_t (c := True) trivial]; rfl)) (fun j hj => by omega)
  obtain ⟨Y3, c1, c2, c3, c4, c5, c6⟩ := placesL hnf hr hK hs (f := fun j => gI X 3 j 3) (nd := fun j => gI X 3 j 1) hf hn' s nf 0 Y2 (by omega) (by omega) b2 (b4.trans a3) b3 (fun j hj => ⟨(b5 j).1.trans (a5 j hj).1, (b5 j).2.trans (a5 j hj).2⟩) (fun l hl => by omega)
  refine ⟨Y3, ?_, c2, c3, c4, c5, fun l hl => (c6 l).trans (b6 l hl)⟩
  unfold fX10_layPlan fX6_begin
  simp only [nm_eq, up_eq, cl_some, ob_some, oe_some, oe_none, ob_none, hX.2.1 0 (by decide), hX.2.1 1 (by decide), hX.2.1 2 (by decide), hX.2.1 3 (by decide), hX.2.1 4 (by decide), hX.2.1 5 (by decide), hX.2.1 6 (by decide), hX.2.1 7 (by decide), hX.2.1 8 (by decide), hX.2.1 9 (by decide), hX.2.2.1.1, hX.2.2.1.2, hX.2.2.2.1.1, hX.2.2.2.1.2, hX.2.2.2.2.1, hX.2.2.2.2.2.1.1, hX.2.2.2.2.2.1.2.1, hX.2.2.2.2.2.1.2.2, hX.2.2.2.2.2.2.1.1, hX.2.2.2.2.2.2.1.2.1, hX.2.2.2.2.2.2.1.2.2.1, hX.2.2.2.2.2.2.1.2.2.2.1, hX.2.2.2.2.2.2.1.2.2.2.2.1, hX.2.2.2.2.2.2.1.2.2.2.2.2.1, hX.2.2.2.2.2.2.1.2.2.2.2.2.2]
  refine Eq.trans a1 (Eq.trans b1 ?_)
  have c1 : fX6_layPlaces nf Y2 0 = some ((), Y3) := c1
  rw [c1, cl_some]
end PM
