/-! ===== plans: clerks, cups, places ===== -/
/-- the first of the least -/
def am (f : Nat → Int) : Nat → Nat
  | 0 => 0
  | k + 1 => if f k < f (am f k) then k else am f k
theorem am_lt (f : Nat → Int) : ∀ k, 0 < k → am f k < k
  | k + 1, _ => by
    unfold am
    split
    · omega
    · rcases Nat.eq_zero_or_pos k with e | e
      · subst e; unfold am; omega
      · have := am_lt f k e; omega
theorem am_cg {f g : Nat → Int} : ∀ k, (∀ j, j < k → f j = g j) → am f k = am g k
  | 0, _ => rfl
  | k + 1, h => by
    have ih := am_cg k fun j hj => h j (by omega)
    unfold am
    rw [ih, h k (by omega)]
    rcases Nat.eq_zero_or_pos k with e | e
    · subst e
      show (if g 0 < f 0 then 0 else 0) = (if g 0 < g 0 then 0 else 0)
      simp
    · rw [h (am g k) (by have := am_lt g k e; omega)]
/-- until when each clerk works, after i cups -/
def Fr (f nd : Nat → Int) (K : Nat) : Nat → Nat → Int
  | 0 => f
  | i + 1 => fun j => if j = am (Fr f nd K i) K then Fr f nd K i j + nd j else Fr f nd K i j
def dn (f nd : Nat → Int) (K i : Nat) : Int := Fr f nd K (i + 1) (am (Fr f nd K i) K)
theorem Fr_b {f nd : Nat → Int} {K : Nat} (hf : ∀ j, j < K → 0 ≤ f j ∧ f j ≤ 30) (hn : ∀ j, j < K → 1 ≤ nd j ∧ nd j ≤ 30) : ∀ i j, j < K → 0 ≤ Fr f nd K i j ∧ Fr f nd K i j ≤ 30 + 30 * i
  | 0, j, hj => by have := hf j hj; unfold Fr; omega
  | i + 1, j, hj => by
    have := Fr_b hf hn i j hj
    have := hn j hj
    unfold Fr
    split <;> omega
theorem dn_b {f nd : Nat → Int} {K : Nat} (hK : 0 < K) (hf : ∀ j, j < K → 0 ≤ f j ∧ f j ≤ 30) (hn : ∀ j, j < K → 1 ≤ nd j ∧ nd j ≤ 30) (i : Nat) : 1 ≤ dn f nd K i ∧ dn f nd K i ≤ 60 + 30 * i := by
  have a := am_lt (Fr f nd K i) K hK
  have b := Fr_b hf hn i _ a
  have c := hn _ a
  unfold dn Fr
  rw [if_pos rfl]
  omega
/-- only a plan's slots are written -/
def oP (Y' Y : zS) : Prop := (∀ t, gN Y' t = gN Y t) ∧ (∀ t i k, gR Y' t i k = gR Y t i k) ∧ ∀ t i k, ¬ (22 ≤ t ∧ t ≤ 27 ∨ t = 7) → gI Y' t i k = gI Y t i k
theorem oP.rf {Y : zS} : oP Y Y := ⟨fun _ => rfl, fun _ _ _ => rfl, fun _ _ _ _ => rfl⟩
theorem oP.tr {Y Z W : zS} (h : oP Y Z) (g : oP Z W) : oP Y W := ⟨fun t => (h.1 t).trans (g.1 t), fun t i k => (h.2.1 t i k).trans (g.2.1 t i k), fun t i k q => (h.2.2 t i k q).trans (g.2.2 t i k q)⟩
theorem oP.sI {Y Z : zS} {t i k : Nat} {v : Int} (q : 22 ≤ t ∧ t ≤ 27 ∨ t = 7) (h : oP Y Z) : oP (sI Y t i k v) Z := ⟨h.1, h.2.1, fun t' i' k' q' => by
  rw [gI_sI, if_neg]
  · exact h.2.2 t' i' k' q'
  · rintro ⟨rfl, rfl, rfl⟩; exact q' q⟩
def sentv (M : zS) (c : Nat) : Int := if gI M 88 0 c = 0 then 0 else gI M 90 0 c
section PL
variable {P C K : Nat} {D : Int} {X M : zS}
theorem oPe {Y : zS} (h : oP Y X) {S : Nat → Nat → Bool} (hs : ∀ k, S 22 k = false ∧ S 23 k = false ∧ S 24 k = false ∧ S 25 k = false ∧ S 26 k = false ∧ S 27 k = false ∧ S 7 k = false) : eqS S Y X := fun t k hk => ⟨fun i => h.2.2 t i k (by
  intro q
  have : t = 22 ∨ t = 23 ∨ t = 24 ∨ t = 25 ∨ t = 26 ∨ t = 27 ∨ t = 7 := by omega
  have w := hs k
  rcases this with rfl | rfl | rfl | rfl | rfl | rfl | rfl
  · rw [w.1] at hk; cases hk
  · rw [w.2.1] at hk; cases hk
  · rw [w.2.2.1] at hk; cases hk
  · rw [w.2.2.2.1] at hk; cases hk
  · rw [w.2.2.2.2.1] at hk; cases hk
  · rw [w.2.2.2.2.2.1] at hk; cases hk
  · rw [w.2.2.2.2.2.2] at hk; cases hk), fun i => h.2.1 t i k⟩
theorem RR.oP {Y : zS} (hr : RR P C K D X M) (h : oP Y X) : RR P C K D Y M := by
  obtain ⟨⟨hX, hM, hN⟩, hS, hF, hB, hP, hL, hC, hK, hD, hZ⟩ := hr
  have e15 : ∀ i k, gI Y 15 i k = gI X 15 i k := fun i k => h.2.2 15 i k (by omega)
  have r := fun (t i k : Nat) => h.2.1 t i k
  exact ⟨⟨hX.cg1 (h.1 0) (fun _ _ => r _ _ _) (fun _ => r _ _ _) (fun _ => r _ _ _) (fun _ => r _ _ _) (fun _ => r _ _ _) (fun _ => r _ _ _) (fun k => h.2.2 28 0 k (by omega)), hM, hN.cg h.1 (oPe h fun _ => ⟨rfl, rfl, rfl, rfl, rfl, rfl, rfl⟩) .rf⟩,
    hS.cg (oPe h fun _ => ⟨rfl, rfl, rfl, rfl, rfl, rfl, rfl⟩) (fun k _ => e15 0 k) .rf, hF.cg (oPe h fun _ => ⟨rfl, rfl, rfl, rfl, rfl, rfl, rfl⟩) .rf, hB.cg (oPe h fun _ => ⟨rfl, rfl, rfl, rfl, rfl, rfl, rfl⟩) .rf,
    fun p hp => (hP p hp).cg (oPe h fun _ => ⟨rfl, rfl, rfl, rfl, rfl, rfl, rfl⟩) .rf, fun p hp => (hL p hp).cg (oPe h fun _ => ⟨rfl, rfl, rfl, rfl, rfl, rfl, rfl⟩) .rf, fun c hc => (hC c hc).cg (oPe h fun _ => ⟨rfl, rfl, rfl, rfl, rfl, rfl, rfl⟩) (fun k _ => e15 _ k) .rf (Int.le_refl _),
    fun k hk => (hK k hk).cg (oPe h fun _ => ⟨rfl, rfl, rfl, rfl, rfl, rfl, rfl⟩) .rf, hD, hZ⟩
theorem clerksL {nf : Nat} (κ : zS → Option (Unit × zS)) (c1 : Int) (hr : RR P C K D X M) : ∀ (m n k : Nat) (Y : zS), k + m = K → m < n → oP Y X → gI Y 7 0 2 = k → (∀ j, j < k → gI Y 22 0 j = gI X 3 j 3 ∧ gI Y 23 0 j = gI X 3 j 1) → ∃ Y', fX10_layPlan_L9 κ 0 c1 nf n Y k = κ Y' ∧ oP Y' X ∧ gI Y' 7 0 2 = K ∧ gI Y' 7 0 4 = gI Y 7 0 4 ∧ ∀ j, j < K → gI Y' 22 0 j = gI X 3 j 3 ∧ gI Y' 23 0 j = gI X 3 j 1
  | 0, n + 1, k, Y, hk, _, hY, h2, ha => by
    have hN := (hr.oP hY).1.2.2
    have : k = K := by omega
    subst this
    unfold fX10_layPlan_L9
    rw [if_neg (by rw [hN.2.2.1.2.2]; omega)]
    exact ⟨Y, rfl, hY, h2, rfl, ha⟩
  | m + 1, n + 1, k, Y, hk, hn, hY, h2, ha => by
    have hr2 := hr.oP hY
    have hX := hr2.1.1
    have hN := hr2.1.2.2
    have h16 := hN.1
    have q := hr2.2.2.2.2.2.2.2.1 k (by omega)
    have gk : (0 : Int) ≤ (k : Int) ∧ (k : Int) < 4 := by omega
    have e3 : gI Y 3 k 3 = gI X 3 k 3 := hY.2.2 3 k 3 (by omega)
    have e1 : gI Y 3 k 1 = gI X 3 k 1 := hY.2.2 3 k 1 (by omega)
    obtain ⟨Y', f1, f2, f3, f4, f5⟩ := clerksL (nf := nf) κ c1 hr m n (k + 1) (sI (sI (sI Y 22 0 k (gI X 3 k 3)) 23 0 k (gI X 3 k 1)) 7 0 2 ((k + 1 : Nat) : Int)) (by omega) (by omega) (((hY.sI (by omega)).sI (by omega)).sI (by omega)) (by simp only [gI_sI, gI_sR, gI_sN, gI_sCp, gI_sB, gR_sI, gR_sR, gR_sN, gR_sCp, gR_sB, gN_sI, gN_sR, gN_sN, gN_sCp, gN_sB, ↓reduceIte, and_true, true_and, and_false, false_and, and_self, or_true, true_or, or_false, false_or, or_self, Nat.reduceEqDiff, Int.reduceNeg, ne_eq, not_true_eq_false, not_false_eq_true, Int.toNat_natCast, reduceCtorEq, i10, i01, implies_true, true_implies, false_implies, g_t (c := True) trivial]) (fun j hj => by
      by_cases e : j = k
      · subst e; simp only [gI_sI, gI_sR, gI_sN, gI_sCp, gI_sB, gR_sI, gR_sR, gR_sN, gR_sCp, gR_sB, gN_sI, gN_sR, gN_sN, gN_sCp, gN_sB, ↓reduceIte, and_true, true_and, and_false, false_and, and_self, or_true, true_or, or_false, false_or, or_self, Nat.reduceEqDiff, Int.reduceNeg, ne_eq, not_true_eq_false, not_false_eq_true, Int.toNat_natCast, reduceCtorEq, i10, i01, implies_true, true_implies, false_implies, g_t (c := True) trivial]
      · simp only [gI_sI, gI_sR, gI_sN, gI_sCp, gI_sB, gR_sI, gR_sR, gR_sN, gR_sCp, gR_sB, gN_sI, gN_sR, gN_sN, gN_sCp, gN_sB, ↓reduceIte, and_true, true_and, and_false, false_and, and_self, or_true, true_or, or_false, false_or, or_self, Nat.reduceEqDiff, Int.reduceNeg, ne_eq, not_true_eq_false, not_false_eq_true, Int.toNat_natCast, reduceCtorEq, i10, i01, implies_true, true_implies, false_implies, g_t (c := True) trivial, e]; exact ha j (by omega))
    refine ⟨Y', ?_, f2, f3, f4.trans (by simp only [gI_sI, gI_sR, gI_sN, gI_sCp, gI_sB, gR_sI, gR_sR, gR_sN, gR_sCp, gR_sB, gN_sI, gN_sR, gN_sN, gN_sCp, gN_sB, ↓reduceIte, and_true, true_and, and_false, false_and, and_self, or_true, true_or, or_false, false_or, or_self, Nat.reduceEqDiff, Int.reduceNeg, ne_eq, not_true_eq_false, not_false_eq_true, Int.toNat_natCast, reduceCtorEq, i10, i01, implies_true, true_implies, false_implies, g_t (c := True) trivial]), f5⟩
    conv => lhs; unfold fX10_layPlan_L9
    rw [if_pos (by rw [hN.2.2.1.2.2]; omega)]
    unfold fX6_addClerk
    simp only [nm_eq, up_eq, cl_some, ob_some, oe_some, oe_none, ob_none, hX.2.1 0 (by decide), hX.2.1 1 (by decide), hX.2.1 2 (by decide), hX.2.1 3 (by decide), hX.2.1 4 (by decide), hX.2.1 5 (by decide), hX.2.1 6 (by decide), hX.2.1 7 (by decide), hX.2.1 8 (by decide), hX.2.1 9 (by decide), hX.2.2.1.1, hX.2.2.1.2, hX.2.2.2.1.1, hX.2.2.2.1.2, hX.2.2.2.2.1, hX.2.2.2.2.2.1.1, hX.2.2.2.2.2.1.2.1, hX.2.2.2.2.2.1.2.2, hX.2.2.2.2.2.2.1.1, hX.2.2.2.2.2.2.1.2.1, hX.2.2.2.2.2.2.1.2.2.1, hX.2.2.2.2.2.2.1.2.2.2.1, hX.2.2.2.2.2.2.1.2.2.2.2.1, hX.2.2.2.2.2.2.1.2.2.2.2.2.1, hX.2.2.2.2.2.2.1.2.2.2.2.2.2, g_t gk, Int.toNat_natCast, q.1.1, h2, e3, e1, gI_sI, gI_sR, gI_sN, gI_sCp, gI_sB, gR_sI, gR_sR, gR_sN, gR_sCp, gR_sB, gN_sI, gN_sR, gN_sN, gN_sCp, gN_sB, ↓reduceIte, and_true, true_and, and_false, false_and, and_self, or_true, true_or, or_false, false_or, or_self, Nat.reduceEqDiff, Int.reduceNeg, ne_eq, not_true_eq_false, not_false_eq_true, Int.toNat_natCast, reduceCtorEq, i10, i01, implies_true, true_implies, false_implies, g_t (c := True) trivial, nat_wr k (by omega)]
    rw [if_pos (by omega)]
    simp only [nm_eq, up_eq, cl_some, ob_some, oe_some, oe_none, ob_none, g_t gk, Int.toNat_natCast, gI_sI, gI_sR, gI_sN, gI_sCp, gI_sB, gR_sI, gR_sR, gR_sN, gR_sCp, gR_sB, gN_sI, gN_sR, gN_sN, gN_sCp, gN_sB, ↓reduceIte, and_true, true_and, and_false, false_and, and_self, or_true, true_or, or_false, false_or, or_self, Nat.reduceEqDiff, Int.reduceNeg, ne_eq, not_true_eq_false, not_false_eq_true, Int.toNat_natCast, reduceCtorEq, i10, i01, implies_true, true_implies, false_implies, g_t (c := True) trivial, h2, nat_wr k (by omega)]
    exact f1
theorem amL {nf : Nat} (κ : zS → Int → Option (Unit × zS)) (c1 : Int) (hr : RR P C K D X M) (h2 : gI X 7 0 2 = K) : ∀ (m n k : Nat), k + m = K → m < n → 0 < k → fX6_layPlaces_L14 κ 0 c1 nf n X (am (fun j => gI X 22 0 j) k : Nat) (k : Int) = κ X (am (fun j => gI X 22 0 j) K : Nat)
  | 0, n + 1, k, hk, _, _ => by
    have : k = K := by omega
    subst this
    unfold fX6_layPlaces_L14
    rw [if_neg (by rw [h2]; omega)]
  | m + 1, n + 1, k, hk, hn, h0 => by
    have hX := hr.1.1
    have h16 := hr.1.2.2.1
    have ih := amL (nf := nf) κ c1 hr h2 m n (k + 1) (by omega) (by omega) (by omega)
    have a := am_lt (fun j => gI X 22 0 j) k h0
    unfold fX6_layPlaces_L14
    rw [if_pos (by rw [h2]; omega)]
    simp only [nm_eq, up_eq, cl_some, ob_some, oe_some, oe_none, ob_none, hX.2.1 0 (by decide), hX.2.1 1 (by decide), hX.2.1 2 (by decide), hX.2.1 3 (by decide), hX.2.1 4 (by decide), hX.2.1 5 (by decide), hX.2.1 6 (by decide), hX.2.1 7 (by decide), hX.2.1 8 (by decide), hX.2.1 9 (by decide), hX.2.2.1.1, hX.2.2.1.2, hX.2.2.2.1.1, hX.2.2.2.1.2, hX.2.2.2.2.1, hX.2.2.2.2.2.1.1, hX.2.2.2.2.2.1.2.1, hX.2.2.2.2.2.1.2.2, hX.2.2.2.2.2.2.1.1, hX.2.2.2.2.2.2.1.2.1, hX.2.2.2.2.2.2.1.2.2.1, hX.2.2.2.2.2.2.1.2.2.2.1, hX.2.2.2.2.2.2.1.2.2.2.2.1, hX.2.2.2.2.2.2.1.2.2.2.2.2.1, hX.2.2.2.2.2.2.1.2.2.2.2.2.2, g_t (show (0 : Int) ≤ (k : Int) ∧ (k : Int) < 4 by omega), g_t (show (0 : Int) ≤ ((am (fun j => gI X 22 0 j) k : Nat) : Int) ∧ ((am (fun j => gI X 22 0 j) k : Nat) : Int) < 4 by omega), Int.toNat_natCast, nat_wr k (by omega)]
    have e : am (fun j => gI X 22 0 j) (k + 1) = if gI X 22 0 k < gI X 22 0 (am (fun j => gI X 22 0 j) k) then k else am (fun j => gI X 22 0 j) k := rfl
    rw [e] at ih
    by_cases c : gI X 22 0 k < gI X 22 0 (am (fun j => gI X 22 0 j) k)
    · rw [if_pos c] at ih ⊢; exact ih
    · rw [if_neg c] at ih ⊢; exact ih
end PL
