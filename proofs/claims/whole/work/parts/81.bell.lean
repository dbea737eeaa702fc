/-! ===== a bell is rung; loops over coins as whole arrays ===== -/
theorem tm300 (a : Int) (h : 0 ≤ a) (h2 : a ≤ 1000) : Int.tmod (wr a) 300 = a % 300 := by rw [wr_id (by unfold zin; omega), Int.tmod_eq_emod_of_nonneg h]
theorem sB_ext {σ : zS} {t i : Nat} {f g : Nat → Int} (h : ∀ k, f k = g k) : sB σ t i f = sB σ t i g := by rw [show f = g from funext h]
theorem sB_self {σ : zS} {t i : Nat} {f : Nat → Int} (h : ∀ k, f k = gI σ t i k) : sB σ t i f = σ := by
  refine zS_ext (fun _ => rfl) (fun t' i' k' => ?_) (fun _ _ _ => rfl)
  rw [gI_sB]
  by_cases c : t' = t ∧ i' = i
  · rw [if_pos c, c.1, c.2]; exact h k'
  · rw [if_neg c]
theorem sB_sI {σ : zS} {t i k : Nat} {v : Int} {f : Nat → Int} : sB (sI σ t i k v) t i f = sB σ t i f := by
  refine zS_ext (fun _ => rfl) (fun t' i' k' => ?_) (fun _ _ _ => rfl)
  rw [gI_sB, gI_sB, gI_sI]
  by_cases c : t' = t ∧ i' = i
  · rw [if_pos c, if_pos c]
  · rw [if_neg c, if_neg c, if_neg (fun q => c ⟨q.1, q.2.1⟩)]
theorem onl_sB {Y' Y : zS} {a : Nat} {f : Nat → Int} (h : onl (fun t j _ => t = 15 ∧ j = a) Y' Y) (hf : ∀ j, gI Y' 15 a j = f j) : Y' = sB Y 15 a f := by
  refine zS_ext h.1 (fun t' i' k' => ?_) h.2.1
  rw [gI_sB]
  by_cases c : t' = 15 ∧ i' = a
  · rw [if_pos c, c.1, c.2]; exact hf k'
  · rw [if_neg c]; exact h.2.2 t' i' k' c
theorem emptyB {Y : zS} {i a nf : Nat} (hnf : 1000 ≤ nf) (h : gR Y 4 i 0 = some a) : fX3_empty nf Y i = some ((), sB Y 15 a fun j => if j < 6 then 0 else gI Y 15 a j) := by
  obtain ⟨Y', a1, a2, a3⟩ := emptyL (i := i) 6 nf 0 Y (by omega) (by omega) h
  have e : Y' = sB Y 15 a fun j => if j < 6 then 0 else gI Y 15 a j := onl_sB a2 fun j => by rw [a3]; simp only [Nat.zero_le, true_and]
  rw [← e]; exact a1
theorem putB {Y : zS} {i a b nf : Nat} (hnf : 1000 ≤ nf) (hab : a ≠ b) (h : gR Y 4 i 0 = some a) : fX3_put nf Y i (some b) = some ((), sB Y 15 a fun j => if j < 6 then wr (gI Y 15 a j + gI Y 15 b j) else gI Y 15 a j) := by
  obtain ⟨Y', a1, a2, a3⟩ := putL (i := i) hab 6 nf 0 Y (by omega) (by omega) h
  have e : Y' = sB Y 15 a fun j => if j < 6 then wr (gI Y 15 a j + gI Y 15 b j) else gI Y 15 a j := onl_sB a2 fun j => by rw [a3]; simp only [Nat.zero_le, true_and]
  rw [← e]; exact a1
theorem takeB {Y : zS} {i a b nf : Nat} (hnf : 1000 ≤ nf) (hab : a ≠ b) (h : gR Y 4 i 0 = some a) : fX3_take nf Y i (some b) = some ((), sB Y 15 a fun j => if j < 6 then wr (gI Y 15 a j - gI Y 15 b j) else gI Y 15 a j) := by
  obtain ⟨Y', a1, a2, a3⟩ := takeL (i := i) hab 6 nf 0 Y (by omega) (by omega) h
  have e : Y' = sB Y 15 a fun j => if j < 6 then wr (gI Y 15 a j - gI Y 15 b j) else gI Y 15 a j := onl_sB a2 fun j => by rw [a3]; simp only [Nat.zero_le, true_and]
  rw [← e]; exact a1
theorem homeL {nf c : Nat} (hc : c < 24) (κ : zS → Option (Unit × zS)) (h : Int) : ∀ (m n k : Nat) (N : zS), k + m = 6 → m < n → gR N 64 0 25 = some 0 → fX11_comeHome_L36 κ 0 (c : Int) h nf n N (k : Int) = κ (sB N 91 0 fun j => if 6 * c + k ≤ j ∧ j < 6 * c + 6 then 0 else gI N 91 0 j)
  | 0, n + 1, k, N, hk, _, _ => by
    unfold fX11_comeHome_L36
    rw [if_neg (by omega), sB_self (fun j => if_neg (by omega))]
  | m + 1, n + 1, k, N, hk, hn, hr => by
    have g : (0 : Int) ≤ ((6 * c + k : Nat) : Int) ∧ ((6 * c + k : Nat) : Int) < 144 := by omega
    have ih := homeL (nf := nf) hc κ h m n (k + 1) (sI N 91 0 (6 * c + k) 0) (by omega) (by omega) hr
    rw [sB_sI] at ih
    conv => lhs; unfold fX11_comeHome_L36
    rw [if_pos (by omega)]
    simp only [nm_eq, up_eq, cl_some, ob_some, oe_some, oe_none, ob_none, hr, wr6 c k (by omega) (by omega), g_t g, Int.toNat_natCast, nat_wr k (by omega)]
    refine ih.trans (congrArg κ (sB_ext fun j => ?_))
    rw [gI_sI]
    by_cases e : j = 6 * c + k
    · rw [if_neg (by omega), if_pos ⟨rfl, rfl, e⟩, if_pos (by omega)]
    · by_cases d : 6 * c + (k + 1) ≤ j ∧ j < 6 * c + 6
      · rw [if_pos d, if_pos (by omega)]
      · rw [if_neg d, if_neg (fun q => e q.2.2), if_neg (by omega)]
section BL
variable {P C K : Nat} {D : Int} {X M : zS}
theorem RB_wr (hB : RB X M) (v w : Int) (j : Nat) : ∀ i, i < 300 → (if i = j then v else gI X 20 0 i) = (if i = j then v else gI M 115 0 i) ∧ (if i = j then w else gI X 21 0 i) = (if i = j then w else gI M 116 0 i) := by
  intro i hi
  have q := hB.2.2.2 i hi
  by_cases e : i = j
  · simp only [e, ↓reduceIte, and_true, true_and, and_false, false_and, and_self, or_true, true_or, or_false, false_or, or_self, Nat.reduceEqDiff, Int.reduceNeg, ne_eq, not_true_eq_false, not_false_eq_true, Int.toNat_natCast, reduceCtorEq, i10, i01, implies_true, true_implies, false_implies, g_t (c := True) trivial]
  · simp only [e, ↓reduceIte, and_true, true_and, and_false, false_and, and_self, or_true, true_or, or_false, false_or, or_self, Nat.reduceEqDiff, Int.reduceNeg, ne_eq, not_true_eq_false, not_false_eq_true, Int.toNat_natCast, reduceCtorEq, i10, i01, implies_true, true_implies, false_implies, g_t (c := True) trivial]; exact q
theorem ring_both (hr : RR P C K D X M) {p : Nat} (hp : p < P) : ∃ X' M', fX10_ringAt X 0 (some p) = some ((), X') ∧ fX11_ring M 0 p = some ((), M') ∧ RR P C K D X' M' ∧ gI M' 64 0 13 = gI M 64 0 13 := by
  have hr0 := hr
  obtain ⟨⟨hX, hM, hN⟩, hS, hF, hB, hP, hL, hC, hK, hD, hZ⟩ := hr
  have h16 := hN.1
  have gp : (0 : Int) ≤ (p : Int) ∧ (p : Int) < 16 := by omega
  obtain ⟨q1, q2, q3, q4, q5, q6, q7, q8, q9, -⟩ := hP p hp
  obtain ⟨⟨b1, b2, b3⟩, ⟨b4, b5, b6⟩, b7, b8⟩ := id hB
  unfold fX10_ringAt fX11_ring fX0_ring
  simp only [nm_eq, up_eq, cl_some, ob_some, oe_some, oe_none, ob_none, hX.2.1 0 (by decide), hX.2.1 1 (by decide), hX.2.1 2 (by decide), hX.2.1 3 (by decide), hX.2.1 4 (by decide), hX.2.1 5 (by decide), hX.2.1 6 (by decide), hX.2.1 7 (by decide), hX.2.1 8 (by decide), hX.2.1 9 (by decide), hX.2.2.1.1, hX.2.2.1.2, hX.2.2.2.1.1, hX.2.2.2.1.2, hX.2.2.2.2.1, hX.2.2.2.2.2.1.1, hX.2.2.2.2.2.1.2.1, hX.2.2.2.2.2.1.2.2, hX.2.2.2.2.2.2.1.1, hX.2.2.2.2.2.2.1.2.1, hX.2.2.2.2.2.2.1.2.2.1, hX.2.2.2.2.2.2.1.2.2.2.1, hX.2.2.2.2.2.2.1.2.2.2.2.1, hX.2.2.2.2.2.2.1.2.2.2.2.2.1, hX.2.2.2.2.2.2.1.2.2.2.2.2.2, hM.2 10 rfl, hM.2 49 rfl, hM.2 50 rfl, g_t gp, Int.toNat_natCast, q9.1, q1.2.1, hS.1.1, b1, b4]
  by_cases s : gI M 76 0 p = 0
  · rw [if_pos s, if_pos s]
    by_cases f : gI M 64 0 47 = 300
    · have t1 : Int.tmod (wr (gI M 64 0 48 + gI M 64 0 47)) 300 = gI M 64 0 48 := by rw [tm300 _ (by omega) (by omega), f]; omega
      obtain ⟨j, hj⟩ : ∃ j : Nat, gI M 64 0 48 = j := ⟨(gI M 64 0 48).toNat, by clear t1; omega⟩
      have gj : (0 : Int) ≤ (j : Int) ∧ (j : Int) < 300 := by clear t1; omega
      have t2 : Int.tmod (wr ((j : Int) + 1)) 300 = ((j : Int) + 1) % 300 := by
        clear t1
        exact tm300 _ (by omega) (by omega)
      rw [hj] at t1 b1 b2 b3 b7
      simp only [hj, f] at t1 b4 b5 b6 b7 ⊢
      simp only [gI_sI, gI_sR, gI_sN, gI_sCp, gI_sB, gR_sI, gR_sR, gR_sN, gR_sCp, gR_sB, gN_sI, gN_sR, gN_sN, gN_sCp, gN_sB, ↓reduceIte, and_true, true_and, and_false, false_and, and_self, or_true, true_or, or_false, false_or, or_self, Nat.reduceEqDiff, Int.reduceNeg, ne_eq, not_true_eq_false, not_false_eq_true, Int.toNat_natCast, reduceCtorEq, i10, i01, implies_true, true_implies, false_implies, g_t (c := True) trivial, nm_eq, up_eq, cl_some, ob_some, oe_some, oe_none, ob_none, t1, t2, g_t gj, Int.toNat_natCast, b1, b4, hX.2.2.1.1, hX.2.2.1.2, hM.2 49 rfl, hM.2 50 rfl, hj]
      clear t1 t2
      refine ⟨_, _, rfl, rfl, ⟨⟨hX.cg rfl (by repeat first | exact .rf | refine eqS_sI rfl ?_ | refine eqS_sR rfl ?_ | refine eqS_sB (fun _ => rfl) ?_ | refine eqS_sN (fun _ => rfl) ?_), hM.cg rfl (by repeat first | exact .rf | refine eqS_sI rfl ?_ | refine eqS_sR rfl ?_ | refine eqS_sB (fun _ => rfl) ?_ | refine eqS_sN (fun _ => rfl) ?_), hN.cg (fun _ => rfl) (by repeat first | exact .rf | refine eqS_sI rfl ?_ | refine eqS_sR rfl ?_ | refine eqS_sB (fun _ => rfl) ?_ | refine eqS_sN (fun _ => rfl) ?_) (by repeat first | exact .rf | refine eqS_sI rfl ?_ | refine eqS_sR rfl ?_ | refine eqS_sB (fun _ => rfl) ?_ | refine eqS_sN (fun _ => rfl) ?_)⟩, hS.cg (by repeat first | exact .rf | refine eqS_sI rfl ?_ | refine eqS_sR rfl ?_ | refine eqS_sB (fun _ => rfl) ?_ | refine eqS_sN (fun _ => rfl) ?_) (fun _ _ => rfl) (by repeat first | exact .rf | refine eqS_sI rfl ?_ | refine eqS_sR rfl ?_ | refine eqS_sB (fun _ => rfl) ?_ | refine eqS_sN (fun _ => rfl) ?_), hF.cg (by repeat first | exact .rf | refine eqS_sI rfl ?_ | refine eqS_sR rfl ?_ | refine eqS_sB (fun _ => rfl) ?_ | refine eqS_sN (fun _ => rfl) ?_) (by repeat first | exact .rf | refine eqS_sI rfl ?_ | refine eqS_sR rfl ?_ | refine eqS_sB (fun _ => rfl) ?_ | refine eqS_sN (fun _ => rfl) ?_), ?_, fun p' hp' => (hP p' hp').cg (by repeat first | exact .rf | refine eqS_sI rfl ?_ | refine eqS_sR rfl ?_ | refine eqS_sB (fun _ => rfl) ?_ | refine eqS_sN (fun _ => rfl) ?_) (by repeat first | exact .rf | refine eqS_sI rfl ?_ | refine eqS_sR rfl ?_ | refine eqS_sB (fun _ => rfl) ?_ | refine eqS_sN (fun _ => rfl) ?_), fun p' hp' => (hL p' hp').cg (by repeat first | exact .rf | refine eqS_sI rfl ?_ | refine eqS_sR rfl ?_ | refine eqS_sB (fun _ => rfl) ?_ | refine eqS_sN (fun _ => rfl) ?_) (by repeat first | exact .rf | refine eqS_sI rfl ?_ | refine eqS_sR rfl ?_ | refine eqS_sB (fun _ => rfl) ?_ | refine eqS_sN (fun _ => rfl) ?_), fun c' hc' => (hC c' hc').cg (by repeat first | exact .rf | refine eqS_sI rfl ?_ | refine eqS_sR rfl ?_ | refine eqS_sB (fun _ => rfl) ?_ | refine eqS_sN (fun _ => rfl) ?_) (fun _ _ => rfl) (by repeat first | exact .rf | refine eqS_sI rfl ?_ | refine eqS_sR rfl ?_ | refine eqS_sB (fun _ => rfl) ?_ | refine eqS_sN (fun _ => rfl) ?_) (Int.le_refl _), fun k' hk' => (hK k' hk').cg (by repeat first | exact .rf | refine eqS_sI rfl ?_ | refine eqS_sR rfl ?_ | refine eqS_sB (fun _ => rfl) ?_ | refine eqS_sN (fun _ => rfl) ?_) (by repeat first | exact .rf | refine eqS_sI rfl ?_ | refine eqS_sR rfl ?_ | refine eqS_sB (fun _ => rfl) ?_ | refine eqS_sN (fun _ => rfl) ?_), hD.cg (by repeat first | exact .rf | refine eqS_sI rfl ?_ | refine eqS_sR rfl ?_ | refine eqS_sB (fun _ => rfl) ?_ | refine eqS_sN (fun _ => rfl) ?_), (by repeat first | exact hZ | refine RZ.sI (by first | rfl | (simp [zZ]; omega)) ?_)⟩, by simp only [gI_sI, gI_sR, gI_sN, gI_sCp, gI_sB, gR_sI, gR_sR, gR_sN, gR_sCp, gR_sB, gN_sI, gN_sR, gN_sN, gN_sCp, gN_sB, ↓reduceIte, and_true, true_and, and_false, false_and, and_self, or_true, true_or, or_false, false_or, or_self, Nat.reduceEqDiff, Int.reduceNeg, ne_eq, not_true_eq_false, not_false_eq_true, Int.toNat_natCast, reduceCtorEq, i10, i01, implies_true, true_implies, false_implies, g_t (c := True) trivial]⟩
      unfold RB
      simp only [gI_sI, gI_sR, gI_sN, gI_sCp, gI_sB, gR_sI, gR_sR, gR_sN, gR_sCp, gR_sB, gN_sI, gN_sR, gN_sN, gN_sCp, gN_sB, ↓reduceIte, and_true, true_and, and_false, false_and, and_self, or_true, true_or, or_false, false_or, or_self, Nat.reduceEqDiff, Int.reduceNeg, ne_eq, not_true_eq_false, not_false_eq_true, Int.toNat_natCast, reduceCtorEq, i10, i01, implies_true, true_implies, false_implies, g_t (c := True) trivial]
      exact ⟨by omega, by omega, by omega, RB_wr hB p (gI M 64 0 13) j⟩
    · have z : gI M 64 0 48 = 0 := b7 (by omega)
      obtain ⟨j, hj⟩ : ∃ j : Nat, gI M 64 0 47 = j := ⟨(gI M 64 0 47).toNat, by omega⟩
      have gj : (0 : Int) ≤ (j : Int) ∧ (j : Int) < 300 := by omega
      have nf : ¬ (j : Int) = 300 := by omega
      have lt : (j : Int) < 300 := by omega
      have jl : j < 1000000 := by omega
      have t1 : Int.tmod (wr (0 + (j : Int))) 300 = (j : Int) := by rw [tm300 _ (by omega) (by omega)]; omega
      rw [hj] at b4 b5 b6 b7
      simp only [hj, z, nf, ↓reduceIte, and_true, true_and, and_false, false_and, and_self, or_true, true_or, or_false, false_or, or_self, Nat.reduceEqDiff, Int.reduceNeg, ne_eq, not_true_eq_false, not_false_eq_true, Int.toNat_natCast, reduceCtorEq, i10, i01, implies_true, true_implies, false_implies, g_t (c := True) trivial] at b1 b2 b3 ⊢
      simp only [gI_sI, gI_sR, gI_sN, gI_sCp, gI_sB, gR_sI, gR_sR, gR_sN, gR_sCp, gR_sB, gN_sI, gN_sR, gN_sN, gN_sCp, gN_sB, ↓reduceIte, and_true, true_and, and_false, false_and, and_self, or_true, true_or, or_false, false_or, or_self, Nat.reduceEqDiff, Int.reduceNeg, ne_eq, not_true_eq_false, not_false_eq_true, Int.toNat_natCast, reduceCtorEq, i10, i01, implies_true, true_implies, false_implies, g_t (c := True) trivial, nm_eq, up_eq, cl_some, ob_some, oe_some, oe_none, ob_none, t1, g_t gj, Int.toNat_natCast, b1, b4, hX.2.2.1.1, hX.2.2.1.2, hM.2 49 rfl, hM.2 50 rfl, hj, lt, nat_wr j jl]
      clear t1
      refine ⟨_, _, rfl, rfl, ⟨⟨hX.cg rfl (by repeat first | exact .rf | refine eqS_sI rfl ?_ | refine eqS_sR rfl ?_ | refine eqS_sB (fun _ => rfl) ?_ | refine eqS_sN (fun _ => rfl) ?_), hM.cg rfl (by repeat first | exact .rf | refine eqS_sI rfl ?_ | refine eqS_sR rfl ?_ | refine eqS_sB (fun _ => rfl) ?_ | refine eqS_sN (fun _ => rfl) ?_), hN.cg (fun _ => rfl) (by repeat first | exact .rf | refine eqS_sI rfl ?_ | refine eqS_sR rfl ?_ | refine eqS_sB (fun _ => rfl) ?_ | refine eqS_sN (fun _ => rfl) ?_) (by repeat first | exact .rf | refine eqS_sI rfl ?_ | refine eqS_sR rfl ?_ | refine eqS_sB (fun _ => rfl) ?_ | refine eqS_sN (fun _ => rfl) ?_)⟩, hS.cg (by repeat first | exact .rf | refine eqS_sI rfl ?_ | refine eqS_sR rfl ?_ | refine eqS_sB (fun _ => rfl) ?_ | refine eqS_sN (fun _ => rfl) ?_) (fun _ _ => rfl) (by repeat first | exact .rf | refine eqS_sI rfl ?_ | refine eqS_sR rfl ?_ | refine eqS_sB (fun _ => rfl) ?_ | refine eqS_sN (fun _ => rfl) ?_), hF.cg (by repeat first | exact .rf | refine eqS_sI rfl ?_ | refine eqS_sR rfl ?_ | refine eqS_sB (fun _ => rfl) ?_ | refine eqS_sN (fun _ => rfl) ?_) (by repeat first | exact .rf | refine eqS_sI rfl ?_ | refine eqS_sR rfl ?_ | refine eqS_sB (fun _ => rfl) ?_ | refine eqS_sN (fun _ => rfl) ?_), ?_, fun p' hp' => (hP p' hp').cg (by repeat first | exact .rf | refine eqS_sI rfl ?_ | refine eqS_sR rfl ?_ | refine eqS_sB (fun _ => rfl) ?_ | refine eqS_sN (fun _ => rfl) ?_) (by repeat first | exact .rf | refine eqS_sI rfl ?_ | refine eqS_sR rfl ?_ | refine eqS_sB (fun _ => rfl) ?_ | refine eqS_sN (fun _ => rfl) ?_), fun p' hp' => (hL p' hp').cg (by repeat first | exact .rf | refine eqS_sI rfl ?_ | refine eqS_sR rfl ?_ | refine eqS_sB (fun _ => rfl) ?_ | refine eqS_sN (fun _ => rfl) ?_) (by repeat first | exact .rf | refine eqS_sI rfl ?_ | refine eqS_sR rfl ?_ | refine eqS_sB (fun _ => rfl) ?_ | refine eqS_sN (fun _ => rfl) ?_), fun c' hc' => (hC c' hc').cg (by repeat first | exact .rf | refine eqS_sI rfl ?_ | refine eqS_sR rfl ?_ | refine eqS_sB (fun _ => rfl) ?_ | refine eqS_sN (fun _ => rfl) ?_) (fun _ _ => rfl) (by repeat first | exact .rf | refine eqS_sI rfl ?_ | refine eqS_sR rfl ?_ | refine eqS_sB (fun _ => rfl) ?_ | refine eqS_sN (fun _ => rfl) ?_) (Int.le_refl _), fun k' hk' => (hK k' hk').cg (by repeat first | exact .rf | refine eqS_sI rfl ?_ | refine eqS_sR rfl ?_ | refine eqS_sB (fun _ => rfl) ?_ | refine eqS_sN (fun _ => rfl) ?_) (by repeat first | exact .rf | refine eqS_sI rfl ?_ | refine eqS_sR rfl ?_ | refine eqS_sB (fun _ => rfl) ?_ | refine eqS_sN (fun _ => rfl) ?_), hD.cg (by repeat first | exact .rf | refine eqS_sI rfl ?_ | refine eqS_sR rfl ?_ | refine eqS_sB (fun _ => rfl) ?_ | refine eqS_sN (fun _ => rfl) ?_), (by repeat first | exact hZ | refine RZ.sI (by first | rfl | (simp [zZ]; omega)) ?_)⟩, by simp only [gI_sI, gI_sR, gI_sN, gI_sCp, gI_sB, gR_sI, gR_sR, gR_sN, gR_sCp, gR_sB, gN_sI, gN_sR, gN_sN, gN_sCp, gN_sB, ↓reduceIte, and_true, true_and, and_false, false_and, and_self, or_true, true_or, or_false, false_or, or_self, Nat.reduceEqDiff, Int.reduceNeg, ne_eq, not_true_eq_false, not_false_eq_true, Int.toNat_natCast, reduceCtorEq, i10, i01, implies_true, true_implies, false_implies, g_t (c := True) trivial]⟩
      unfold RB
      simp only [gI_sI, gI_sR, gI_sN, gI_sCp, gI_sB, gR_sI, gR_sR, gR_sN, gR_sCp, gR_sB, gN_sI, gN_sR, gN_sN, gN_sCp, gN_sB, ↓reduceIte, and_true, true_and, and_false, false_and, and_self, or_true, true_or, or_false, false_or, or_self, Nat.reduceEqDiff, Int.reduceNeg, ne_eq, not_true_eq_false, not_false_eq_true, Int.toNat_natCast, reduceCtorEq, i10, i01, implies_true, true_implies, false_implies, g_t (c := True) trivial]
      exact ⟨by omega, by omega, by omega, RB_wr hB p (gI M 64 0 13) j⟩
  · rw [if_neg s, if_neg s]
    exact ⟨_, _, rfl, rfl, hr0, rfl⟩
end BL
