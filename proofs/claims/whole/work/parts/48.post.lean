/-! ===== a new post ===== -/
section PO
variable {P C K : Nat} {D : Int} {X M X' M' : zS}
theorem wr2' (a : Int) (h : 0 ≤ a) (h2 : a < 1000) : wr (2 * a) = 2 * a ∧ wr (wr (2 * a) + 1) = 2 * a + 1 := by
  have e : wr (2 * a) = 2 * a := wr_id (by unfold zin; omega)
  exact ⟨e, by rw [e]; exact wr_id (by unfold zin; omega)⟩
theorem wr2 (k : Nat) (h : k < 1000) : wr (2 * (k : Int)) = ((2 * k : Nat) : Int) := (wr2' k (by omega) (by omega)).1.trans (by omega)
theorem wr21 (k : Nat) (h : k < 1000) : wr (wr (2 * (k : Int)) + 1) = ((2 * k + 1 : Nat) : Int) := (wr2' k (by omega) (by omega)).2.trans (by omega)
theorem below_up (hr : RR P C K D X M) (e : ∀ k, k < P → gI M' 67 0 k = gI M 67 0 k) (p : Nat) : ∀ n q, q < P → below M' n q p = below M n q p
  | 0, q, _ => rfl
  | n + 1, q, hq => by
    unfold below
    rw [e q hq]
    by_cases h0 : q = 0
    · subst h0; simp
    · obtain ⟨r, r1, r2, -⟩ := par hr (by omega) hq
      rw [r2, Int.toNat_natCast, below_up hr e p n r (by omega)]
theorem below_lt (hr : RR P C K D X M) {p : Nat} : ∀ n q, q < P → q < p → below M n q p = false
  | 0, q, _, hp => by unfold below; simp; omega
  | n + 1, q, hq, hp => by
    unfold below
    have e : (q == p) = false := by simp; omega
    by_cases h0 : q = 0
    · subst h0; simp; omega
    · obtain ⟨r, r1, r2, -⟩ := par hr (by omega) hq
      rw [r2, Int.toNat_natCast, below_lt hr n r (by omega) (by omega), e]
      simp
theorem ldS_up (hr : RR P C K D X M) (e : ∀ k, k < P → gI M' 67 0 k = gI M 67 0 k) (e2 : ∀ k, gI M' 124 0 k = gI M 124 0 k) (p h : Nat) : ∀ n, n ≤ P → ldS M' p h n = ldS M p h n
  | 0, _ => rfl
  | n + 1, hn => by
    rw [ldS_s, ldS_s, ldS_up hr e e2 p h n (by omega), below_up hr e p 16 n (by omega), e2]
theorem ldS_lt (hr : RR P C K D X M) {p : Nat} (h : Nat) : ∀ n, n ≤ P → n ≤ p → ldS M p h n = 0
  | 0, _, _ => rfl
  | n + 1, hn, hp => by
    rw [ldS_s, ldS_lt hr h n (by omega) (by omega), below_lt hr 16 n (by omega) (by omega)]
    simp
theorem RC.post {c : Nat} (h : RC P C K X M c) (e12 : gR X' 12 0 c = gR X 12 0 c) (e5 : ∀ k, gI X' 5 c k = gI X 5 c k) (r5 : ∀ k, gR X' 5 c k = gR X 5 c k) (r4 : gR X' 4 (c + 1) 0 = gR X 4 (c + 1) 0) (e15 : ∀ k, gI X' 15 (c + 3) k = gI X 15 (c + 3) k)
    (f : ∀ t, t = 81 ∨ t = 82 ∨ t = 83 ∨ t = 84 ∨ t = 85 ∨ t = 86 ∨ t = 87 ∨ t = 88 ∨ t = 89 ∨ t = 90 ∨ t = 109 ∨ t = 91 ∨ t = 102 → ∀ k, gI M' t 0 k = gI M t 0 k) (fs : ∀ t k, t = 67 ∨ t = 68 ∨ t = 69 → k < P → gI M' t 0 k = gI M t 0 k)
    (fc : gI M' 64 0 13 = gI M 64 0 13) : RC (P + 1) C K X' M' c := by
  unfold RC at h ⊢
  simp only [e12, e5, r5, r4, e15, fc, f 81 (by simp), f 82 (by simp), f 83 (by simp), f 84 (by simp), f 85 (by simp), f 86 (by simp), f 87 (by simp), f 88 (by simp), f 89 (by simp), f 90 (by simp), f 109 (by simp), f 91 (by simp), f 102 (by simp)]
  obtain ⟨h1, h2, h3, h4, h5, h6, h7, h8, h9, h10, h11, h12, h13, h14, h15, h16, h17, h18, h19, h20, h21, h22, h23, h24, h25⟩ := h
  have s68 : gI M 82 0 c = 1 ∨ gI M 82 0 c = 2 ∨ gI M 82 0 c = 5 → gI M' 68 0 (gI M 83 0 c).toNat = gI M 68 0 (gI M 83 0 c).toNat := fun q => fs 68 _ (by simp) (by have := h5 q; omega)
  have up : ∀ z : Int, z < P → z < ((P + 1 : Nat) : Int) := fun z hz => by omega
  refine ⟨h1, ⟨h2.1, h2.2.1, up _ h2.2.2.1, ?_⟩, h3, h4, fun q => ⟨(h5 q).1, (h5 q).2.1, up _ (h5 q).2.2⟩, h6, h7, h8, fun q => ?_, fun q => ?_, fun q => ?_, h12, h13, h14, h15, fun q => ?_, h17, h18, h19, h20, h21, h22, h23, h24, fun q => ?_⟩
  · rw [fs 68 _ (by simp) (by have := h2.2.2.1; omega)]; exact h2.2.2.2
  · rw [s68 (Or.inl q.1)] at q
    have a := h9 q
    rw [fs 67 _ (by simp) (by have := a.2.2.1; omega)]
    exact ⟨a.1, a.2.1, up _ a.2.2.1, a.2.2.2⟩
  · refine h10 fun q2 => q ?_
    rw [s68 (Or.inl q2.1)]; exact q2
  · have a := h11 q
    rw [s68 (Or.inl q.1)]
    refine ⟨a.1, ?_, a.2.2⟩
    rcases a.2.1 with b | b
    · exact Or.inl b
    · rw [fs 67 _ (by simp) (by have := b.2.1; omega)]
      exact Or.inr ⟨b.1, up _ b.2.1, b.2.2⟩
  · have a := h16 q
    rw [fs 69 _ (by simp) (by have := h5 (Or.inr (Or.inl q)); omega)]
    exact a
  · rw [s68 (Or.inr (Or.inr q))]; exact h25 q
theorem P_post {X M : zS} (h : zR X M) {nf : Nat} (hnf : 1000 ≤ nf) (x1 x2 x3 x4 x5 : Int) (h1 : zin x1) (h2 : x2 = 0 ∨ x2 = 1) (h3 : zin x3) (h4 : zin x4) (h5 : x5 = 0 ∨ x5 = 1) : ∃ r X' M', fX10_post X 0 x1 x2 x3 x4 x5 = some (r, X') ∧ fX11_post M 0 x1 x2 x3 x4 x5 = some (r, M') ∧ zR X' M' := by
  obtain ⟨P, C, K, hr⟩ := id h
  obtain ⟨⟨hX, hM, hN⟩, hS, hF, hB, hP, hL, hC, hK, hD, hZ⟩ := id hr
  have h16 := hN.1
  obtain ⟨so, hso, eso⟩ : ∃ so : Int, (so = 1 ∨ so = 2) ∧ ∀ {β : Type} (j : zS → Int → β) (s : zS), (if x2 = 0 then j s 1 else j s 2) = j s so := by
    by_cases e : x2 = 0
    · exact ⟨1, Or.inl rfl, fun j s => if_pos e⟩
    · exact ⟨2, Or.inr rfl, fun j s => if_neg e⟩
  unfold fX10_post fX11_post
  rcases idx0 x1 P with hx | ⟨p, hp, rfl⟩
  · simp only [findPost_out hr hx, isPost_eq hr, nm_eq, up_eq, cl_some, ob_some, oe_some, oe_none, ob_none, i10]
    rw [if_pos (by omega)]
    exact ⟨_, _, _, rfl, rfl, h⟩
  have q := hP p hp
  have hg : 0 ≤ (p : Int) ∧ (p : Int) < 16 := by omega
  simp only [eso, findPost_in hr hp, isPost_eq hr, nm_eq, up_eq, cl_some, ob_some, oe_some, oe_none, ob_none, i10, within_eq, in_eq, hM.2 2 rfl, hM.2 1 rfl, g_t hg, Int.toNat_natCast, q.2.2.2.1.1]
  rw [if_neg (by omega : ¬ ¬ (0 ≤ (p : Int) ∧ (p : Int) < P))]
  by_cases hy : ¬ (1 ≤ x3 ∧ x3 ≤ 20)
  · rw [if_pos hy, if_pos hy]; exact ⟨_, _, _, rfl, rfl, h⟩
  rw [if_neg hy, if_neg hy]
  by_cases hz : ¬ (1 ≤ x4 ∧ x4 ≤ 10)
  · rw [if_pos hz, if_pos hz]; exact ⟨_, _, _, rfl, rfl, h⟩
  rw [if_neg hz, if_neg hz]
  by_cases s : gI M 68 0 p = 2
  · rw [if_pos s, if_pos s]; exact ⟨_, _, _, rfl, rfl, h⟩
  rw [if_neg s, if_neg s]
  obtain ⟨n1, ⟨n2, n3, n4⟩, ⟨n5, n6, n7⟩, ⟨n8, n9, n10, n11⟩, ⟨n12, n13, n14⟩, n15⟩ := id hN
  rw [n2, n5]
  by_cases hf : P = 16
  · rw [if_neg (by omega), if_pos (by omega)]; exact ⟨_, _, _, rfl, rfl, h⟩
  rw [if_pos (show (P : Int) < 16 by omega), if_neg (show ¬ (P : Int) = 16 by omega)]
  have gP : (0 : Int) ≤ (P : Int) ∧ (P : Int) < 16 := by omega
  have g2 : (0 : Int) ≤ ((2 * P : Nat) : Int) ∧ ((2 * P : Nat) : Int) < 32 := by omega
  have g21 : (0 : Int) ≤ ((2 * P + 1 : Nat) : Int) ∧ ((2 * P + 1 : Nat) : Int) < 32 := by omega
  unfold fX7_init fX9_init fX8_init
  simp only [gI_sI, gI_sR, gI_sN, gI_sCp, gI_sB, gR_sI, gR_sR, gR_sN, gR_sCp, gR_sB, gN_sI, gN_sR, gN_sN, gN_sCp, gN_sB, ↓reduceIte, and_true, true_and, and_false, false_and, and_self, or_true, true_or, or_false, false_or, or_self, Nat.reduceEqDiff, Int.reduceNeg, ne_eq, not_true_eq_false, not_false_eq_true, Int.toNat_natCast, reduceCtorEq, i10, i01, implies_true, true_implies, false_implies, g_t (c := True) trivial, hX.2.1 0 (by decide), hX.2.1 1 (by decide), hX.2.1 2 (by decide), hX.2.1 3 (by decide), hX.2.1 4 (by decide), hX.2.1 5 (by decide), hX.2.1 6 (by decide), hX.2.1 7 (by decide), hX.2.1 8 (by decide), hX.2.1 9 (by decide), hX.2.2.1.1, hX.2.2.1.2, hX.2.2.2.1.1, hX.2.2.2.1.2, hX.2.2.2.2.1, hX.2.2.2.2.2.1.1, hX.2.2.2.2.2.1.2.1, hX.2.2.2.2.2.1.2.2, hX.2.2.2.2.2.2.1.1, hX.2.2.2.2.2.2.1.2.1, hX.2.2.2.2.2.2.1.2.2.1, hX.2.2.2.2.2.2.1.2.2.2.1, hX.2.2.2.2.2.2.1.2.2.2.2.1, hX.2.2.2.2.2.2.1.2.2.2.2.2.1, hX.2.2.2.2.2.2.1.2.2.2.2.2.2, hM.2 1 rfl, hM.2 2 rfl, hM.2 3 rfl, hM.2 4 rfl, hM.2 5 rfl, hM.2 6 rfl, hM.2 7 rfl, hM.2 8 rfl, hM.2 9 rfl, hM.2 10 rfl, hM.2 11 rfl, hM.2 12 rfl, hM.2 15 rfl, hM.2 16 rfl, hM.2 17 rfl, hM.2 18 rfl, hM.2 19 rfl, hM.2 20 rfl, hM.2 21 rfl, hM.2 22 rfl, hM.2 23 rfl, hM.2 24 rfl, hM.2 25 rfl, hM.2 26 rfl, hM.2 29 rfl, hM.2 30 rfl, hM.2 31 rfl, hM.2 32 rfl, hM.2 33 rfl, hM.2 35 rfl, hM.2 36 rfl, hM.2 37 rfl, hM.2 40 rfl, hM.2 41 rfl, hM.2 42 rfl, hM.2 43 rfl, hM.2 44 rfl, hM.2 45 rfl, hM.2 49 rfl, hM.2 50 rfl, hM.2 51 rfl, hM.2 53 rfl, hM.2 56 rfl, hM.2 58 rfl, nm_eq, up_eq, cl_some, ob_some, oe_some, oe_none, ob_none, n2, n5, n8, n9, n10, n11, g_t gP, g_t h5, wr2 P (by omega), nat_wr (2 * P) (by omega), g_t g2, g_t g21, nat_wr P (by omega)]
  refine ⟨_, _, _, rfl, by rw [show wr (((P + 1 : Nat) : Int) - 1) = P by rw [wr_id (by unfold zin; omega)]; omega], ?_⟩
  have hy := Decidable.not_not.mp hy
  have hz := Decidable.not_not.mp hz
  have z : ∀ t, t = 72 ∨ t = 73 ∨ t = 74 ∨ t = 75 ∨ t = 76 ∨ t = 95 ∨ t = 96 ∨ t = 98 ∨ t = 99 → gI M t 0 P = 0 := fun t ht => hZ t P (by rcases ht with rfl | rfl | rfl | rfl | rfl | rfl | rfl | rfl | rfl <;> (simp [zZ]; omega))
  have z124 : ∀ k, k < 6 → gI M 124 0 (6 * P + k) = 0 := fun k hk => hZ 124 _ (by simp [zZ]; omega)
  refine ⟨P + 1, C, K, ⟨⟨hX.cg1 rfl (fun _ _ => rfl) (fun _ => rfl) (fun _ => rfl) (fun _ => rfl) (fun _ => rfl) (fun _ => rfl) (fun _ => rfl), hM.cg rfl (by repeat first | exact .rf | refine eqS_sI rfl ?_ | refine eqS_sR rfl ?_ | refine eqS_sB (fun _ => rfl) ?_ | refine eqS_sN (fun _ => rfl) ?_), ?_⟩, hS.cg (by repeat first | exact .rf | refine eqS_sI rfl ?_ | refine eqS_sR rfl ?_ | refine eqS_sB (fun _ => rfl) ?_ | refine eqS_sN (fun _ => rfl) ?_) (fun _ _ => rfl) (by repeat first | exact .rf | refine eqS_sI rfl ?_ | refine eqS_sR rfl ?_ | refine eqS_sB (fun _ => rfl) ?_ | refine eqS_sN (fun _ => rfl) ?_), hF.cg (by repeat first | exact .rf | refine eqS_sI rfl ?_ | refine eqS_sR rfl ?_ | refine eqS_sB (fun _ => rfl) ?_ | refine eqS_sN (fun _ => rfl) ?_) (by repeat first | exact .rf | refine eqS_sI rfl ?_ | refine eqS_sR rfl ?_ | refine eqS_sB (fun _ => rfl) ?_ | refine eqS_sN (fun _ => rfl) ?_), hB.cg (by repeat first | exact .rf | refine eqS_sI rfl ?_ | refine eqS_sR rfl ?_ | refine eqS_sB (fun _ => rfl) ?_ | refine eqS_sN (fun _ => rfl) ?_) (by repeat first | exact .rf | refine eqS_sI rfl ?_ | refine eqS_sR rfl ?_ | refine eqS_sB (fun _ => rfl) ?_ | refine eqS_sN (fun _ => rfl) ?_), fun p' hp' => ?_, fun p' hp' => ?_, fun c' hc' => ?_, fun k' hk' => (hK k' hk').cg (by repeat first | exact .rf | refine eqS_sI rfl ?_ | refine eqS_sR rfl ?_ | refine eqS_sB (fun _ => rfl) ?_ | refine eqS_sN (fun _ => rfl) ?_) (by repeat first | exact .rf | refine eqS_sI rfl ?_ | refine eqS_sR rfl ?_ | refine eqS_sB (fun _ => rfl) ?_ | refine eqS_sN (fun _ => rfl) ?_), ?_, RZ.up (by repeat first | exact hZ | refine RZ.sI (by first | rfl | (simp [zZ]; omega)) ?_) (Nat.le_succ P) (Nat.le_refl C)⟩⟩
  · unfold RN
    simp only [gI_sI, gI_sR, gI_sN, gI_sCp, gI_sB, gR_sI, gR_sR, gR_sN, gR_sCp, gR_sB, gN_sI, gN_sR, gN_sN, gN_sCp, gN_sB, ↓reduceIte, and_true, true_and, and_false, false_and, and_self, or_true, true_or, or_false, false_or, or_self, Nat.reduceEqDiff, Int.reduceNeg, ne_eq, not_true_eq_false, not_false_eq_true, Int.toNat_natCast, reduceCtorEq, i10, i01, implies_true, true_implies, false_implies, g_t (c := True) trivial]
    and_intros <;> first | rfl | omega
  · by_cases e : p' = P
    · subst e
      unfold RP
      simp only [gI_sI, gI_sR, gI_sN, gI_sCp, gI_sB, gR_sI, gR_sR, gR_sN, gR_sCp, gR_sB, gN_sI, gN_sR, gN_sN, gN_sCp, gN_sB, ↓reduceIte, and_true, true_and, and_false, false_and, and_self, or_true, true_or, or_false, false_or, or_self, Nat.reduceEqDiff, Int.reduceNeg, ne_eq, not_true_eq_false, not_false_eq_true, Int.toNat_natCast, reduceCtorEq, i10, i01, implies_true, true_implies, false_implies, g_t (c := True) trivial, n8, n9, n10, n11, z 72 (by simp), z 73 (by simp), z 74 (by simp), z 75 (by simp), z 76 (by simp), z 95 (by simp), z 96 (by simp), z 98 (by simp), z 99 (by simp)]
      have e7 : ¬ 2 * p' = 2 * p' + 1 := by omega
      have e8 : ¬ p = p' := by omega
      have e9 : ox (p : Int) = some p := by unfold ox; rw [if_neg (by omega), Int.toNat_natCast]
      simp only [e7, e8, e9, ↓reduceIte, and_true, true_and, and_false, false_and, and_self, or_true, true_or, or_false, false_or, or_self, Nat.reduceEqDiff, Int.reduceNeg, ne_eq, not_true_eq_false, not_false_eq_true, Int.toNat_natCast, reduceCtorEq, i10, i01, implies_true, true_implies, false_implies, g_t (c := True) trivial]
      and_intros <;> first | exact h5 | exact hso | omega | (intro q; first | (exfalso; omega) | exact ⟨⟨by omega, by omega, s⟩, hso, hy, hz⟩ | omega)
    · have e1 : ¬ 2 * p' = 2 * P := by omega
      have e2 : ¬ 2 * p' = 2 * P + 1 := by omega
      have e3 : ¬ 2 * p' + 1 = 2 * P := by omega
      have e4 : ¬ 2 * p' + 1 = 2 * P + 1 := by omega
      refine (hP p' (by omega)).cg1 (by omega) (Nat.le_succ P) ?_ (fun j => ?_) (fun j => ?_) (fun j => ?_) ?_ ?_ (fun t ht ht2 q hq => ?_) (fun q hq => ?_)
      · simp only [gI_sI, gI_sR, gI_sN, gI_sCp, gI_sB, gR_sI, gR_sR, gR_sN, gR_sCp, gR_sB, gN_sI, gN_sR, gN_sN, gN_sCp, gN_sB, ↓reduceIte, and_true, true_and, and_false, false_and, and_self, or_true, true_or, or_false, false_or, or_self, Nat.reduceEqDiff, Int.reduceNeg, ne_eq, not_true_eq_false, not_false_eq_true, Int.toNat_natCast, reduceCtorEq, i10, i01, implies_true, true_implies, false_implies, g_t (c := True) trivial, e]
      · simp only [gI_sI, gI_sR, gI_sN, gI_sCp, gI_sB, gR_sI, gR_sR, gR_sN, gR_sCp, gR_sB, gN_sI, gN_sR, gN_sN, gN_sCp, gN_sB, ↓reduceIte, and_true, true_and, and_false, false_and, and_self, or_true, true_or, or_false, false_or, or_self, Nat.reduceEqDiff, Int.reduceNeg, ne_eq, not_true_eq_false, not_false_eq_true, Int.toNat_natCast, reduceCtorEq, i10, i01, implies_true, true_implies, false_implies, g_t (c := True) trivial, e, n8]
      · simp only [gI_sI, gI_sR, gI_sN, gI_sCp, gI_sB, gR_sI, gR_sR, gR_sN, gR_sCp, gR_sB, gN_sI, gN_sR, gN_sN, gN_sCp, gN_sB, ↓reduceIte, and_true, true_and, and_false, false_and, and_self, or_true, true_or, or_false, false_or, or_self, Nat.reduceEqDiff, Int.reduceNeg, ne_eq, not_true_eq_false, not_false_eq_true, Int.toNat_natCast, reduceCtorEq, i10, i01, implies_true, true_implies, false_implies, g_t (c := True) trivial, e, n8]
      · simp only [gI_sI, gI_sR, gI_sN, gI_sCp, gI_sB, gR_sI, gR_sR, gR_sN, gR_sCp, gR_sB, gN_sI, gN_sR, gN_sN, gN_sCp, gN_sB, ↓reduceIte, and_true, true_and, and_false, false_and, and_self, or_true, true_or, or_false, false_or, or_self, Nat.reduceEqDiff, Int.reduceNeg, ne_eq, not_true_eq_false, not_false_eq_true, Int.toNat_natCast, reduceCtorEq, i10, i01, implies_true, true_implies, false_implies, g_t (c := True) trivial, e, n11]
      · simp only [gI_sI, gI_sR, gI_sN, gI_sCp, gI_sB, gR_sI, gR_sR, gR_sN, gR_sCp, gR_sB, gN_sI, gN_sR, gN_sN, gN_sCp, gN_sB, ↓reduceIte, and_true, true_and, and_false, false_and, and_self, or_true, true_or, or_false, false_or, or_self, Nat.reduceEqDiff, Int.reduceNeg, ne_eq, not_true_eq_false, not_false_eq_true, Int.toNat_natCast, reduceCtorEq, i10, i01, implies_true, true_implies, false_implies, g_t (c := True) trivial, e1, e2, n9]
      · simp only [gI_sI, gI_sR, gI_sN, gI_sCp, gI_sB, gR_sI, gR_sR, gR_sN, gR_sCp, gR_sB, gN_sI, gN_sR, gN_sN, gN_sCp, gN_sB, ↓reduceIte, and_true, true_and, and_false, false_and, and_self, or_true, true_or, or_false, false_or, or_self, Nat.reduceEqDiff, Int.reduceNeg, ne_eq, not_true_eq_false, not_false_eq_true, Int.toNat_natCast, reduceCtorEq, i10, i01, implies_true, true_implies, false_implies, g_t (c := True) trivial, e3, e4, n9]
      · have e5 : ¬ q = P := by omega
        simp only [gI_sI, gI_sR, gI_sN, gI_sCp, gI_sB, gR_sI, gR_sR, gR_sN, gR_sCp, gR_sB, gN_sI, gN_sR, gN_sN, gN_sCp, gN_sB, ↓reduceIte, and_true, true_and, and_false, false_and, and_self, or_true, true_or, or_false, false_or, or_self, Nat.reduceEqDiff, Int.reduceNeg, ne_eq, not_true_eq_false, not_false_eq_true, Int.toNat_natCast, reduceCtorEq, i10, i01, implies_true, true_implies, false_implies, g_t (c := True) trivial, e5, ht2]
        rw [if_neg]
        rintro ⟨rfl, -⟩
        cases ht
      · have e5 : ¬ q = 2 * P := by omega
        have e6 : ¬ q = 2 * P + 1 := by omega
        simp only [gI_sI, gI_sR, gI_sN, gI_sCp, gI_sB, gR_sI, gR_sR, gR_sN, gR_sCp, gR_sB, gN_sI, gN_sR, gN_sN, gN_sCp, gN_sB, ↓reduceIte, and_true, true_and, and_false, false_and, and_self, or_true, true_or, or_false, false_or, or_self, Nat.reduceEqDiff, Int.reduceNeg, ne_eq, not_true_eq_false, not_false_eq_true, Int.toNat_natCast, reduceCtorEq, i10, i01, implies_true, true_implies, false_implies, g_t (c := True) trivial, e5, e6]
  · have u67 : ∀ k, k < P → gI (sI (sI (sI (sI (sI (sI (sI (sI (sI M 67 0 P ↑p) 68 0 P so) 69 0 P x3) 70 0 P x4) 71 0 P x5) 77 0 P (-9)) 78 0 (2 * P) (-9)) 78 0 (2 * P + 1) (-9)) 64 0 0 ↑(P + 1)) 67 0 k = gI M 67 0 k := by
      intro k hk
      have e : ¬ k = P := by omega
      simp only [gI_sI, gI_sR, gI_sN, gI_sCp, gI_sB, gR_sI, gR_sR, gR_sN, gR_sCp, gR_sB, gN_sI, gN_sR, gN_sN, gN_sCp, gN_sB, ↓reduceIte, and_true, true_and, and_false, false_and, and_self, or_true, true_or, or_false, false_or, or_self, Nat.reduceEqDiff, Int.reduceNeg, ne_eq, not_true_eq_false, not_false_eq_true, Int.toNat_natCast, reduceCtorEq, i10, i01, implies_true, true_implies, false_implies, g_t (c := True) trivial, e]
    have lz : ∀ k, k < 6 → ∀ (q : Nat) (v : Int), v = ldS M q k P → v = ldS (sI (sI (sI (sI (sI (sI (sI (sI (sI M 67 0 P ↑p) 68 0 P so) 69 0 P x3) 70 0 P x4) 71 0 P x5) 77 0 P (-9)) 78 0 (2 * P) (-9)) 78 0 (2 * P + 1) (-9)) 64 0 0 ↑(P + 1)) q k (P + 1) := by
      intro k hk q v hv
      rw [ldS_s, ldS_up hr u67 (fun _ => rfl) q k P (Nat.le_refl P), ← hv]
      simp only [gI_sI, gI_sR, gI_sN, gI_sCp, gI_sB, gR_sI, gR_sR, gR_sN, gR_sCp, gR_sB, gN_sI, gN_sR, gN_sN, gN_sCp, gN_sB, ↓reduceIte, and_true, true_and, and_false, false_and, and_self, or_true, true_or, or_false, false_or, or_self, Nat.reduceEqDiff, Int.reduceNeg, ne_eq, not_true_eq_false, not_false_eq_true, Int.toNat_natCast, reduceCtorEq, i10, i01, implies_true, true_implies, false_implies, g_t (c := True) trivial, z124 k hk]
      split <;> omega
    unfold RLd
    by_cases e : p' = P
    · subst e
      simp only [gI_sI, gI_sR, gI_sN, gI_sCp, gI_sB, gR_sI, gR_sR, gR_sN, gR_sCp, gR_sB, gN_sI, gN_sR, gN_sN, gN_sCp, gN_sB, ↓reduceIte, and_true, true_and, and_false, false_and, and_self, or_true, true_or, or_false, false_or, or_self, Nat.reduceEqDiff, Int.reduceNeg, ne_eq, not_true_eq_false, not_false_eq_true, Int.toNat_natCast, reduceCtorEq, i10, i01, implies_true, true_implies, false_implies, g_t (c := True) trivial, n10]
      refine ⟨fun k hk => by rw [z124 k hk]; omega, fun _ k hk => z124 k hk, fun k hk => lz k hk p' 0 (ldS_lt hr k p' (Nat.le_refl _) (Nat.le_refl _)).symm⟩
    · have q' := hL p' (by omega)
      simp only [gI_sI, gI_sR, gI_sN, gI_sCp, gI_sB, gR_sI, gR_sR, gR_sN, gR_sCp, gR_sB, gN_sI, gN_sR, gN_sN, gN_sCp, gN_sB, ↓reduceIte, and_true, true_and, and_false, false_and, and_self, or_true, true_or, or_false, false_or, or_self, Nat.reduceEqDiff, Int.reduceNeg, ne_eq, not_true_eq_false, not_false_eq_true, Int.toNat_natCast, reduceCtorEq, i10, i01, implies_true, true_implies, false_implies, g_t (c := True) trivial, n10, e]
      exact ⟨q'.1, q'.2.1, fun k hk => lz k hk p' _ (q'.2.2 k hk)⟩
  · refine (hC c' hc').post rfl (fun j => rfl) (fun j => rfl) rfl (fun k => rfl) (fun t ht k => ?_) (fun t k ht hk => ?_) rfl
    · rcases ht with rfl | rfl | rfl | rfl | rfl | rfl | rfl | rfl | rfl | rfl | rfl | rfl | rfl <;> rfl
    · have e : ¬ k = P := by omega
      rcases ht with rfl | rfl | rfl <;> simp only [gI_sI, gI_sR, gI_sN, gI_sCp, gI_sB, gR_sI, gR_sR, gR_sN, gR_sCp, gR_sB, gN_sI, gN_sR, gN_sN, gN_sCp, gN_sB, ↓reduceIte, and_true, true_and, and_false, false_and, and_self, or_true, true_or, or_false, false_or, or_self, Nat.reduceEqDiff, Int.reduceNeg, ne_eq, not_true_eq_false, not_false_eq_true, Int.toNat_natCast, reduceCtorEq, i10, i01, implies_true, true_implies, false_implies, g_t (c := True) trivial, e]
  · unfold BD at hD ⊢
    simp only [gI_sI, gI_sR, gI_sN, gI_sCp, gI_sB, gR_sI, gR_sR, gR_sN, gR_sCp, gR_sB, gN_sI, gN_sR, gN_sN, gN_sCp, gN_sB, ↓reduceIte, and_true, true_and, and_false, false_and, and_self, or_true, true_or, or_false, false_or, or_self, Nat.reduceEqDiff, Int.reduceNeg, ne_eq, not_true_eq_false, not_false_eq_true, Int.toNat_natCast, reduceCtorEq, i10, i01, implies_true, true_implies, false_implies, g_t (c := True) trivial]
    refine ⟨fun p' hp' => ?_, hD.2⟩
    by_cases e : p' = P
    · subst e
      rw [z 95 (by simp), z 75 (by simp)]
      have := hS.1
      omega
    · exact hD.1 p' (by omega)
end PO
