/-! ===== the head of the row ===== -/
def ak (M : zS) (o : Int) (c : Nat) : Int := if o = 0 then gI M 84 0 c else if o = 1 then (if gI M 88 0 c = 0 then 0 else gI M 90 0 c) else gI M 81 0 c
/-- cup c goes ahead of cup d by order o -/
def aK (M : zS) (o : Int) (c d : Nat) : Prop := ak M o c < ak M o d ∨ (ak M o c = ak M o d ∧ ((o = 2 ∧ gI M 84 0 c < gI M 84 0 d) ∨ ((o = 2 → gI M 84 0 c = gI M 84 0 d) ∧ c < d)))
theorem aK_tr {M : zS} {o : Int} {a b c : Nat} (h : aK M o a b) (g : aK M o b c) : aK M o a c := by
  unfold aK at *
  omega
theorem aK_as {M : zS} {o : Int} {a b : Nat} (h : aK M o a b) (g : aK M o b a) : False := by
  unfold aK at *
  omega
theorem aK_to {M : zS} {o : Int} {a b : Nat} (h : ¬ aK M o a b) (e : a ≠ b) : aK M o b a := by
  unfold aK at *
  omega
theorem aK_cg {N' N : zS} (h : oN N' N) (o : Int) (a b : Nat) : aK N' o a b = aK N o a b := by
  have e84 : ∀ k, gI N' 84 0 k = gI N 84 0 k := fun k => h.2.2 84 0 k (by decide) (by omega)
  have e88 : ∀ k, gI N' 88 0 k = gI N 88 0 k := fun k => h.2.2 88 0 k (by decide) (by omega)
  have e90 : ∀ k, gI N' 90 0 k = gI N 90 0 k := fun k => h.2.2 90 0 k (by decide) (by omega)
  have e81 : ∀ k, gI N' 81 0 k = gI N 81 0 k := fun k => h.2.2 81 0 k (by decide) (by omega)
  unfold aK ak
  simp only [e84, e88, e90, e81]
section HD
variable {P C K : Nat} {D : Int} {X M : zS}
theorem aheadM (hr : RR P C K D X M) {c d : Nat} (hc : c < C) (hd : d < C) {o : Int} (ho : o = 0 ∨ o = 1 ∨ o = 2) : ∃ v : Int, fX11_isAhead M 0 c d o = some (v, M) ∧ (¬ v = 0 ↔ aK M o c d) := by
  obtain ⟨⟨hX, hM, hN⟩, hS, hF, hB, hP, hL, hC, hK, hD, hZ⟩ := hr
  have h16 := hN.1
  have gc : 0 ≤ (c : Int) ∧ (c : Int) < 24 := by omega
  have gd : 0 ≤ (d : Int) ∧ (d : Int) < 24 := by omega
  obtain ⟨-, ⟨b1, b2, b3, -⟩, -, -, -, -, -, -, -, -, -, -, -, -, -, -, -, -, d19, -, -, d22, -⟩ := hC c hc
  obtain ⟨-, ⟨b1', b2', b3', -⟩, -, -, -, -, -, -, -, -, -, -, -, -, -, -, -, -, d19', -, -, d22', -⟩ := hC d hd
  have hs := hS.1
  have wd : ∀ u v : Int, (0 ≤ u ∧ u ≤ 30000) → (0 ≤ v ∧ v ≤ 30000) → wr (u - v) = u - v := fun u v _ _ => wr_id (by unfold zin; omega)
  have fin : ∀ u v : Int, ∃ w : Int, (if u - v < 0 then some ((1 : Int), M) else (if u - v = 0 then (if (c : Int) < (d : Int) then some (1, M) else some (0, M)) else some (0, M))) = some (w, M) ∧ (¬ w = 0 ↔ (u < v ∨ (u = v ∧ c < d))) := by
    intro u v
    by_cases q : u < v
    · rw [if_pos (by omega)]; exact ⟨_, rfl, by omega⟩
    · rw [if_neg (by omega)]
      by_cases q2 : u = v
      · rw [if_pos (by omega)]
        by_cases l : (c : Int) < (d : Int)
        · rw [if_pos l]; exact ⟨_, rfl, by omega⟩
        · rw [if_neg l]; exact ⟨_, rfl, by omega⟩
      · rw [if_neg (by omega)]; exact ⟨_, rfl, by omega⟩
  unfold fX11_isAhead fX11_sentOf aK ak
  rcases ho with rfl | rfl | rfl
  · obtain ⟨w, w1, w2⟩ := fin (gI M 84 0 c) (gI M 84 0 d)
    refine ⟨w, ?_, ?_⟩
    · simp only [Int.reduceEq, ↓reduceIte, nm_eq, up_eq, cl_some, ob_some, oe_some, oe_none, ob_none, hM.2 18 rfl, g_t gc, g_t gd, Int.toNat_natCast, wd _ _ d19 d19', ite_self]
      exact w1
    · rw [w2]; simp only [Int.reduceEq, ↓reduceIte]; omega
  · have t1 : 0 ≤ (if gI M 88 0 c = 0 then (0 : Int) else gI M 90 0 c) ∧ (if gI M 88 0 c = 0 then (0 : Int) else gI M 90 0 c) ≤ 30000 := by split <;> omega
    have t2 : 0 ≤ (if gI M 88 0 d = 0 then (0 : Int) else gI M 90 0 d) ∧ (if gI M 88 0 d = 0 then (0 : Int) else gI M 90 0 d) ≤ 30000 := by split <;> omega
    have w := wd _ _ t1 t2
    obtain ⟨z, z1, z2⟩ := fin (if gI M 88 0 c = 0 then (0 : Int) else gI M 90 0 c) (if gI M 88 0 d = 0 then (0 : Int) else gI M 90 0 d)
    refine ⟨z, ?_, ?_⟩
    · rw [← z1]
      simp only [Int.reduceEq, ↓reduceIte, nm_eq, up_eq, cl_some, ob_some, oe_some, oe_none, ob_none, hM.2 22 rfl, hM.2 24 rfl, g_t gc, g_t gd, Int.toNat_natCast, ite_self]
      by_cases e1 : gI M 88 0 c = 0 <;> by_cases e2 : gI M 88 0 d = 0 <;> simp only [e1, e2, ↓reduceIte, nm_eq, up_eq, cl_some, ob_some, oe_some, oe_none, ob_none, hM.2 22 rfl, hM.2 24 rfl, g_t gc, g_t gd, Int.toNat_natCast] at w ⊢ <;> rw [w]
    · rw [z2]; simp only [Int.reduceEq, ↓reduceIte, false_and, false_or, false_implies, true_and]
  · simp only [Int.reduceEq, ↓reduceIte, nm_eq, up_eq, cl_some, ob_some, oe_some, oe_none, ob_none, hM.2 18 rfl, hM.2 15 rfl, g_t gc, g_t gd, Int.toNat_natCast, wd _ _ d19 d19']
    rw [wd _ _ (by omega) (by omega)]
    simp only [true_and, true_implies]
    by_cases q : gI M 81 0 c = gI M 81 0 d
    · rw [if_pos (by omega)]
      obtain ⟨w, w1, w2⟩ := fin (gI M 84 0 c) (gI M 84 0 d)
      exact ⟨w, w1, by rw [w2]; omega⟩
    · rw [if_neg (by omega)]
      obtain ⟨w, w1, w2⟩ := fin (gI M 81 0 c) (gI M 81 0 d)
      exact ⟨w, w1, by rw [w2]; omega⟩
def LW (C : Nat) (N : zS) (j : Nat) : Prop := ∃ d : Nat, d < C ∧ gI N 117 0 j = d ∧ gI N 82 0 d = 3
theorem insM {nf : Nat} (κ' : zS → Int → Option (Unit × zS)) {o : Int} (ho : o = 0 ∨ o = 1 ∨ o = 2) {c s : Nat} (hc : c < C) (hs : s < 24) : ∀ (p n : Nat) (N : zS), p < n → p ≤ s → RR P C K D X N → (∀ j, j ≤ s → j ≠ p → LW C N j) →
    ∃ N' p', fX11_layRow_L30 κ' 0 o c nf n N (p : Int) = κ' N' ((p' : Nat) : Int) ∧ RR P C K D X N' ∧ p' ≤ p ∧ oN N' N ∧ gI N' 64 0 52 = gI N 64 0 52 ∧ (∀ j, j ≤ s → j ≠ p' → ∃ i, i ≤ s ∧ i ≠ p ∧ gI N' 117 0 j = gI N 117 0 i) ∧ (0 < p' → gI N' 117 0 0 = gI N 117 0 0) ∧ (0 < p' → ∃ d : Nat, d < C ∧ gI N 117 0 (p' - 1) = d ∧ ¬ aK N o c d) ∧ (p' = 0 → p = 0 ∨ ∃ d : Nat, d < C ∧ gI N 117 0 0 = d ∧ aK N o c d)
  | 0, n + 1, N, hn, hp, hr, hw => by
    refine ⟨N, 0, ?_, hr, Nat.le_refl 0, oN.rf, rfl, fun j h1 h2 => ⟨j, h1, h2, rfl⟩, fun q => rfl, fun q => absurd q (by omega), fun _ => Or.inl rfl⟩
    unfold fX11_layRow_L30; rw [if_neg (by omega)]
  | p + 1, n + 1, N, hn, hp, hr, hw => by
    obtain ⟨d, d1, d2, d3⟩ := hw p (by omega) (by omega)
    obtain ⟨v, v1, v2⟩ := aheadM hr hc d1 ho
    have hM := hr.1.2.1
    have gp : (0 : Int) ≤ (p : Int) ∧ (p : Int) < 24 := by omega
    have gp1 : (0 : Int) ≤ ((p + 1 : Nat) : Int) ∧ ((p + 1 : Nat) : Int) < 24 := by omega
    have w1 : wr (((p + 1 : Nat) : Int) - 1) = p := ((wrd ((p + 1 : Nat) : Int) (by omega) (by omega)).2).trans (by omega)
    have w2 : wr (((p + 1 : Nat) : Int) + -1) = p := ((wrd ((p + 1 : Nat) : Int) (by omega) (by omega)).1).trans (by omega)
    have eM : fX11_layRow_L30 κ' 0 o c nf (n + 1) N ((p + 1 : Nat) : Int) = if v = 0 then κ' N ((p + 1 : Nat) : Int) else fX11_layRow_L30 κ' 0 o c nf n (sI N 117 0 (p + 1) d) (p : Int) := by
      conv => lhs; unfold fX11_layRow_L30
      rw [if_pos (by omega)]
      simp only [w1, w2, nm_eq, up_eq, cl_some, ob_some, oe_some, oe_none, ob_none, hM.2 51 rfl, g_t gp, g_t gp1, Int.toNat_natCast, d2, v1]
    clear w1 w2
    by_cases v0 : v = 0
    · rw [if_pos v0] at eM
      exact ⟨N, p + 1, eM, hr, Nat.le_refl _, oN.rf, rfl, fun j h1 h2 => ⟨j, h1, h2, rfl⟩, fun _ => rfl, fun _ => ⟨d, d1, d2, fun q => v2.2 q v0⟩, fun q => absurd q (by omega)⟩
    · rw [if_neg v0] at eM
      have hr2 : RR P C K D X (sI N 117 0 (p + 1) d) := hr.sc (fun _ => rfl) (fun _ => rfl) .rf (fun _ _ _ => rfl) (eqS_sI rfl .rf)
      have o1 : oN (sI N 117 0 (p + 1) d) N := ⟨fun _ => rfl, fun _ _ _ => rfl, fun t i k h1 _ => by rw [gI_sI, if_neg (fun q => h1 q.1)]⟩
      obtain ⟨N', p', f1, f2, f3, f4, f5, f6, f7, f8, f9⟩ := insM (nf := nf) κ' ho hc hs p n _ (by omega) (by omega) hr2 (fun j hj hj2 => by
        by_cases e : j = p + 1
        · subst e
          exact ⟨d, d1, by simp only [gI_sI, gI_sR, gI_sN, gI_sCp, gI_sB, gR_sI, gR_sR, gR_sN, gR_sCp, gR_sB, gN_sI, gN_sR, gN_sN, gN_sCp, gN_sB, ↓reduceIte, and_true, true_and, and_false, false_and, and_self, or_true, true_or, or_false, false_or, or_self, Nat.reduceEqDiff, Int.reduceNeg, ne_eq, not_true_eq_false, not_false_eq_true, Int.toNat_natCast, reduceCtorEq, i10, i01, implies_true, true_implies, false_implies, g_t (c := True) trivial], by rw [o1.2.2 82 0 d (by decide) (by omega)]; exact d3⟩
        · obtain ⟨x, x1, x2, x3⟩ := hw j hj e
          exact ⟨x, x1, by simp only [gI_sI, gI_sR, gI_sN, gI_sCp, gI_sB, gR_sI, gR_sR, gR_sN, gR_sCp, gR_sB, gN_sI, gN_sR, gN_sN, gN_sCp, gN_sB, ↓reduceIte, and_true, true_and, and_false, false_and, and_self, or_true, true_or, or_false, false_or, or_self, Nat.reduceEqDiff, Int.reduceNeg, ne_eq, not_true_eq_false, not_false_eq_true, Int.toNat_natCast, reduceCtorEq, i10, i01, implies_true, true_implies, false_implies, g_t (c := True) trivial, e]; exact x2, by rw [o1.2.2 82 0 x (by decide) (by omega)]; exact x3⟩)
      have ot : ∀ j, j ≠ p + 1 → gI (sI N 117 0 (p + 1) d) 117 0 j = gI N 117 0 j := fun j hj => by rw [gI_sI, if_neg (fun q => hj q.2.2)]
      refine ⟨N', p', eM.trans f1, f2, by omega, ⟨f4.1, f4.2.1, fun t i k h1 h2 => (f4.2.2 t i k h1 h2).trans (o1.2.2 t i k h1 h2)⟩, f5.trans rfl, fun j h1 h2 => ?_, fun q => (f7 q).trans (ot 0 (by omega)), fun q => ?_, fun q => Or.inr ?_⟩
      · obtain ⟨i, i1, i2, i3⟩ := f6 j h1 h2
        by_cases e : i = p + 1
        · subst e
          refine ⟨p, by omega, by omega, i3.trans ?_⟩
          rw [gI_sI, if_pos ⟨rfl, rfl, rfl⟩, d2]
        · exact ⟨i, i1, e, i3.trans (ot i e)⟩
      · obtain ⟨x, x1, x2, x3⟩ := f8 q
        exact ⟨x, x1, (ot _ (by omega)).symm.trans x2, by rw [aK_cg o1] at x3; exact x3⟩
      · rcases f9 q with e | ⟨x, x1, x2, x3⟩
        · subst e
          exact ⟨d, d1, d2, v2.1 v0⟩
        · exact ⟨x, x1, (ot 0 (by omega)).symm.trans x2, by rw [aK_cg o1] at x3; exact x3⟩
/-- the head of the row so far -/
def HD (N : zS) (o : Int) (k s : Nat) (r : Option Nat) : Prop := (s = 0 ∧ r = none ∧ ∀ d : Nat, d < k → gI N 82 0 d ≠ 3) ∨ (0 < s ∧ ∃ h : Nat, h < k ∧ r = some h ∧ gI N 117 0 0 = h ∧ gI N 82 0 h = 3 ∧ ∀ d : Nat, d < k → gI N 82 0 d = 3 → d = h ∨ aK N o h d)
theorem nrL {nf : Nat} (hnf : 1000 ≤ nf) {o : Int} (ho : o = 0 ∨ o = 1 ∨ o = 2) (h14 : gI X 0 0 14 = o) : ∀ (m n k s : Nat) (N : zS) (r : Option Nat), k + m = C → m < n → s ≤ k → RR P C K D X N → gI N 64 0 52 = s → (∀ j, j < s → ∃ d : Nat, d < k ∧ gI N 117 0 j = d ∧ gI N 82 0 d = 3) → HD N o k s r →
    ∃ N' s' r', fX10_nextOfRow_L4 0 n X r (k : Int) = some (r', X) ∧ fX11_layRow_L7 0 o nf n N (k : Int) = some ((), N') ∧ RR P C K D X N' ∧ oN N' N ∧ gI N' 64 0 52 = ((s' : Nat) : Int) ∧ HD N' o C s' r'
  | 0, n + 1, k, s, N, r, hk, _, hs, hr, h52, hw, hh => by
    have hN := hr.1.2.2
    have kC : k = C := by omega
    refine ⟨N, s, r, ?_, ?_, hr, oN.rf, h52, kC ▸ hh⟩
    · unfold fX10_nextOfRow_L4; rw [if_neg (by rw [hN.2.2.1.2.1]; omega)]
    · unfold fX11_layRow_L7; rw [if_neg (by rw [hN.2.1.2.1]; omega)]
  | m + 1, n + 1, k, s, N, r, hk, hn, hs, hr, h52, hw, hh => by
    have hX := hr.1.1
    have hM := hr.1.2.1
    have hN := hr.1.2.2
    have h16 := hN.1
    have hC := hr.2.2.2.2.2.2.1 k (by omega)
    have gk : (0 : Int) ≤ (k : Int) ∧ (k : Int) < 24 := by omega
    by_cases z : gI N 82 0 k = 3
    · obtain ⟨N1, p, f1, f2, f3, f4, f5, f6, f7, f8, f9⟩ := insM (nf := nf) (o := o) (c := k) (s := s)
        (fun (s_10 : zS) (y_9 : Int) => nm_ (gR s_10 64 0 51) fun (r_11 : Option Nat) => Option.bind r_11 fun i_12 => g_ ((0 : Int) ≤ y_9 ∧ (y_9 : Int) < 24) (up_ (sI s_10 117 i_12 (Int.toNat (y_9)) (k : Int)) fun (s_15 : zS) => up_ (sI s_15 64 0 52 (wr ((gI s_15 64 0 52) + 1))) fun (s_16 : zS) => nm_ (wr ((k : Int) + 1)) fun (x_7 : Int) => fX11_layRow_L7 0 o nf n s_16 x_7))
        ho (by omega) (by omega) s nf N (by omega) (Nat.le_refl s) hr (fun j hj hj2 => by
          obtain ⟨d, d1, d2⟩ := hw j (by omega)
          exact ⟨d, by omega, d2⟩)
      have hM1 := f2.1.2.1
      have gp : (0 : Int) ≤ (p : Int) ∧ (p : Int) < 24 := by omega
      have hr2 : RR P C K D X (sI (sI N1 117 0 p k) 64 0 52 ((s + 1 : Nat) : Int)) := f2.sc (fun _ => rfl) (fun _ => rfl) .rf (fun _ _ _ => rfl) (eqS_sI rfl (eqS_sI rfl .rf))
      have o2 : oN (sI (sI N1 117 0 p k) 64 0 52 ((s + 1 : Nat) : Int)) N := ⟨f4.1, f4.2.1, fun t i j h1 h2 => by
        rw [gI_sI, if_neg (fun q => h2 ⟨q.1, q.2.2⟩), gI_sI, if_neg (fun q => h1 q.1)]
        exact f4.2.2 t i j h1 h2⟩
      have z2 : ∀ x : Nat, gI (sI (sI N1 117 0 p k) 64 0 52 ((s + 1 : Nat) : Int)) 82 0 x = gI N 82 0 x := fun x => o2.2.2 82 0 x (by decide) (by omega)
      have l2 : ∀ j, gI (sI (sI N1 117 0 p k) 64 0 52 ((s + 1 : Nat) : Int)) 117 0 j = if j = p then (k : Int) else gI N1 117 0 j := fun j => by simp only [gI_sI, gI_sR, gI_sN, gI_sCp, gI_sB, gR_sI, gR_sR, gR_sN, gR_sCp, gR_sB, gN_sI, gN_sR, gN_sN, gN_sCp, gN_sB, ↓reduceIte, and_true, true_and, and_false, false_and, and_self, or_true, true_or, or_false, false_or, or_self, Nat.reduceEqDiff, Int.reduceNeg, ne_eq, not_true_eq_false, not_false_eq_true, Int.toNat_natCast, reduceCtorEq, i10, i01, implies_true, true_implies, false_implies, g_t (c := True) trivial]
      have hr1 : ∃ r1, (fX10_nextOfRow_L4 0 (n + 1) X r (k : Int) = fX10_nextOfRow_L4 0 n X r1 ((k + 1 : Nat) : Int)) ∧ HD (sI (sI N1 117 0 p k) 64 0 52 ((s + 1 : Nat) : Int)) o (k + 1) (s + 1) r1 := by
        rcases hh with ⟨s0, rn, hh⟩ | ⟨s0, h, h1, rh, h2, h3, h4⟩
        · subst rn
          refine ⟨some k, ?_, Or.inr ⟨by omega, k, by omega, rfl, ?_, (z2 k).trans z, fun d hd hz => ?_⟩⟩
          · conv => lhs; unfold fX10_nextOfRow_L4
            rw [if_pos (by rw [hN.2.2.1.2.1]; omega)]
            simp only [nm_eq, up_eq, cl_some, ob_some, oe_some, oe_none, ob_none, hX.2.1 1 (by decide), g_t gk, Int.toNat_natCast, hC.1.1, hC.2.2.1.1, z, ↓reduceIte, nat_wr k (by omega)]
          · rw [l2, if_pos (by omega)]
          · rw [z2] at hz
            left
            by_cases e : d = k
            · exact e
            · exact absurd hz (hh d (by omega))
        · obtain ⟨v, v1, v2⟩ := ahead_eq hr (show k < C by omega) (show h < C by omega) z h3 ho
          obtain ⟨v', w1, w2⟩ := aheadM hr (show k < C by omega) (show h < C by omega) ho
          have ev : v = v' := by rw [v2] at w1; injection w1 with w1; injection w1
          subst ev
          have eX : fX10_nextOfRow_L4 0 (n + 1) X r (k : Int) = fX10_nextOfRow_L4 0 n X (if v = 0 then some h else some k) ((k + 1 : Nat) : Int) := by
            conv => lhs; unfold fX10_nextOfRow_L4
            rw [if_pos (by rw [hN.2.2.1.2.1]; omega)]
            simp only [nm_eq, up_eq, cl_some, ob_some, oe_some, oe_none, ob_none, hX.2.1 1 (by decide), g_t gk, Int.toNat_natCast, hC.1.1, hC.2.2.1.1, z, ↓reduceIte, nat_wr k (by omega), rh, h14, v1]
            by_cases v0 : v = 0
            · rw [if_pos v0, if_pos v0]
            · rw [if_neg v0, if_neg v0]
          refine ⟨_, eX, Or.inr ⟨by omega, ?_⟩⟩
          by_cases v0 : v = 0
          · have na : ¬ aK N o k h := fun q => w2.2 q v0
            have p0 : 0 < p := by
              rcases Nat.eq_zero_or_pos p with q | q
              · rcases f9 q with e | ⟨x, x1, x2, x3⟩
                · omega
                · have : x = h := by omega
                  subst this
                  exact absurd x3 na
              · exact q
            refine ⟨h, by omega, if_pos v0, ?_, (z2 h).trans h3, fun d hd hz => ?_⟩
            · rw [l2, if_neg (by omega), f7 p0, h2]
            · rw [z2] at hz
              rw [aK_cg o2]
              by_cases e : d = k
              · subst e; exact Or.inr (aK_to na (by omega))
              · exact h4 d (by omega) hz
          · have ya : aK N o k h := w2.1 v0
            have p0 : p = 0 := by
              rcases Nat.eq_zero_or_pos p with q | q
              · exact q
              · obtain ⟨x, x1, x2, x3⟩ := f8 q
                obtain ⟨y, y1, y2, y3⟩ := hw (p - 1) (by omega)
                have : x = y := by omega
                subst this
                rcases h4 x y1 y3 with e | e
                · subst e; exact absurd ya x3
                · exact absurd (aK_tr ya e) x3
            refine ⟨k, by omega, if_neg v0, ?_, (z2 k).trans z, fun d hd hz => ?_⟩
            · rw [l2, if_pos (by omega)]
            · rw [z2] at hz
              rw [aK_cg o2]
              by_cases e : d = k
              · exact Or.inl e
              · right
                rcases h4 d (by omega) hz with e | e
                · subst e; exact ya
                · exact aK_tr ya e
      obtain ⟨r1, eX, hh2⟩ := hr1
      obtain ⟨N', s', r', a1, a2, a3, a4, a5, a6⟩ := nrL hnf ho h14 m n (k + 1) (s + 1) _ r1 (by omega) (by omega) (by omega) hr2 (by simp only [gI_sI, gI_sR, gI_sN, gI_sCp, gI_sB, gR_sI, gR_sR, gR_sN, gR_sCp, gR_sB, gN_sI, gN_sR, gN_sN, gN_sCp, gN_sB, ↓reduceIte, and_true, true_and, and_false, false_and, and_self, or_true, true_or, or_false, false_or, or_self, Nat.reduceEqDiff, Int.reduceNeg, ne_eq, not_true_eq_false, not_false_eq_true, Int.toNat_natCast, reduceCtorEq, i10, i01, implies_true, true_implies, false_implies, g_t (c := True) trivial]) (fun j hj => by
        rw [l2]
        by_cases e : j = p
        · rw [if_pos e]
          exact ⟨k, by omega, rfl, (z2 k).trans z⟩
        · rw [if_neg e]
          obtain ⟨i, i1, i2, i3⟩ := f6 j (by omega) e
          obtain ⟨x, x1, x2, x3⟩ := hw i (by omega)
          exact ⟨x, by omega, i3.trans x2, (z2 x).trans x3⟩) hh2
      refine ⟨N', s', r', eX.trans a1, ?_, a3, ⟨fun t => (a4.1 t).trans (o2.1 t), fun t i j => (a4.2.1 t i j).trans (o2.2.1 t i j), fun t i j h1 h2 => (a4.2.2 t i j h1 h2).trans (o2.2.2 t i j h1 h2)⟩, a5, a6⟩
      conv => lhs; unfold fX11_layRow_L7
      rw [if_pos (by rw [hN.2.1.2.1]; omega)]
      simp only [nm_eq, up_eq, cl_some, ob_some, oe_some, oe_none, ob_none, hM.2 16 rfl, g_t gk, Int.toNat_natCast, z, ↓reduceIte, h52] at f1 ⊢
      rw [f1]
      simp only [hM1.2 51 rfl, nm_eq, up_eq, cl_some, ob_some, oe_some, oe_none, ob_none, g_t gp, Int.toNat_natCast, gI_sI, ↓reduceIte, and_true, true_and, and_false, false_and, and_self, or_true, true_or, or_false, false_or, or_self, Nat.reduceEqDiff, Int.reduceNeg, ne_eq, not_true_eq_false, not_false_eq_true, Int.toNat_natCast, reduceCtorEq, i10, i01, implies_true, true_implies, false_implies, g_t (c := True) trivial, f5, h52, nat_wr s (by omega), nat_wr k (by omega)]
      exact a2
    · have hh2 : HD N o (k + 1) s r := by
        rcases hh with ⟨s0, rn, hh⟩ | ⟨s0, h, h1, rh, h2, h3, h4⟩
        · refine Or.inl ⟨s0, rn, fun d hd => ?_⟩
          by_cases e : d = k
          · subst e; exact z
          · exact hh d (by omega)
        · refine Or.inr ⟨s0, h, by omega, rh, h2, h3, fun d hd hz => ?_⟩
          by_cases e : d = k
          · subst e; exact absurd hz z
          · exact h4 d (by omega) hz
      obtain ⟨N', s', r', a1, a2, a3⟩ := nrL hnf ho h14 m n (k + 1) s N r (by omega) (by omega) (by omega) hr h52 (fun j hj => by
        obtain ⟨d, d1, d2⟩ := hw j hj
        exact ⟨d, by omega, d2⟩) hh2
      refine ⟨N', s', r', ?_, ?_, a3⟩
      · conv => lhs; unfold fX10_nextOfRow_L4
        rw [if_pos (by rw [hN.2.2.1.2.1]; omega)]
        simp only [nm_eq, up_eq, cl_some, ob_some, oe_some, oe_none, ob_none, hX.2.1 1 (by decide), g_t gk, Int.toNat_natCast, hC.1.1, hC.2.2.1.1, z, ↓reduceIte, nat_wr k (by omega)]
        exact a1
      · conv => lhs; unfold fX11_layRow_L7
        rw [if_pos (by rw [hN.2.1.2.1]; omega)]
        simp only [nm_eq, up_eq, cl_some, ob_some, oe_some, oe_none, ob_none, hM.2 16 rfl, g_t gk, Int.toNat_natCast, z, ↓reduceIte, nat_wr k (by omega)]
        exact a2
/-- who is next, on both sides -/
theorem next_row (hr : RR P C K D X M) {nf : Nat} (hnf : 1000 ≤ nf) : ∃ N, fX11_layRow nf M 0 (gI M 64 0 38) = some ((), N) ∧ RR P C K D X N ∧ oN N M ∧ ((fX10_nextOfRow nf X 0 = some (none, X) ∧ gI N 64 0 52 = 0 ∧ ∀ d : Nat, d < C → gI M 82 0 d ≠ 3) ∨ ∃ h : Nat, h < C ∧ fX10_nextOfRow nf X 0 = some (some h, X) ∧ 0 < gI N 64 0 52 ∧ gI N 117 0 0 = h ∧ gI M 82 0 h = 3) := by
  have h16 := hr.1.2.2.1
  have hS := hr.2.1.2.1
  have hr2 : RR P C K D X (sI M 64 0 52 0) := hr.sc (fun _ => rfl) (fun _ => rfl) .rf (fun _ _ _ => rfl) (eqS_sI rfl .rf)
  obtain ⟨N, s, r, a1, a2, a3, a4, a5, a6⟩ := nrL hnf (o := gI M 64 0 38) (by omega) hS.1 C nf 0 0 (sI M 64 0 52 0) none (by omega) (by omega) (Nat.le_refl 0) hr2 (by simp only [gI_sI, gI_sR, gI_sN, gI_sCp, gI_sB, gR_sI, gR_sR, gR_sN, gR_sCp, gR_sB, gN_sI, gN_sR, gN_sN, gN_sCp, gN_sB, ↓reduceIte, and_true, true_and, and_false, false_and, and_self, or_true, true_or, or_false, false_or, or_self, Nat.reduceEqDiff, Int.reduceNeg, ne_eq, not_true_eq_false, not_false_eq_true, Int.toNat_natCast, reduceCtorEq, i10, i01, implies_true, true_implies, false_implies, g_t (c := True) trivial]; rfl) (fun j hj => by omega) (Or.inl ⟨rfl, rfl, fun d hd => by omega⟩)
  have o1 : oN N M := ⟨a4.1, a4.2.1, fun t i k h1 h2 => by rw [a4.2.2 t i k h1 h2, gI_sI, if_neg (fun q => h2 ⟨q.1, q.2.2⟩)]⟩
  refine ⟨N, ?_, a3, o1, ?_⟩
  · unfold fX11_layRow
    rw [up_eq]
    exact a2
  · rcases a6 with ⟨s0, rn, hh⟩ | ⟨s0, h, h1, rh, h2, h3, -⟩
    · subst s0 rn
      exact Or.inl ⟨a1, a5, fun d hd => by rw [← o1.2.2 82 0 d (by decide) (by omega)]; exact hh d hd⟩
    · subst rh
      exact Or.inr ⟨h, h1, a1, by omega, h2, by rw [← o1.2.2 82 0 h (by decide) (by omega)]; exact h3⟩
end HD
