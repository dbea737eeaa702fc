/-! ===== what is sent of loads ===== -/
section RU
variable {P C K : Nat} {D : Int} {X M : zS}
theorem below_s (M : zS) (n q p : Nat) (h : 0 < q) (e : ¬ q = p) : below M (n + 1) q p = below M n (gI M 67 0 q).toNat p := by
  conv => lhs; unfold below
  simp [e, h]
theorem below_rf (M : zS) (n q : Nat) : below M n q q = true := by cases n <;> simp [below]
theorem rushL (hr : RR P C K D X M) {h : Nat} (hh : h < 6) {c3 c5 : Int} (hc : -300 ≤ c3 - c5 ∧ c3 - c5 ≤ 300) : ∀ (n m q : Nat) (Y : zS), q < P → q + 2 ≤ n → q ≤ m → (∀ p, p < P → gR Y 8 p 1 = ox (gI M 67 0 p) ∧ gR Y 8 p 14 = some p) → (∀ p, p ≤ q → -10000 ≤ gI Y 16 p h ∧ gI Y 16 p h ≤ 10000) →
    ∃ Y', fX10_rush_L62 h c3 c5 n Y (some q) = some (c5, Y') ∧ (∀ t, gN Y' t = gN Y t) ∧ eqS (fun t _ => t != 16) Y' Y ∧ ∀ p k, gI Y' 16 p k = gI Y 16 p k + (if k = h ∧ below M m q p = true then c3 - c5 else 0)
  | 0, _, _, _, _, h2, _, _, _ => by omega
  | n + 1, m, q, Y, hq, hn, hm, hY, hb => by
    have hr' := hr
    obtain ⟨-, -, -, -, hP, -⟩ := hr
    unfold fX10_rush_L62
    simp only [nm_eq, up_eq, cl_some, ob_some, oe_some, oe_none, ob_none, (hY q hq).2, g_t (show (0 : Int) ≤ (h : Int) ∧ (h : Int) < 6 by omega), Int.toNat_natCast, gR_sI, (hY q hq).1]
    have bq := hb q (Nat.le_refl q)
    rw [wr_id (z := c3 - c5) (by unfold zin; omega), wr_id (by unfold zin; omega)]
    by_cases h0 : q = 0
    · subst h0
      rw [((hP 0 hq).2.1 rfl).1]
      obtain ⟨n, rfl⟩ : ∃ j, n = j + 1 := ⟨n - 1, by omega⟩
      refine ⟨_, rfl, fun _ => rfl, eqS_sI rfl .rf, fun p k => ?_⟩
      rw [gI_sI, below_0]
      by_cases e : p = 0 ∧ k = h
      · rw [if_pos ⟨rfl, e⟩, if_pos ⟨e.2, by rw [e.1]; rfl⟩, e.1, e.2]
      · rw [if_neg (fun x => e x.2), if_neg (fun x => e ⟨by have := x.2; simp at this; omega, x.1⟩)]
        omega
    · obtain ⟨r, r1, r2, -⟩ := par hr' (by omega) hq
      obtain ⟨m, rfl⟩ : ∃ j, m = j + 1 := ⟨m - 1, by omega⟩
      have eo : ox (gI M 67 0 q) = some r := by rw [r2]; unfold ox; rw [if_neg (by omega), Int.toNat_natCast]
      rw [eo]
      obtain ⟨Y', a1, a2, a3, a4⟩ := rushL hr' hh hc n m r (sI Y 16 q h (gI Y 16 q h + (c3 - c5))) (by omega) (by omega) (by omega) (fun p hp => hY p hp) (fun p hp => by
        have e : ¬ p = q := by omega
        simp only [gI_sI, gI_sR, gI_sN, gI_sCp, gI_sB, gR_sI, gR_sR, gR_sN, gR_sCp, gR_sB, gN_sI, gN_sR, gN_sN, gN_sCp, gN_sB, ↓reduceIte, and_true, true_and, and_false, false_and, and_self, or_true, true_or, or_false, false_or, or_self, Nat.reduceEqDiff, Int.reduceNeg, ne_eq, not_true_eq_false, not_false_eq_true, Int.toNat_natCast, reduceCtorEq, i10, i01, implies_true, true_implies, false_implies, g_t (c := True) trivial, e]
        exact hb p (by omega))
      refine ⟨Y', a1, a2, a3.tr (eqS_sI rfl .rf), fun p k => ?_⟩
      rw [a4, gI_sI]
      by_cases e : p = q
      · subst e
        have nb : below M m r p = false := below_lt hr' m r (by omega) r1
        rw [nb, below_rf]
        by_cases ek : k = h
        · subst ek; simp
        · simp [ek]
      · rw [if_neg (fun x => e x.2.1), below_s M m q p (by omega) (fun x => e x.symm), r2, Int.toNat_natCast]
theorem ldS_w (hr : RR P C K D X M) {p h : Nat} (hp0 : 0 < p) (hh : h < 6) (v : Int) (q k : Nat) (hk : k < 6) : ∀ n, ldS (sI M 124 0 (6 * p + h) v) q k n = ldS M q k n + (if p < n ∧ k = h ∧ below M 16 p q = true then v - gI M 124 0 (6 * p + h) else 0)
  | 0 => by simp [ldS]
  | n + 1 => by
    rw [ldS_s, ldS_s, ldS_w hr hp0 hh v q k hk n, below_cg (fun _ => rfl), gI_sI]
    by_cases e : n = p ∧ k = h
    · obtain ⟨rfl, rfl⟩ := e
      rw [if_neg (fun x => by omega), if_pos (show 124 = 124 ∧ 0 = 0 ∧ 6 * n + k = 6 * n + k from ⟨rfl, rfl, rfl⟩)]
      by_cases b : below M 16 n q = true
      · rw [if_pos ⟨hp0, b⟩, if_pos ⟨hp0, b⟩, if_pos ⟨by omega, rfl, b⟩]; omega
      · rw [if_neg (fun x => b x.2), if_neg (fun x => b x.2), if_neg (fun x => b x.2.2)]
    · rw [if_neg (show ¬ (124 = 124 ∧ 0 = 0 ∧ 6 * n + k = 6 * p + h) by intro x; apply e; omega)]
      have s : (if p < n ∧ k = h ∧ below M 16 p q = true then v - gI M 124 0 (6 * p + h) else 0) = (if p < n + 1 ∧ k = h ∧ below M 16 p q = true then v - gI M 124 0 (6 * p + h) else 0) := by
        by_cases y : p < n ∧ k = h ∧ below M 16 p q = true
        · rw [if_pos y, if_pos ⟨by omega, y.2⟩]
        · rw [if_neg y, if_neg]
          intro x
          apply y
          refine ⟨?_, x.2⟩
          by_cases y2 : n = p
          · exact absurd ⟨y2, x.2.1⟩ e
          · omega
      rw [s]
      exact Int.add_right_comm _ _ _
theorem below_leaf (hr : RR P C K D X M) {p : Nat} (s : gI M 68 0 p = 2) : ∀ m q, q < P → ¬ q = p → below M m q p = false
  | 0, q, _, e => by unfold below; simp; omega
  | m + 1, q, hq, e => by
    by_cases h0 : q = 0
    · subst h0; rw [below_0]; simp; omega
    · obtain ⟨r, r1, r2, r3⟩ := par hr (by omega) hq
      rw [below_s M m q p (by omega) e, r2, Int.toNat_natCast]
      exact below_leaf hr s m r (by omega) (fun x => r3 (x ▸ s))
theorem ldS_leaf (hr : RR P C K D X M) {p : Nat} (h0 : 0 < p) (s : gI M 68 0 p = 2) (k : Nat) : ∀ n, n ≤ P → ldS M p k n = if p < n then gI M 124 0 (6 * p + k) else 0
  | 0, _ => by simp [ldS]
  | n + 1, hn => by
    rw [ldS_s, ldS_leaf hr h0 s k n (by omega)]
    by_cases e : n = p
    · subst e
      rw [if_neg (by omega), if_pos ⟨h0, below_rf M 16 n⟩, if_pos (by omega)]; omega
    · rw [below_leaf hr s 16 n (by omega) e]
      by_cases y : p < n
      · rw [if_pos y, if_pos (show p < n + 1 by omega)]; simp
      · rw [if_neg y, if_neg (show ¬ p < n + 1 by omega)]; simp
theorem n16 {S : Nat → Nat → Bool} (hs : ∀ k, S 16 k = false) : ∀ t k, S t k = true → (t != 16) = true := by
  intro t k hk
  by_cases e : t = 16
  · subst e; rw [hs k] at hk; cases hk
  · simp [e]
theorem P_rush {X M : zS} (h : zR X M) {nf : Nat} (hnf : 1000 ≤ nf) (x1 x2 x3 : Int) (h1 : zin x1) (h2 : zin x2) (h3 : zin x3) : ∃ r X' M', fX10_rush nf X 0 x1 x2 x3 = some (r, X') ∧ fX11_rush M 0 x1 x2 x3 = some (r, M') ∧ zR X' M' := by
  obtain ⟨P, C, K, hr⟩ := id h
  obtain ⟨⟨hX, hM, hN⟩, hS, hF, hB, hP, hL, hC, hK, hD, hZ⟩ := id hr
  have h16 := hN.1
  unfold fX10_rush fX11_rush
  rcases idx0 x1 P with hx | ⟨p, hp, rfl⟩
  · simp only [findPost_out hr hx, isPost_eq hr, nm_eq, up_eq, cl_some, ob_some, oe_some, oe_none, ob_none, i10]
    rw [if_pos (by omega)]
    exact ⟨_, _, _, rfl, rfl, h⟩
  have q := hP p hp
  have hg : 0 ≤ (p : Int) ∧ (p : Int) < 16 := by omega
  simp only [findPost_in hr hp, isPost_eq hr, nm_eq, up_eq, cl_some, ob_some, oe_some, oe_none, ob_none, i10, within_eq, in_eq, hM.2 2 rfl, hM.2 58 rfl, g_t hg, Int.toNat_natCast, q.2.2.2.1.1, q.1.2.2.2.2.1]
  rw [if_neg (by omega : ¬ ¬ (0 ≤ (p : Int) ∧ (p : Int) < P))]
  by_cases s : ¬ gI M 68 0 p = 2
  · rw [if_neg s, if_neg s]; exact ⟨_, _, _, rfl, rfl, h⟩
  have s := Decidable.not_not.mp s
  rw [if_pos s, if_pos s]
  by_cases hy : ¬ (0 ≤ x2 ∧ x2 ≤ 5)
  · rw [if_pos hy, if_pos hy]; exact ⟨_, _, _, rfl, rfl, h⟩
  rw [if_neg hy, if_neg hy]
  by_cases hz : ¬ (0 ≤ x3 ∧ x3 ≤ 300)
  · rw [if_pos hz, if_pos hz]; exact ⟨_, _, _, rfl, rfl, h⟩
  rw [if_neg hz, if_neg hz]
  have hy := Decidable.not_not.mp hy
  have hz := Decidable.not_not.mp hz
  obtain ⟨k, rfl⟩ : ∃ k : Nat, x2 = k := ⟨x2.toNat, by omega⟩
  have hk : k < 6 := by omega
  have g6 : (0 : Int) ≤ ((6 * p + k : Nat) : Int) ∧ ((6 * p + k : Nat) : Int) < 96 := by omega
  have h0p : 0 < p := by
    rcases Nat.eq_zero_or_pos p with e | e
    · subst e; rw [(q.2.1 rfl).2] at s; omega
    · exact e
  have e5 : gI X 16 p k = gI M 124 0 (6 * p + k) := by
    rw [(hL p hp).2.2 k hk, ldS_leaf hr h0p s k P (Nat.le_refl P), if_pos hp]
  have b5 := (hL p hp).1 k hk
  have bX : ∀ p', p' ≤ p → -10000 ≤ gI X 16 p' k ∧ gI X 16 p' k ≤ 10000 := fun p' hp' => by
    rw [(hL p' (by omega)).2.2 k hk]
    have := ldS_b hr p' k hk P (Nat.le_refl P)
    omega
  obtain ⟨Y, a1, a2, a3, a4⟩ := rushL hr hk (c3 := x3) (c5 := gI X 16 p k) (by rw [e5]; omega) nf 16 p X hp (by omega) (by omega) (fun p' hp' => ⟨(hP p' hp').1.2.2.2.2.2.2, (hP p' hp').1.2.2.2.2.1⟩) bX
  have a3' : ∀ S : Nat → Nat → Bool, (∀ k, S 16 k = false) → eqS S Y X := fun S hs => a3.mono (n16 hs)
  rw [g_t (by omega), Int.toNat_natCast, a1, wr6 p k (by omega) hk, g_t g6, g_t g6, Int.toNat_natCast, e5]
  refine ⟨_, _, _, rfl, rfl, P, C, K, ⟨⟨hX.cg (a2 0) (a3' _ (fun _ => rfl)), hM.cg rfl (by repeat first | exact .rf | refine eqS_sI rfl ?_ | refine eqS_sR rfl ?_ | refine eqS_sB (fun _ => rfl) ?_ | refine eqS_sN (fun _ => rfl) ?_), hN.cg a2 (a3' _ (fun _ => rfl)) (by repeat first | exact .rf | refine eqS_sI rfl ?_ | refine eqS_sR rfl ?_ | refine eqS_sB (fun _ => rfl) ?_ | refine eqS_sN (fun _ => rfl) ?_)⟩, hS.cg (a3' _ (fun _ => rfl)) (fun j _ => (a3 15 j rfl).1 0) (by repeat first | exact .rf | refine eqS_sI rfl ?_ | refine eqS_sR rfl ?_ | refine eqS_sB (fun _ => rfl) ?_ | refine eqS_sN (fun _ => rfl) ?_), hF.cg (a3' _ (fun _ => rfl)) (by repeat first | exact .rf | refine eqS_sI rfl ?_ | refine eqS_sR rfl ?_ | refine eqS_sB (fun _ => rfl) ?_ | refine eqS_sN (fun _ => rfl) ?_), hB.cg (a3' _ (fun _ => rfl)) (by repeat first | exact .rf | refine eqS_sI rfl ?_ | refine eqS_sR rfl ?_ | refine eqS_sB (fun _ => rfl) ?_ | refine eqS_sN (fun _ => rfl) ?_), fun p' hp' => (hP p' hp').cg (a3' _ (fun _ => rfl)) (by repeat first | exact .rf | refine eqS_sI rfl ?_ | refine eqS_sR rfl ?_ | refine eqS_sB (fun _ => rfl) ?_ | refine eqS_sN (fun _ => rfl) ?_), fun p' hp' => ?_, fun c' hc' => (hC c' hc').cg (a3' _ (fun _ => rfl)) (fun j _ => (a3 15 j rfl).1 _) (by repeat first | exact .rf | refine eqS_sI rfl ?_ | refine eqS_sR rfl ?_ | refine eqS_sB (fun _ => rfl) ?_ | refine eqS_sN (fun _ => rfl) ?_) (Int.le_refl _), fun k' hk' => (hK k' hk').cg (a3' _ (fun _ => rfl)) (by repeat first | exact .rf | refine eqS_sI rfl ?_ | refine eqS_sR rfl ?_ | refine eqS_sB (fun _ => rfl) ?_ | refine eqS_sN (fun _ => rfl) ?_), hD.cg (by repeat first | exact .rf | refine eqS_sI rfl ?_ | refine eqS_sR rfl ?_ | refine eqS_sB (fun _ => rfl) ?_ | refine eqS_sN (fun _ => rfl) ?_), (by repeat first | exact hZ | refine RZ.sI (by first | rfl | (simp [zZ]; omega)) ?_)⟩⟩
  have q' := hL p' hp'
  unfold RLd
  refine ⟨fun j hj => ?_, fun sj j hj => ?_, fun j hj => ?_⟩
  · rw [gI_sI]
    split
    · exact hz
    · exact q'.1 j hj
  · rw [gI_sI] at sj
    rw [gI_sI, if_neg]
    · exact q'.2.1 (by simpa using sj) j hj
    · intro x
      have : p' = p := by omega
      subst this
      exact sj (by simpa using s)
  · rw [a4, q'.2.2 j hj, ldS_w hr h0p hk x3 p' j hj, e5]
    congr 1
    by_cases x : j = k ∧ below M 16 p p' = true
    · rw [if_pos x, if_pos ⟨hp, x⟩]
    · rw [if_neg x, if_neg (fun y => x y.2)]
end RU
