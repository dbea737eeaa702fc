/-! ===== what the wires are told ===== -/
abbrev oW (M : zS) (p : Nat) (d : Int) (c : Nat) : Prop := gI M 82 0 c = 2 ∧ gI M 83 0 c = p ∧ gI M 85 0 c = d
/-- cup c waits to go on wire p, up (1), down (0) -/
abbrev wW (M : zS) (p : Nat) (d : Int) (c : Nat) : Prop := gI M 82 0 c = 1 ∧ gI M 85 0 c = d ∧ (if d = 1 then gI M 83 0 c else gI M 86 0 c) = p
def tn (M : zS) (p : Nat) : Int := if gI M 77 0 p = -9 then 0 else gI M 77 0 p
def rk (M : zS) (p : Nat) (d : Int) (c : Nat) : Int := if d = 1 ∧ gI M 68 0 p = 1 ∧ gI M 73 0 p ≠ 0 then (if gI M 73 0 p = 2 ∧ gI M 87 0 c ≤ tn M p then gI M 87 0 c + 16 else gI M 87 0 c) else 0
def lx (M : zS) (p : Nat) (d : Int) (r c : Nat) : Prop := rk M p d r < rk M p d c ∨ (rk M p d r = rk M p d c ∧ (gI M 84 0 r < gI M 84 0 c ∨ (gI M 84 0 r = gI M 84 0 c ∧ r < c)))
def nrS (M : zS) (p : Nat) (d : Int) : Nat → Int
  | 0 => 1000
  | n + 1 => if gI M 82 0 n = 2 ∧ gI M 83 0 n = p ∧ gI M 85 0 n = d then imin (nrS M p d n) (gI M 109 0 n) else nrS M p d n
theorem nrS_s (M : zS) (p : Nat) (d : Int) (n : Nat) : nrS M p d (n + 1) = if gI M 82 0 n = 2 ∧ gI M 83 0 n = p ∧ gI M 85 0 n = d then imin (nrS M p d n) (gI M 109 0 n) else nrS M p d n := rfl
def wI (p : Nat) (d : Int) : Nat := if d = 1 then 2 * p else 2 * p + 1
theorem wI_1 (p : Nat) : wI p 1 = 2 * p := rfl
theorem wI_0 (p : Nat) : wI p 0 = 2 * p + 1 := rfl
theorem wI_ne {p p' : Nat} {d d' : Int} (hd : d = 0 ∨ d = 1) (hd' : d' = 0 ∨ d' = 1) (h : ¬ (p = p' ∧ d = d')) : wI p d ≠ wI p' d' := by
  rcases hd with rfl | rfl <;> rcases hd' with rfl | rfl
  · rw [wI_0, wI_0]; intro q; exact h ⟨by omega, rfl⟩
  · rw [wI_0, wI_1]; omega
  · rw [wI_1, wI_0]; omega
  · rw [wI_1, wI_1]; intro q; exact h ⟨by omega, rfl⟩
def fW (M Y : zS) (k p : Nat) (d : Int) : Prop := (gR Y 10 (wI p d) 3 = none ∧ ∀ c, c < k → ¬ wW M p d c) ∨ ∃ r, r < k ∧ gR Y 10 (wI p d) 3 = some r ∧ gI Y 10 (wI p d) 4 = rk M p d r ∧ wW M p d r ∧ ∀ c, c < k → wW M p d c → c = r ∨ lx M p d r c
/-- what way (p, d) has been told of the first k cups -/
def NSw (M Y : zS) (k p : Nat) (d : Int) : Prop := gI Y 10 (wI p d) 1 = onS M p d k ∧ gI Y 10 (wI p d) 2 = nrS M p d k ∧ fW M Y k p d
/-- the same at a way -/
def sameW (Y' Y : zS) (w : Nat) : Prop := ∀ j, gI Y' 10 w j = gI Y 10 w j ∧ gR Y' 10 w j = gR Y 10 w j
theorem fW_same {M Y Y' : zS} {k p : Nat} {d : Int} (h : fW M Y k p d) (s : sameW Y' Y (wI p d)) : fW M Y' k p d := by
  unfold fW at h ⊢
  rw [(s 3).2, (s 4).1]
  exact h
theorem NSw_same {M Y Y' : zS} {k p : Nat} {d : Int} (h : NSw M Y k p d) (s : sameW Y' Y (wI p d)) : NSw M Y' k p d :=
  ⟨(s 1).1.trans h.1, (s 2).1.trans h.2.1, fW_same h.2.2 s⟩
theorem fW_skip {M Y : zS} {k p : Nat} {d : Int} (h : fW M Y k p d) (w : ¬ wW M p d k) : fW M Y (k + 1) p d := by
  rcases h with ⟨h1, h2⟩ | ⟨r, r1, r2, r3, r4, r5⟩
  · refine Or.inl ⟨h1, fun c hc => ?_⟩
    by_cases e : c = k
    · subst e; exact w
    · exact h2 c (by omega)
  · refine Or.inr ⟨r, by omega, r2, r3, r4, fun c hc hw => ?_⟩
    by_cases e : c = k
    · subst e; exact absurd hw w
    · exact r5 c (by omega) hw
theorem NSw_skip {M Y : zS} {k p : Nat} {d : Int} (h : NSw M Y k p d) (o : ¬ oW M p d k) (w : ¬ wW M p d k) : NSw M Y (k + 1) p d := by
  refine ⟨?_, ?_, fW_skip h.2.2 w⟩
  · rw [onS_s, if_neg o, Int.add_zero]; exact h.1
  · rw [nrS_s, if_neg o]; exact h.2.1
section NT
variable {P C K : Nat} {D : Int} {X M Y : zS}
theorem clearL {nf : Nat} (κ : zS → Option (Unit × zS)) : ∀ (m n i : Nat) (Y : zS), i + m = P → m < n → 0 < i → RR P C K D Y M → (∀ p, 0 < p → p < i → ∀ d : Int, d = 0 ∨ d = 1 → NSw M Y 0 p d) → ∃ Y', fX10_letOnWires_L2 κ 0 nf n Y (i : Int) = κ Y' ∧ RR P C K D Y' M ∧ ∀ p, 0 < p → p < P → ∀ d : Int, d = 0 ∨ d = 1 → NSw M Y' 0 p d
  | 0, n + 1, i, Y, hi, _, h0, hr, hc => by
    have hN := hr.1.2.2
    refine ⟨Y, ?_, hr, fun p p0 p1 => hc p p0 (by omega)⟩
    unfold fX10_letOnWires_L2
    rw [if_neg (by rw [hN.2.2.1.1]; omega)]
  | m + 1, n + 1, i, Y, hi, hn, h0, hr, hc => by
    have hX := hr.1.1
    have hN := hr.1.2.2
    have h16 := hN.1
    have g : (0 : Int) ≤ (i : Int) ∧ (i : Int) < 16 := by omega
    obtain ⟨q1, -⟩ := hr.2.2.2.2.1 i (by omega)
    have hr2 : RR P C K D (sI (sR (sI (sI (sI (sR (sI (sI Y 10 (2 * i) 1 0) 10 (2 * i) 2 1000) 10 (2 * i) 3 none) 10 (2 * i) 4 0) 10 (2 * i + 1) 1 0) 10 (2 * i + 1) 2 1000) 10 (2 * i + 1) 3 none) 10 (2 * i + 1) 4 0) M := hr.sc (fun _ => by simp only [gI_sI, gI_sR, gI_sN, gI_sCp, gI_sB, gR_sI, gR_sR, gR_sN, gR_sCp, gR_sB, gN_sI, gN_sR, gN_sN, gN_sCp, gN_sB]) (fun _ => rfl) (by repeat first | refine eqS_sI rfl ?_ | refine eqS_sR rfl ?_ | refine eqS_sB (fun _ => rfl) ?_ | refine eqS_sN (fun _ => rfl) ?_ | exact .rf) (fun _ _ _ => by simp only [gI_sI, gI_sR, gI_sN, gI_sCp, gI_sB, gR_sI, gR_sR, gR_sN, gR_sCp, gR_sB, gN_sI, gN_sR, gN_sN, gN_sCp, gN_sB, ↓reduceIte, and_true, true_and, and_false, false_and, and_self, or_true, true_or, or_false, false_or, or_self, Nat.reduceEqDiff, Int.reduceNeg, ne_eq, not_true_eq_false, not_false_eq_true, Int.toNat_natCast, reduceCtorEq, i10, i01, implies_true, true_implies, false_implies, g_t (c := True) trivial]) .rf
    obtain ⟨Y', f1, f2, f3⟩ := clearL κ m n (i + 1) _ (by omega) (by omega) (by omega) hr2 (fun p p0 p1 d hd => by
      by_cases e : p = i
      · subst e
        rcases hd with rfl | rfl
        · unfold NSw fW
          rw [wI_0]
          have e1 : ¬ 2 * p + 1 = 2 * p := by omega
          simp only [gI_sI, gI_sR, gI_sN, gI_sCp, gI_sB, gR_sI, gR_sR, gR_sN, gR_sCp, gR_sB, gN_sI, gN_sR, gN_sN, gN_sCp, gN_sB, ↓reduceIte, and_true, true_and, and_false, false_and, and_self, or_true, true_or, or_false, false_or, or_self, Nat.reduceEqDiff, Int.reduceNeg, ne_eq, not_true_eq_false, not_false_eq_true, Int.toNat_natCast, reduceCtorEq, i10, i01, implies_true, true_implies, false_implies, g_t (c := True) trivial, e1]
          exact ⟨rfl, rfl, Or.inl (fun c hc => absurd hc (by omega))⟩
        · unfold NSw fW
          rw [wI_1]
          have e1 : ¬ 2 * p = 2 * p + 1 := by omega
          simp only [gI_sI, gI_sR, gI_sN, gI_sCp, gI_sB, gR_sI, gR_sR, gR_sN, gR_sCp, gR_sB, gN_sI, gN_sR, gN_sN, gN_sCp, gN_sB, ↓reduceIte, and_true, true_and, and_false, false_and, and_self, or_true, true_or, or_false, false_or, or_self, Nat.reduceEqDiff, Int.reduceNeg, ne_eq, not_true_eq_false, not_false_eq_true, Int.toNat_natCast, reduceCtorEq, i10, i01, implies_true, true_implies, false_implies, g_t (c := True) trivial, e1]
          exact ⟨rfl, rfl, Or.inl (fun c hc => absurd hc (by omega))⟩
      · refine NSw_same (hc p p0 (by omega) d hd) fun j => ?_
        have e1 : ¬ wI p d = 2 * i := by rw [← wI_1]; exact wI_ne hd (Or.inr rfl) (fun q => e q.1)
        have e2 : ¬ wI p d = 2 * i + 1 := by rw [← wI_0]; exact wI_ne hd (Or.inl rfl) (fun q => e q.1)
        simp only [gI_sI, gI_sR, gI_sN, gI_sCp, gI_sB, gR_sI, gR_sR, gR_sN, gR_sCp, gR_sB, gN_sI, gN_sR, gN_sN, gN_sCp, gN_sB, ↓reduceIte, and_true, true_and, and_false, false_and, and_self, or_true, true_or, or_false, false_or, or_self, Nat.reduceEqDiff, Int.reduceNeg, ne_eq, not_true_eq_false, not_false_eq_true, Int.toNat_natCast, reduceCtorEq, i10, i01, implies_true, true_implies, false_implies, g_t (c := True) trivial, e1, e2])
    refine ⟨Y', ?_, f2, f3⟩
    conv => lhs; unfold fX10_letOnWires_L2
    rw [if_pos (by rw [hN.2.2.1.1]; omega)]
    unfold fX9_clear
    simp only [nm_eq, up_eq, cl_some, ob_some, oe_some, oe_none, ob_none, gI_sI, gI_sR, gI_sN, gI_sCp, gI_sB, gR_sI, gR_sR, gR_sN, gR_sCp, gR_sB, gN_sI, gN_sR, gN_sN, gN_sCp, gN_sB, ↓reduceIte, and_true, true_and, and_false, false_and, and_self, or_true, true_or, or_false, false_or, or_self, Nat.reduceEqDiff, Int.reduceNeg, ne_eq, not_true_eq_false, not_false_eq_true, Int.toNat_natCast, reduceCtorEq, i10, i01, implies_true, true_implies, false_implies, g_t (c := True) trivial, hX.2.1 0 (by decide), g_t g, Int.toNat_natCast, q1.1, q1.2.2.1, q1.2.2.2.1, nat_wr i (by omega)]
    exact f1
theorem sc_way (hr : RR P C K D Y M) {w : Nat} {Y' : zS} (n : ∀ t, gN Y' t = gN Y t) (h : eqS (fun t k => !(t == 10 && (k == 1 || k == 2 || k == 3 || k == 4))) Y' Y) : RR P C K D Y' M := by
  refine hr.sc n (fun _ => rfl) (h.mono fun t k q => ?_) (fun i k _ => (h 15 k rfl).1 i) .rf
  cases e : (t == 10 && (k == 1 || k == 2 || k == 3 || k == 4))
  · rfl
  · exfalso
    simp at e
    obtain ⟨rfl, e⟩ := e
    have e : k = 1 ∨ k = 2 ∨ k = 3 ∨ k = 4 := by omega
    rcases e with rfl | rfl | rfl | rfl <;> cases q
/-- a cup is offered to a way -/
theorem offer_eq (hr : RR P C K D Y M) {k p : Nat} {d : Int} (hk : k < C) (hn : NSw M Y k p d) (hw : wW M p d k) : ∃ Y', fX9_offer Y (wI p d) (some k) (rk M p d k) = some ((), Y') ∧ RR P C K D Y' M ∧ NSw M Y' (k + 1) p d ∧ ∀ w, w ≠ wI p d → sameW Y' Y w := by
  have hC := hr.2.2.2.2.2.2.1
  have st : ∀ c, c < C → wW M p d c → gI Y 5 c 10 = gI M 84 0 c := fun c hc h => (hC c hc).2.2.2.2.2.2.2.2.2.2.2.2.2.2.2.2.1 (Or.inl h.1)
  have no : ¬ oW M p d k := fun q => by have := q.1; have := hw.1; omega
  have h1 : gI Y 10 (wI p d) 1 = onS M p d (k + 1) := by rw [onS_s, if_neg no, Int.add_zero]; exact hn.1
  have h2 : gI Y 10 (wI p d) 2 = nrS M p d (k + 1) := by rw [nrS_s, if_neg no]; exact hn.2.1
  have hr2 : RR P C K D (sI (sR Y 10 (wI p d) 3 (some k)) 10 (wI p d) 4 (rk M p d k)) M := sc_way hr (w := wI p d) (fun _ => by simp only [gI_sI, gI_sR, gI_sN, gI_sCp, gI_sB, gR_sI, gR_sR, gR_sN, gR_sCp, gR_sB, gN_sI, gN_sR, gN_sN, gN_sCp, gN_sB]) (by repeat first | refine eqS_sI rfl ?_ | refine eqS_sR rfl ?_ | refine eqS_sB (fun _ => rfl) ?_ | refine eqS_sN (fun _ => rfl) ?_ | exact .rf)
  have set_ : (∀ c, c < k → wW M p d c → c = k ∨ lx M p d k c) → NSw M (sI (sR Y 10 (wI p d) 3 (some k)) 10 (wI p d) 4 (rk M p d k)) (k + 1) p d := fun h => by
    refine ⟨?_, ?_, Or.inr ⟨k, by omega, ?_, ?_, hw, fun c hc hc2 => ?_⟩⟩
    · simp only [gI_sI, gI_sR, gI_sN, gI_sCp, gI_sB, gR_sI, gR_sR, gR_sN, gR_sCp, gR_sB, gN_sI, gN_sR, gN_sN, gN_sCp, gN_sB, ↓reduceIte, and_true, true_and, and_false, false_and, and_self, or_true, true_or, or_false, false_or, or_self, Nat.reduceEqDiff, Int.reduceNeg, ne_eq, not_true_eq_false, not_false_eq_true, Int.toNat_natCast, reduceCtorEq, i10, i01, implies_true, true_implies, false_implies, g_t (c := True) trivial]; exact h1
    · simp only [gI_sI, gI_sR, gI_sN, gI_sCp, gI_sB, gR_sI, gR_sR, gR_sN, gR_sCp, gR_sB, gN_sI, gN_sR, gN_sN, gN_sCp, gN_sB, ↓reduceIte, and_true, true_and, and_false, false_and, and_self, or_true, true_or, or_false, false_or, or_self, Nat.reduceEqDiff, Int.reduceNeg, ne_eq, not_true_eq_false, not_false_eq_true, Int.toNat_natCast, reduceCtorEq, i10, i01, implies_true, true_implies, false_implies, g_t (c := True) trivial]; exact h2
    · simp only [gI_sI, gI_sR, gI_sN, gI_sCp, gI_sB, gR_sI, gR_sR, gR_sN, gR_sCp, gR_sB, gN_sI, gN_sR, gN_sN, gN_sCp, gN_sB, ↓reduceIte, and_true, true_and, and_false, false_and, and_self, or_true, true_or, or_false, false_or, or_self, Nat.reduceEqDiff, Int.reduceNeg, ne_eq, not_true_eq_false, not_false_eq_true, Int.toNat_natCast, reduceCtorEq, i10, i01, implies_true, true_implies, false_implies, g_t (c := True) trivial]
    · simp only [gI_sI, gI_sR, gI_sN, gI_sCp, gI_sB, gR_sI, gR_sR, gR_sN, gR_sCp, gR_sB, gN_sI, gN_sR, gN_sN, gN_sCp, gN_sB, ↓reduceIte, and_true, true_and, and_false, false_and, and_self, or_true, true_or, or_false, false_or, or_self, Nat.reduceEqDiff, Int.reduceNeg, ne_eq, not_true_eq_false, not_false_eq_true, Int.toNat_natCast, reduceCtorEq, i10, i01, implies_true, true_implies, false_implies, g_t (c := True) trivial]
    · by_cases e : c = k
      · exact Or.inl e
      · exact h c (by omega) hc2
  have oth : ∀ w, w ≠ wI p d → sameW (sI (sR Y 10 (wI p d) 3 (some k)) 10 (wI p d) 4 (rk M p d k)) Y w := fun w h j => by
    simp only [gI_sI, gI_sR, gI_sN, gI_sCp, gI_sB, gR_sI, gR_sR, gR_sN, gR_sCp, gR_sB, gN_sI, gN_sR, gN_sN, gN_sCp, gN_sB, ↓reduceIte, and_true, true_and, and_false, false_and, and_self, or_true, true_or, or_false, false_or, or_self, Nat.reduceEqDiff, Int.reduceNeg, ne_eq, not_true_eq_false, not_false_eq_true, Int.toNat_natCast, reduceCtorEq, i10, i01, implies_true, true_implies, false_implies, g_t (c := True) trivial, h]
  unfold fX9_offer
  rcases hn.2.2 with ⟨g1, g2⟩ | ⟨r, g1, g2, g3, g4, g5⟩
  · rw [nm_eq, g1, oe_none, up_eq, up_eq]
    exact ⟨_, rfl, hr2, set_ (fun c hc q => absurd q (g2 c hc)), oth⟩
  · rw [nm_eq, g2, oe_some, g3]
    have sr := st r (by omega) g4
    have sk := st k hk hw
    by_cases l : rk M p d k < rk M p d r
    · rw [if_pos l, up_eq, up_eq]
      refine ⟨_, rfl, hr2, set_ (fun c hc q => Or.inr ?_), oth⟩
      rcases g5 c hc q with e | e
      · subst e; exact Or.inl l
      · unfold lx at e ⊢; omega
    · rw [if_neg l]
      by_cases e : rk M p d k = rk M p d r
      · rw [if_pos e, ob_some, nm_eq, ob_some, sr, sk]
        by_cases t : gI M 84 0 k < gI M 84 0 r
        · rw [if_pos t, up_eq, up_eq]
          refine ⟨_, rfl, hr2, set_ (fun c hc q => Or.inr ?_), oth⟩
          rcases g5 c hc q with e2 | e2
          · subst e2; exact Or.inr ⟨e, Or.inl t⟩
          · unfold lx at e2 ⊢; omega
        · rw [if_neg t]
          refine ⟨_, rfl, hr, ⟨h1, h2, Or.inr ⟨r, by omega, g2, g3, g4, fun c hc q => ?_⟩⟩, fun w _ j => ⟨rfl, rfl⟩⟩
          by_cases e2 : c = k
          · subst e2
            right; unfold lx; omega
          · exact g5 c (by omega) q
      · rw [if_neg e]
        refine ⟨_, rfl, hr, ⟨h1, h2, Or.inr ⟨r, by omega, g2, g3, g4, fun c hc q => ?_⟩⟩, fun w _ j => ⟨rfl, rfl⟩⟩
        by_cases e2 : c = k
        · subst e2
          right; unfold lx; omega
        · exact g5 c (by omega) q
/-- a cup on a way is told -/
theorem carry_eq (hr : RR P C K D Y M) {k p : Nat} {d : Int} (hk : k < C) (hn : NSw M Y k p d) (ho : oW M p d k) : ∃ Y', fX9_carry Y (wI p d) (gI M 109 0 k) = some ((), Y') ∧ RR P C K D Y' M ∧ NSw M Y' (k + 1) p d ∧ ∀ w, w ≠ wI p d → sameW Y' Y w := by
  have h16 := hr.1.2.2.1
  have b := onS_b M p d k
  have nw : ¬ wW M p d k := fun q => by have := q.1; have := ho.1; omega
  have w : wr (onS M p d k + 1) = onS M p d k + 1 := wr_id (by unfold zin; omega)
  unfold fX9_carry
  simp only [nm_eq, up_eq, cl_some, ob_some, oe_some, oe_none, ob_none, gI_sI, gI_sR, gI_sN, gI_sCp, gI_sB, gR_sI, gR_sR, gR_sN, gR_sCp, gR_sB, gN_sI, gN_sR, gN_sN, gN_sCp, gN_sB, ↓reduceIte, and_true, true_and, and_false, false_and, and_self, or_true, true_or, or_false, false_or, or_self, Nat.reduceEqDiff, Int.reduceNeg, ne_eq, not_true_eq_false, not_false_eq_true, Int.toNat_natCast, reduceCtorEq, i10, i01, implies_true, true_implies, false_implies, g_t (c := True) trivial, hn.1, hn.2.1, w]
  clear w
  refine ⟨_, rfl, sc_way hr (w := wI p d) (fun _ => by simp only [gI_sI, gI_sR, gI_sN, gI_sCp, gI_sB, gR_sI, gR_sR, gR_sN, gR_sCp, gR_sB, gN_sI, gN_sR, gN_sN, gN_sCp, gN_sB]) (by repeat first | refine eqS_sI rfl ?_ | refine eqS_sR rfl ?_ | refine eqS_sB (fun _ => rfl) ?_ | refine eqS_sN (fun _ => rfl) ?_ | exact .rf), ⟨?_, ?_, fW_skip ?_ nw⟩, fun w h j => ?_⟩
  · rw [onS_s, if_pos ho]; simp only [gI_sI, gI_sR, gI_sN, gI_sCp, gI_sB, gR_sI, gR_sR, gR_sN, gR_sCp, gR_sB, gN_sI, gN_sR, gN_sN, gN_sCp, gN_sB, ↓reduceIte, and_true, true_and, and_false, false_and, and_self, or_true, true_or, or_false, false_or, or_self, Nat.reduceEqDiff, Int.reduceNeg, ne_eq, not_true_eq_false, not_false_eq_true, Int.toNat_natCast, reduceCtorEq, i10, i01, implies_true, true_implies, false_implies, g_t (c := True) trivial]
  · rw [nrS_s, if_pos ho]; simp only [gI_sI, gI_sR, gI_sN, gI_sCp, gI_sB, gR_sI, gR_sR, gR_sN, gR_sCp, gR_sB, gN_sI, gN_sR, gN_sN, gN_sCp, gN_sB, ↓reduceIte, and_true, true_and, and_false, false_and, and_self, or_true, true_or, or_false, false_or, or_self, Nat.reduceEqDiff, Int.reduceNeg, ne_eq, not_true_eq_false, not_false_eq_true, Int.toNat_natCast, reduceCtorEq, i10, i01, implies_true, true_implies, false_implies, g_t (c := True) trivial]
  · have f := hn.2.2
    unfold fW at f ⊢
    simp only [gI_sI, gI_sR, gI_sN, gI_sCp, gI_sB, gR_sI, gR_sR, gR_sN, gR_sCp, gR_sB, gN_sI, gN_sR, gN_sN, gN_sCp, gN_sB, ↓reduceIte, and_true, true_and, and_false, false_and, and_self, or_true, true_or, or_false, false_or, or_self, Nat.reduceEqDiff, Int.reduceNeg, ne_eq, not_true_eq_false, not_false_eq_true, Int.toNat_natCast, reduceCtorEq, i10, i01, implies_true, true_implies, false_implies, g_t (c := True) trivial]
    exact f
  · simp only [gI_sI, gI_sR, gI_sN, gI_sCp, gI_sB, gR_sI, gR_sR, gR_sN, gR_sCp, gR_sB, gN_sI, gN_sR, gN_sN, gN_sCp, gN_sB, ↓reduceIte, and_true, true_and, and_false, false_and, and_self, or_true, true_or, or_false, false_or, or_self, Nat.reduceEqDiff, Int.reduceNeg, ne_eq, not_true_eq_false, not_false_eq_true, Int.toNat_natCast, reduceCtorEq, i10, i01, implies_true, true_implies, false_implies, g_t (c := True) trivial, h]
theorem noteStep (hr : RR P C K D Y M) {k : Nat} (hk : k < C) (hn : ∀ p, 0 < p → p < P → ∀ d : Int, d = 0 ∨ d = 1 → NSw M Y k p d) : ∃ Y', fX10_noteOnWires Y (some k) = some ((), Y') ∧ RR P C K D Y' M ∧ ∀ p, 0 < p → p < P → ∀ d : Int, d = 0 ∨ d = 1 → NSw M Y' (k + 1) p d := by
  have hP := hr.2.2.2.2.1
  have h16 := hr.1.2.2.1
  obtain ⟨⟨a0, a1, a2, a3⟩, ⟨b1, b2, b3, b4⟩, ⟨c1, c2, c3⟩, d4, d5, d6, d7, d8, d9, d10, d11, d12, d13, d14, d15, d16, -⟩ := hr.2.2.2.2.2.2.1 k hk
  -- nobody is told
  have skip : gI M 82 0 k ≠ 2 → (gI M 82 0 k = 1 → gI M 85 0 k = 0 ∧ gI M 86 0 k = -9) → ∀ p, 0 < p → p < P → ∀ d : Int, d = 0 ∨ d = 1 → NSw M Y (k + 1) p d := fun h h' p p0 p1 d hd => by
    refine NSw_skip (hn p p0 p1 d hd) (fun q => h q.1) fun q => ?_
    have h' := h' q.1
    have q2 := q.2.1
    have q3 := q.2.2
    rw [if_neg (by omega)] at q3
    omega
  have hz : gI M 82 0 k = 0 ∨ gI M 82 0 k = 1 ∨ gI M 82 0 k = 2 ∨ gI M 82 0 k = 3 ∨ gI M 82 0 k = 4 ∨ gI M 82 0 k = 5 ∨ gI M 82 0 k = 6 := by omega
  unfold fX10_noteOnWires
  rcases hz with z | z | z | z | z | z | z
  · refine ⟨Y, ?_, hr, skip (by omega) (by omega)⟩
    simp only [nm_eq, up_eq, cl_some, ob_some, oe_some, oe_none, ob_none, (d4 z).1, c1, z, Int.reduceEq, ↓reduceIte]
  · obtain ⟨q5, q5a, q5b⟩ := d5 (by omega)
    rcases d7.2 with g | g
    · obtain ⟨r7, r9, r10⟩ := d11 ⟨z, g⟩
      rcases r9 with r9 | r9
      · have r7 : gR Y 5 k 7 = none := by rw [r7, r9]; rfl
        refine ⟨Y, ?_, hr, skip (by omega) (fun _ => ⟨g, r9⟩)⟩
        simp only [nm_eq, up_eq, cl_some, ob_some, oe_some, oe_none, ob_none, q5, c1, z, d7.1, g, r7, Int.reduceEq, ↓reduceIte]
      · obtain ⟨p, ep⟩ : ∃ p : Nat, gI M 86 0 k = p := ⟨(gI M 86 0 k).toNat, by omega⟩
        have r7 : gR Y 5 k 7 = some p := by rw [r7, ox_eq]; exact ep
        have hw : wW M p 0 k := ⟨z, g, by rw [if_neg (by decide)]; exact ep⟩
        have rk0 : rk M p 0 k = 0 := by unfold rk; rw [if_neg (by omega)]
        have p0 : 0 < p := by omega
        have p1 : p < P := by omega
        obtain ⟨Y', f1, f2, f3, f4⟩ := offer_eq hr hk (hn p p0 p1 0 (Or.inl rfl)) hw
        rw [rk0, wI_0] at f1
        refine ⟨Y', ?_, f2, fun p' p0' p1' d hd => ?_⟩
        · simp only [nm_eq, up_eq, cl_some, ob_some, oe_some, oe_none, ob_none, q5, c1, z, d7.1, g, r7, Int.reduceEq, ↓reduceIte, (hP p p1).1.2.2.2.1, f1]
        · by_cases e : p' = p ∧ d = 0
          · obtain ⟨rfl, rfl⟩ := e; exact f3
          · refine NSw_same (NSw_skip (hn p' p0' p1' d hd) (fun q => by have := q.1; omega) fun q => e ?_) (f4 _ (wI_ne hd (Or.inl rfl) e))
            have q2 := q.2.1
            have q3 := q.2.2
            rw [if_neg (by omega)] at q3
            exact ⟨by omega, by omega⟩
    · obtain ⟨p, ep⟩ : ∃ p : Nat, gI M 83 0 k = p := ⟨(gI M 83 0 k).toNat, by omega⟩
      have q8 := d8 ⟨z, g⟩
      rw [ep] at q5 q8 d9 d10
      simp only [Int.toNat_natCast] at q5 d9 d10
      have p0 : 0 < p := by omega
      have p1 : p < P := by omega
      have hw : wW M p 1 k := ⟨z, g, by rw [if_pos rfl]; exact ep⟩
      obtain ⟨e1, -, -, -, -, -, e7, -, -, e10, -⟩ := hP p p1
      have e10 := (e10 p0).1.1
      have rke : fX7_rank Y p (gR Y 5 k 6) = some (rk M p 1 k, Y) := by
        unfold fX7_rank rk
        by_cases s : gI M 68 0 p = 1
        · obtain ⟨r6, r6a, r6b, r6c⟩ := d9 ⟨z, g, s⟩
          have n6 : gI Y 8 (gI M 87 0 k).toNat 0 = gI M 87 0 k := by rw [(hP _ (by omega)).1.2.1]; omega
          rw [r6, oe_some, e7.1, e10, n6]
          have t : (if gI M 77 0 p = -9 then (0 : Int) else gI M 77 0 p) = tn M p := rfl
          rw [t]
          by_cases s0 : gI M 73 0 p = 0
          · rw [if_pos s0, if_neg (by omega)]
          · rw [if_neg s0, if_pos (show ((1 : Int) = 1 ∧ gI M 68 0 p = 1 ∧ gI M 73 0 p ≠ 0) from ⟨rfl, s, s0⟩)]
            by_cases s2 : gI M 73 0 p = 2
            · rw [if_pos s2]
              by_cases l : tn M p < gI M 87 0 k
              · rw [if_pos l, if_neg (show ¬ (gI M 73 0 p = 2 ∧ gI M 87 0 k ≤ tn M p) by omega)]
              · rw [if_neg l, if_pos (show gI M 73 0 p = 2 ∧ gI M 87 0 k ≤ tn M p from ⟨s2, by omega⟩), wr_id (by unfold zin; omega)]
            · rw [if_neg s2, if_neg (show ¬ (gI M 73 0 p = 2 ∧ gI M 87 0 k ≤ tn M p) by omega)]
        · rw [d10 (by omega), oe_none, if_neg (by omega)]
      obtain ⟨Y', f1, f2, f3, f4⟩ := offer_eq hr hk (hn p p0 p1 1 (Or.inr rfl)) hw
      rw [wI_1] at f1
      have r7 := d12 (by omega)
      refine ⟨Y', ?_, f2, fun p' p0' p1' d hd => ?_⟩
      · simp only [nm_eq, up_eq, cl_some, ob_some, oe_some, oe_none, ob_none, q5, c1, z, d7.1, g, Int.reduceEq, ↓reduceIte, e1.2.2.1, rke, f1]
      · by_cases e : p' = p ∧ d = 1
        · obtain ⟨rfl, rfl⟩ := e; exact f3
        · refine NSw_same (NSw_skip (hn p' p0' p1' d hd) (fun q => by have := q.1; omega) fun q => e ?_) (f4 _ (wI_ne hd (Or.inr rfl) e))
          have q2 := q.2.1
          have q3 := q.2.2
          rw [if_pos (by omega)] at q3
          exact ⟨by omega, by omega⟩
  · obtain ⟨q5, q5a, q5b⟩ := d5 (by omega)
    obtain ⟨p, ep⟩ : ∃ p : Nat, gI M 83 0 k = p := ⟨(gI M 83 0 k).toNat, by omega⟩
    have q16 := d16 z
    rw [ep] at q5 q16
    simp only [Int.toNat_natCast] at q5 q16
    have p0 : 0 < p := by omega
    have p1 : p < P := by omega
    obtain ⟨e1, -⟩ := hP p p1
    have ho : oW M p (gI M 85 0 k) k := ⟨z, ep, rfl⟩
    obtain ⟨Y', f1, f2, f3, f4⟩ := carry_eq hr hk (hn p p0 p1 _ d7.2) ho
    refine ⟨Y', ?_, f2, fun p' p0' p1' d hd => ?_⟩
    · rcases d7.2 with g | g
      · rw [g, wI_0] at f1
        simp only [nm_eq, up_eq, cl_some, ob_some, oe_some, oe_none, ob_none, q5, c1, z, d7.1, g, Int.reduceEq, ↓reduceIte, e1.2.2.2.1, d15, f1]
      · rw [g, wI_1] at f1
        simp only [nm_eq, up_eq, cl_some, ob_some, oe_some, oe_none, ob_none, q5, c1, z, d7.1, g, Int.reduceEq, ↓reduceIte, e1.2.2.1, d15, f1]
    · by_cases e : p' = p ∧ d = gI M 85 0 k
      · obtain ⟨rfl, rfl⟩ := e; exact f3
      · refine NSw_same (NSw_skip (hn p' p0' p1' d hd) (fun q => e ?_) fun q => by have := q.1; omega) (f4 _ (wI_ne hd d7.2 e))
        have q2 := q.2.1
        have q3 := q.2.2
        exact ⟨by omega, q3.symm⟩
  · refine ⟨Y, ?_, hr, skip (by omega) (by omega)⟩
    simp only [nm_eq, up_eq, cl_some, ob_some, oe_some, oe_none, ob_none, d6 (by omega)]
  · refine ⟨Y, ?_, hr, skip (by omega) (by omega)⟩
    simp only [nm_eq, up_eq, cl_some, ob_some, oe_some, oe_none, ob_none, d6 (by omega)]
  · refine ⟨Y, ?_, hr, skip (by omega) (by omega)⟩
    simp only [nm_eq, up_eq, cl_some, ob_some, oe_some, oe_none, ob_none, (d5 (by omega)).1, c1, z, Int.reduceEq, ↓reduceIte]
  · refine ⟨Y, ?_, hr, skip (by omega) (by omega)⟩
    simp only [nm_eq, up_eq, cl_some, ob_some, oe_some, oe_none, ob_none, d6 (by omega)]
theorem noteL {nf : Nat} (κ : zS → Option (Unit × zS)) : ∀ (m n k : Nat) (Y : zS), k + m = C → m < n → RR P C K D Y M → (∀ p, 0 < p → p < P → ∀ d : Int, d = 0 ∨ d = 1 → NSw M Y k p d) → ∃ Y', fX10_letOnWires_L42 κ 0 nf n Y (k : Int) = κ Y' ∧ RR P C K D Y' M ∧ ∀ p, 0 < p → p < P → ∀ d : Int, d = 0 ∨ d = 1 → NSw M Y' C p d
  | 0, n + 1, k, Y, hk, _, hr, hn => by
    have hN := hr.1.2.2
    have e : k = C := by omega
    refine ⟨Y, ?_, hr, e ▸ hn⟩
    unfold fX10_letOnWires_L42
    rw [if_neg (by rw [hN.2.2.1.2.1]; omega)]
  | m + 1, n + 1, k, Y, hk, hf, hr, hn => by
    have hX := hr.1.1
    have hN := hr.1.2.2
    have h16 := hN.1
    have gk : (0 : Int) ≤ (k : Int) ∧ (k : Int) < 24 := by omega
    have a0 := (hr.2.2.2.2.2.2.1 k (by omega)).1.1
    obtain ⟨Y1, f1, f2, f3⟩ := noteStep hr (k := k) (by omega) hn
    obtain ⟨Y', g1, g2, g3⟩ := noteL κ m n (k + 1) Y1 (by omega) (by omega) f2 f3
    refine ⟨Y', ?_, g2, g3⟩
    conv => lhs; unfold fX10_letOnWires_L42
    rw [if_pos (by rw [hN.2.2.1.2.1]; omega)]
    simp only [nm_eq, up_eq, cl_some, ob_some, oe_some, oe_none, ob_none, hX.2.1 1 (by decide), g_t gk, Int.toNat_natCast, a0, f1, nat_wr k (by omega)]
    exact g1
end NT
