/-! ===== the model's walk over all lines ===== -/
def MI (s : Nat) (asc : Nat → Nat) (T : Int) (N : zS) (S : Int × List Nat) (x1 : Int) : Prop := S.1 < 1000000 ∧ 0 ≤ S.1 ∧ gI N 64 0 57 = S.1 ∧ x1 = T ∧ ∀ j, j < s → gI N 122 0 j = ((asc (fnl S.2 j) : Nat) : Int)
theorem fnl_map (s : Nat) (a : Nat → Nat) (j : Nat) (h : j < s) : fnl ((List.range s).map a) j = a j := by
  unfold fnl
  rw [List.getD_eq_getElem?_getD, List.getElem?_map, List.getElem?_range h]
  rfl
section LB
variable {P C K : Nat} {D : Int} {X M : zS}
theorem bestS {nf : Nat} (hnf : 1000 ≤ nf) (hr : RR P C K D X M) (hK : 0 < K) {s : Nat} (h0 : 0 < s) (hs : s ≤ 6) {asc : Nat → Nat} (hac : ∀ x, x < s → asc x < C) {w d : Nat → Int} (hw : w = fun x => gI M 64 0 13 - sentv M (asc x)) (hd : d = dn (fun j => gI X 3 j 3) (fun j => gI X 3 j 1) K) {T : Int} (l : List Nat) (n : Nat) (N : zS) (S : Int × List Nat) (x1 : Int) (hl : ∀ j, j < s → fnl l j < s) (hT : sE w l s + sD d s = T) (hN : oB N M) (h52 : gI N 64 0 52 = s) (hR : Rw s asc N (fnl l)) (hI : MI s asc T N S x1 ∨ (S.1 = 1000000 ∧ gI N 64 0 57 < 0)) :
    ∃ N2, fX11_layBest_L60 0 nf (n + 1) N x1 1 = (cl_ (fX11_nextLine nf N2 0) fun (x_8 : Int) (s_7 : zS) => fX11_layBest_L60 0 nf n s_7 T x_8) ∧ oB N2 M ∧ gI N2 64 0 52 = s ∧ Rw s asc N2 (fnl l) ∧ MI s asc T N2 (stp w d s S l) T := by
  have cb := clerk_b hr
  have h16 := hr.1.2.2.1
  have hclk := hr.2.1.1
  have hwb : ∀ x, x < s → 0 ≤ w x ∧ w x ≤ 20000 := fun x hx => by
    have := sentv_b hr (hac x hx)
    rw [hw]
    show 0 ≤ gI M 64 0 13 - sentv M (asc x) ∧ gI M 64 0 13 - sentv M (asc x) ≤ 20000
    omega
  have hdb : ∀ i, i < s → 0 ≤ d i ∧ d i ≤ 1000 := fun i hi => by
    have := dn_b hK cb.1 cb.2 i
    rw [hd]
    omega
  have hrN := hr.oB hN
  obtain ⟨N1, m1, m2, m3, m4⟩ := measure_eq hnf hrN hK hs h52 (cp := fun j => asc (fnl l j)) (fun j hj => ⟨hac _ (hl j hj), hR j hj⟩) cb.1 cb.2
  have ef : (fun q => gI N 64 0 13 - sentv N (asc (fnl l q))) = fun q => w (fnl l q) := by
    funext q
    have e1 : gI N 64 0 13 = gI M 64 0 13 := hN.2.2 64 0 13 (by omega)
    have e2 : sentv N (asc (fnl l q)) = sentv M (asc (fnl l q)) := by
      unfold sentv
      rw [hN.2.2 88 0 _ (by omega), hN.2.2 90 0 _ (by omega)]
    rw [e1, e2, hw]
  rw [ef, ← hd, if_neg (by omega), mg_l] at m3
  rw [ef, ← hd, (sm_e hs hwb hdb hl s (Nat.le_refl s)).1, hT] at m4
  have mb := mgl_b hs hwb hdb hl s (Nat.le_refl s)
  have o1 : oB N1 M := m2.b.tr hN
  have e57 : gI N1 64 0 57 = gI N 64 0 57 := m2.2.2 64 0 57 (by omega)
  have e52 : gI N1 64 0 52 = s := (m2.2.2 64 0 52 (by omega)).trans h52
  have R1 : Rw s asc N1 (fnl l) := fun j hj => (m2.2.2 117 0 j (by omega)).trans (hR j hj)
  have hM1 := (hr.oB o1).1.2.1
  -- the new line is taken
  obtain ⟨N2, c1, c2, c3, c4⟩ := copy122 (nf := nf) (fun (s_12 : zS) => cl_ (fX11_nextLine nf s_12 0) fun (x_8 : Int) (s_7 : zS) => fX11_layBest_L60 0 nf n s_7 T x_8) T hs hM1 e52 s nf 0 (sI N1 64 0 57 (mgl w d l s)) (by omega) (by omega) (oB.rf.sI (by omega)) (by simp only [gI_sI, gI_sR, gI_sN, gI_sCp, gI_sB, gR_sI, gR_sR, gR_sN, gR_sCp, gR_sB, gN_sI, gN_sR, gN_sN, gN_sCp, gN_sB, ↓reduceIte, and_true, true_and, and_false, false_and, and_self, or_true, true_or, or_false, false_or, or_self, Nat.reduceEqDiff, Int.reduceNeg, ne_eq, not_true_eq_false, not_false_eq_true, Int.toNat_natCast, reduceCtorEq, i10, i01, implies_true, true_implies, false_implies, g_t (c := True) trivial]; exact e52)
  have take : ∃ N2, fX11_layBest_L120 (fun (s_12 : zS) => cl_ (fX11_nextLine nf s_12 0) fun (x_8 : Int) (s_7 : zS) => fX11_layBest_L60 0 nf n s_7 T x_8) 0 T nf nf (sI N1 64 0 57 (mgl w d l s)) 0 = (cl_ (fX11_nextLine nf N2 0) fun (x_8 : Int) (s_7 : zS) => fX11_layBest_L60 0 nf n s_7 T x_8) ∧ oB N2 M ∧ gI N2 64 0 52 = s ∧ Rw s asc N2 (fnl l) ∧ MI s asc T N2 (mgl w d l s, l) T := by
    refine ⟨N2, c1, c2.tr o1, (c3 64 0 52 (by decide)).trans (by simp only [gI_sI, gI_sR, gI_sN, gI_sCp, gI_sB, gR_sI, gR_sR, gR_sN, gR_sCp, gR_sB, gN_sI, gN_sR, gN_sN, gN_sCp, gN_sB, ↓reduceIte, and_true, true_and, and_false, false_and, and_self, or_true, true_or, or_false, false_or, or_self, Nat.reduceEqDiff, Int.reduceNeg, ne_eq, not_true_eq_false, not_false_eq_true, Int.toNat_natCast, reduceCtorEq, i10, i01, implies_true, true_implies, false_implies, g_t (c := True) trivial]; exact e52), fun j hj => ?_, ?_⟩
    · rw [c3 117 0 j (by decide)]; simp only [gI_sI, gI_sR, gI_sN, gI_sCp, gI_sB, gR_sI, gR_sR, gR_sN, gR_sCp, gR_sB, gN_sI, gN_sR, gN_sN, gN_sCp, gN_sB, ↓reduceIte, and_true, true_and, and_false, false_and, and_self, or_true, true_or, or_false, false_or, or_self, Nat.reduceEqDiff, Int.reduceNeg, ne_eq, not_true_eq_false, not_false_eq_true, Int.toNat_natCast, reduceCtorEq, i10, i01, implies_true, true_implies, false_implies, g_t (c := True) trivial]; exact R1 j hj
    · refine ⟨?_, mb.1, ?_, rfl, fun j hj => ?_⟩
      · show mgl w d l s < 1000000
        omega
      · rw [c3 64 0 57 (by decide)]; simp only [gI_sI, gI_sR, gI_sN, gI_sCp, gI_sB, gR_sI, gR_sR, gR_sN, gR_sCp, gR_sB, gN_sI, gN_sR, gN_sN, gN_sCp, gN_sB, ↓reduceIte, and_true, true_and, and_false, false_and, and_self, or_true, true_or, or_false, false_or, or_self, Nat.reduceEqDiff, Int.reduceNeg, ne_eq, not_true_eq_false, not_false_eq_true, Int.toNat_natCast, reduceCtorEq, i10, i01, implies_true, true_implies, false_implies, g_t (c := True) trivial]
      · rw [c4, if_pos ⟨Nat.zero_le j, hj⟩]; simp only [gI_sI, gI_sR, gI_sN, gI_sCp, gI_sB, gR_sI, gR_sR, gR_sN, gR_sCp, gR_sB, gN_sI, gN_sR, gN_sN, gN_sCp, gN_sB, ↓reduceIte, and_true, true_and, and_false, false_and, and_self, or_true, true_or, or_false, false_or, or_self, Nat.reduceEqDiff, Int.reduceNeg, ne_eq, not_true_eq_false, not_false_eq_true, Int.toNat_natCast, reduceCtorEq, i10, i01, implies_true, true_implies, false_implies, g_t (c := True) trivial]; exact R1 j hj
  have st : fX11_layBest_L60 0 nf (n + 1) N x1 1 = (if gI N1 64 0 57 < 0 then fX11_layBest_L120 (fun (s_12 : zS) => cl_ (fX11_nextLine nf s_12 0) fun (x_8 : Int) (s_7 : zS) => fX11_layBest_L60 0 nf n s_7 T x_8) 0 T nf nf (sI N1 64 0 57 (mgl w d l s)) 0 else (if mgl w d l s < gI N1 64 0 57 then fX11_layBest_L120 (fun (s_12 : zS) => cl_ (fX11_nextLine nf s_12 0) fun (x_8 : Int) (s_7 : zS) => fX11_layBest_L60 0 nf n s_7 T x_8) 0 T nf nf (sI N1 64 0 57 (mgl w d l s)) 0 else (if mgl w d l s = gI N1 64 0 57 then (if T < x1 then fX11_layBest_L120 (fun (s_12 : zS) => cl_ (fX11_nextLine nf s_12 0) fun (x_8 : Int) (s_7 : zS) => fX11_layBest_L60 0 nf n s_7 T x_8) 0 T nf nf (sI N1 64 0 57 (mgl w d l s)) 0 else (cl_ (fX11_nextLine nf N1 0) fun (x_8 : Int) (s_7 : zS) => fX11_layBest_L60 0 nf n s_7 x1 x_8)) else (cl_ (fX11_nextLine nf N1 0) fun (x_8 : Int) (s_7 : zS) => fX11_layBest_L60 0 nf n s_7 x1 x_8)))) := by
    conv => lhs; unfold fX11_layBest_L60
    rw [if_neg (show ¬ (1 : Int) = 0 by decide), m1]
    simp only [nm_eq, up_eq, cl_some, ob_some, oe_some, oe_none, ob_none, m3, m4, gI_sI, ↓reduceIte, and_true, true_and, and_false, false_and, and_self, or_true, true_or, or_false, false_or, or_self, Nat.reduceEqDiff, Int.reduceNeg, ne_eq, not_true_eq_false, not_false_eq_true, Int.toNat_natCast, reduceCtorEq, i10, i01, implies_true, true_implies, false_implies, g_t (c := True) trivial]
  rw [st, e57]
  rcases hI with ⟨i1, i2, i3, i4, i5⟩ | ⟨i1, i2⟩
  · rw [i3, if_neg (by omega)]
    by_cases lt : mgl w d l s < S.1
    · rw [if_pos lt]
      have e : stp w d s S l = (mgl w d l s, l) := if_pos lt
      rw [e]
      exact take
    · have e : stp w d s S l = S := if_neg lt
      rw [if_neg lt, e, i4, if_neg (show ¬ T < T by omega)]
      refine ⟨N1, by split <;> rfl, o1, e52, R1, i1, i2, e57.trans i3, rfl, fun j hj => (m2.2.2 122 0 j (by omega)).trans (i5 j hj)⟩
  · rw [if_pos i2]
    have e : stp w d s S l = (mgl w d l s, l) := if_pos (by rw [i1]; omega)
    rw [e]
    exact take
theorem bestL {nf : Nat} (hnf : 1000 ≤ nf) (hr : RR P C K D X M) (hK : 0 < K) {s : Nat} (h0 : 0 < s) (hs : s ≤ 6) {asc : Nat → Nat} (hasc : ∀ x y, x < s → y < s → (asc x < asc y ↔ x < y)) (hac : ∀ x, x < s → asc x < C) {w d : Nat → Int} (hw : w = fun x => gI M 64 0 13 - sentv M (asc x)) (hd : d = dn (fun j => gI X 3 j 3) (fun j => gI X 3 j 1) K) {T : Int} :
    ∀ (L : List (List Nat)) (l : List Nat) (n : Nat) (N : zS) (S : Int × List Nat) (x1 : Int), chk s (l :: L) = true → (∀ p, p ∈ l :: L → (∀ j, j < s → fnl p j < s) ∧ sE w p s + sD d s = T) → L.length + 2 ≤ n → oB N M → gI N 64 0 52 = s → Rw s asc N (fnl l) → (MI s asc T N S x1 ∨ (S.1 = 1000000 ∧ gI N 64 0 57 < 0)) →
    ∃ N', fX11_layBest_L60 0 nf n N x1 1 = some ((), N') ∧ oB N' M ∧ gI N' 64 0 52 = s ∧ MI s asc T N' ((l :: L).foldl (stp w d s) S) T := by
  intro L
  induction L with
  | nil =>
    intro l n N S x1 hc hp hn hN h52 hR hI
    obtain ⟨n, rfl⟩ : ∃ j, n = j + 2 := ⟨n - 2, by simp at hn; omega⟩
    obtain ⟨q1, q2⟩ := hp l (List.mem_cons_self ..)
    obtain ⟨N2, e1, e2, e3, e4, e5⟩ := bestS hnf hr hK h0 hs hac hw hd l (n + 1) N S x1 q1 q2 hN h52 hR hI
    have nx := next_eq (nf := nf) hnf (hr.oB e2).1.2.1 h0 hs hasc (N := N2) oN.rf e3 q1 e4
    have hc : (nextL s l).isNone = true := hc
    unfold nextL at hc
    cases e : nextA s (fnl l) with
    | none =>
      rw [e] at nx
      refine ⟨N2, e1.trans ?_, e2, e3, e5⟩
      have nx : fX11_nextLine nf N2 0 = some (0, N2) := nx
      rw [nx, cl_some]
      unfold fX11_layBest_L60
      rw [if_pos rfl]
    | some a => rw [e] at hc; cases hc
  | cons l' L ih =>
    intro l n N S x1 hc hp hn hN h52 hR hI
    obtain ⟨n, rfl⟩ : ∃ j, n = j + 1 := ⟨n - 1, by omega⟩
    obtain ⟨q1, q2⟩ := hp l (List.mem_cons_self ..)
    obtain ⟨N2, e1, e2, e3, e4, e5⟩ := bestS hnf hr hK h0 hs hac hw hd l n N S x1 q1 q2 hN h52 hR hI
    have nx := next_eq (nf := nf) hnf (hr.oB e2).1.2.1 h0 hs hasc (N := N2) oN.rf e3 q1 e4
    have hc : ((nextL s l == some l') && chk s (l' :: L)) = true := hc
    rw [Bool.and_eq_true, beq_iff_eq] at hc
    obtain ⟨hc1, hc2⟩ := hc
    unfold nextL at hc1
    cases e : nextA s (fnl l) with
    | none => rw [e] at hc1; cases hc1
    | some a =>
      rw [e] at nx hc1
      obtain ⟨N3, f1, f2, f3, f4⟩ := nx
      have hl' : (List.range s).map a = l' := Option.some.inj hc1
      have R3 : Rw s asc N3 (fnl l') := fun j hj => by
        rw [f4 j hj, ← hl', fnl_map s a j hj]
      have I3 : MI s asc T N3 (stp w d s S l) T := ⟨e5.1, e5.2.1, (f2.2.2 64 0 57 (by decide) (by omega)).trans e5.2.2.1, rfl, fun j hj => (f2.2.2 122 0 j (by decide) (by omega)).trans (e5.2.2.2.2 j hj)⟩
      obtain ⟨N', g1, g2, g3, g4⟩ := ih l' n N3 (stp w d s S l) T hc2 (fun p hp' => hp p (List.mem_cons_of_mem _ hp')) (by simp at hn ⊢; omega) (f2.b.tr e2) f3 R3 (Or.inl I3)
      refine ⟨N', e1.trans ?_, g2, g3, g4⟩
      rw [f1, cl_some]
      exact g1
end LB
