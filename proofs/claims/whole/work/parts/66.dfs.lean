/-! ===== the class's search, depth first ===== -/
def oD (Y' Y : zS) : Prop := (∀ t, gN Y' t = gN Y t) ∧ (∀ t i k, gR Y' t i k = gR Y t i k) ∧ ∀ t i k, ¬ (t = 26 ∨ t = 27 ∨ t = 28 ∨ (t = 7 ∧ k = 9)) → gI Y' t i k = gI Y t i k
theorem oD.rf {Y : zS} : oD Y Y := ⟨fun _ => rfl, fun _ _ _ => rfl, fun _ _ _ _ => rfl⟩
theorem oD.sI {Y Z : zS} {t i k : Nat} {v : Int} (q : t = 26 ∨ t = 27 ∨ t = 28 ∨ (t = 7 ∧ k = 9)) (h : oD Y Z) : oD (sI Y t i k v) Z := ⟨h.1, h.2.1, fun t' i' k' q' => by
  rw [gI_sI, if_neg]
  · exact h.2.2 t' i' k' q'
  · rintro ⟨rfl, rfl, rfl⟩; exact q' q⟩
theorem fnl_l (pre : List Nat) (x j : Nat) (h : j < pre.length) : fnl (pre ++ [x]) j = fnl pre j := by
  unfold fnl
  rw [List.getD_eq_getElem?_getD, List.getD_eq_getElem?_getD, List.getElem?_append_left h]
theorem fnl_e (pre : List Nat) (x : Nat) : fnl (pre ++ [x]) pre.length = x := by
  unfold fnl
  rw [List.getD_eq_getElem?_getD, List.getElem?_append_right (Nat.le_refl _), Nat.sub_self]
  rfl
/-- what the search holds -/
def ID (X : zS) (s : Nat) (Y : zS) (pre : List Nat) (S : Int × List Nat) : Prop := oD Y X ∧ (∀ x, x < 6 → gI Y 28 0 x = if pre.contains x = true then 1 else 0) ∧ (∀ j, j < pre.length → gI Y 26 0 j = fnl pre j) ∧ gI Y 7 0 9 = S.1 ∧ (S.1 < 1000000 → ∀ j, j < s → gI Y 27 0 j = fnl S.2 j)
section DF
variable {P C K : Nat} {D : Int} {X M : zS}
theorem searchL {nf : Nat} (hnf : 1000 ≤ nf) (hX : RX X) {s : Nat} (hs : s ≤ 6) (h4 : gI X 7 0 4 = s) {w d : Nat → Int} (hw : ∀ l, l < s → gI X 24 0 l = w l ∧ gI X 25 0 l = d l) : ∀ (r E : Nat) (pre : List Nat) (S : Int × List Nat) (Y : zS), pre.length + r = s → r < E → ID X s Y pre S → ∃ Y', fX6_search_R nf E Y (some 0) (pre.length : Int) (mgl w d pre pre.length) = some ((), Y') ∧ ID X s Y' pre ((ext s r pre).foldl (stp w d s) S) := by
  intro r
  induction r with
  | zero =>
    intro E pre S Y hp hE hI
    obtain ⟨E, rfl⟩ : ∃ j, E = j + 1 := ⟨E - 1, by omega⟩
    obtain ⟨i1, i2, i3, i4, i5⟩ := hI
    have r7 := fun k => i1.2.1 7 0 k
    have e4 : gI Y 7 0 4 = s := (i1.2.2 7 0 4 (by omega)).trans h4
    have ef : (ext s 0 pre).foldl (stp w d s) S = stp w d s S pre := rfl
    rw [ef]
    unfold fX6_search_R fX6_search_B stp
    have es : pre.length = s := by omega
    rw [ob_some, i4, es]
    by_cases lt : mgl w d pre s < S.1
    · rw [if_pos lt, if_pos lt, e4, if_neg (by omega)]
      simp only [nm_eq, up_eq, cl_some, ob_some, oe_some, oe_none, ob_none, gR_sI, r7, hX.2.1 0 (by decide), hX.2.1 1 (by decide), hX.2.1 2 (by decide), hX.2.1 3 (by decide), hX.2.1 4 (by decide), hX.2.1 5 (by decide), hX.2.1 6 (by decide), hX.2.1 7 (by decide), hX.2.1 8 (by decide), hX.2.1 9 (by decide), hX.2.2.1.1, hX.2.2.1.2, hX.2.2.2.1.1, hX.2.2.2.1.2, hX.2.2.2.2.1, hX.2.2.2.2.2.1.1, hX.2.2.2.2.2.1.2.1, hX.2.2.2.2.2.1.2.2, hX.2.2.2.2.2.2.1.1, hX.2.2.2.2.2.2.1.2.1, hX.2.2.2.2.2.2.1.2.2.1, hX.2.2.2.2.2.2.1.2.2.2.1, hX.2.2.2.2.2.2.1.2.2.2.2.1, hX.2.2.2.2.2.2.1.2.2.2.2.2.1, hX.2.2.2.2.2.2.1.2.2.2.2.2.2, gI_sI, ↓reduceIte, and_true, true_and, and_false, false_and, and_self, or_true, true_or, or_false, false_or, or_self, Nat.reduceEqDiff, Int.reduceNeg, ne_eq, not_true_eq_false, not_false_eq_true, Int.toNat_natCast, reduceCtorEq, i10, i01, implies_true, true_implies, false_implies, g_t (c := True) trivial, e4]
      rw [g_t (by omega)]
      refine ⟨_, rfl, ⟨i1.1, i1.2.1, fun t i k q => ?_⟩, fun x hx => ?_, fun j hj => ?_, ?_, fun _ j hj => ?_⟩
      · rw [gI_sCp, if_neg (by omega), gI_sI, if_neg (by omega)]
        exact i1.2.2 t i k q
      · rw [gI_sCp, if_neg (by omega), gI_sI, if_neg (by omega)]; exact i2 x hx
      · rw [gI_sCp, if_neg (by omega), gI_sI, if_neg (by omega)]; exact i3 j hj
      · rw [gI_sCp, if_neg (by omega), gI_sI, if_pos ⟨rfl, rfl, rfl⟩]
      · have e0 : Int.toNat 0 = 0 := rfl
        rw [gI_sCp, e0, if_pos ⟨rfl, rfl, by omega, by omega⟩, gI_sI, if_neg (by omega)]
        rw [show 0 + (j - 0) = j by omega]
        exact i3 j (by omega)
    · rw [if_neg lt, if_neg lt]
      exact ⟨Y, rfl, i1, i2, i3, i4, i5⟩
  | succ r ih =>
    intro E pre S Y hp hE hI
    obtain ⟨E, rfl⟩ : ∃ j, E = j + 1 := ⟨E - 1, by omega⟩
    unfold fX6_search_R fX6_search_B
    have e4 : gI Y 7 0 4 = s := (hI.1.2.2 7 0 4 (by omega)).trans h4
    rw [ob_some, hI.2.2.2.1]
    by_cases lt : mgl w d pre pre.length < S.1
    · rw [if_pos lt, e4, if_pos (by omega)]
      -- the loop
      have loop : ∀ (m n : Nat) (S : Int × List Nat) (Y : zS), m ≤ s → m < n → ID X s Y pre S → ∃ Y', fX6_search_L42 (fX6_search_R nf E) 0 (pre.length : Int) (mgl w d pre pre.length) n Y ((s - m : Nat) : Int) = some ((), Y') ∧ ID X s Y' pre ((extk s r pre m).foldl (stp w d s) S) := by
        intro m
        induction m with
        | zero =>
          intro n S Y hm hn hI
          obtain ⟨n, rfl⟩ : ∃ j, n = j + 1 := ⟨n - 1, by omega⟩
          have e4 : gI Y 7 0 4 = s := (hI.1.2.2 7 0 4 (by omega)).trans h4
          unfold fX6_search_L42
          rw [if_neg (by rw [e4]; omega)]
          exact ⟨Y, rfl, hI⟩
        | succ m im =>
          intro n S Y hm hn hI
          obtain ⟨n, rfl⟩ : ∃ j, n = j + 1 := ⟨n - 1, by omega⟩
          have e4 : gI Y 7 0 4 = s := (hI.1.2.2 7 0 4 (by omega)).trans h4
          have r7 := fun k => hI.1.2.1 7 0 k
          generalize hx : s - (m + 1) = x
          have hxs : x < s := by omega
          have gx : (0 : Int) ≤ (x : Int) ∧ (x : Int) < 6 := by omega
          have gp : (0 : Int) ≤ (pre.length : Int) ∧ (pre.length : Int) < 6 := by omega
          have ek : extk s r pre (m + 1) = (if pre.contains x then [] else ext s r (pre ++ [x])) ++ extk s r pre m := by rw [← hx]; rfl
          have nx : x + 1 = s - m := by omega
          rw [ek, List.foldl_append]
          have u := hI.2.1 x (by omega)
          by_cases c : pre.contains x = true
          · rw [if_pos c] at u
            rw [if_pos c]
            obtain ⟨Y', f1, f2⟩ := im n S Y (by omega) (by omega) hI
            refine ⟨Y', ?_, f2⟩
            conv => lhs; unfold fX6_search_L42
            rw [if_pos (by rw [e4]; omega)]
            simp only [nm_eq, up_eq, cl_some, ob_some, oe_some, oe_none, ob_none, r7, hX.2.1 0 (by decide), hX.2.1 1 (by decide), hX.2.1 2 (by decide), hX.2.1 3 (by decide), hX.2.1 4 (by decide), hX.2.1 5 (by decide), hX.2.1 6 (by decide), hX.2.1 7 (by decide), hX.2.1 8 (by decide), hX.2.1 9 (by decide), hX.2.2.1.1, hX.2.2.1.2, hX.2.2.2.1.1, hX.2.2.2.1.2, hX.2.2.2.2.1, hX.2.2.2.2.2.1.1, hX.2.2.2.2.2.1.2.1, hX.2.2.2.2.2.1.2.2, hX.2.2.2.2.2.2.1.1, hX.2.2.2.2.2.2.1.2.1, hX.2.2.2.2.2.2.1.2.2.1, hX.2.2.2.2.2.2.1.2.2.2.1, hX.2.2.2.2.2.2.1.2.2.2.2.1, hX.2.2.2.2.2.2.1.2.2.2.2.2.1, hX.2.2.2.2.2.2.1.2.2.2.2.2.2, g_t gx, Int.toNat_natCast, u, nat_wr x (by omega), nx]
            rw [if_neg (by decide)]
            exact f1
          · rw [if_neg c] at u
            rw [if_neg c]
            have hl : (pre ++ [x]).length = pre.length + 1 := by simp
            have I1 : ID X s (sI (sI Y 28 0 x 1) 26 0 pre.length x) (pre ++ [x]) S := by
              obtain ⟨i1, i2, i3, i4, i5⟩ := hI
              refine ⟨(i1.sI (by omega)).sI (by omega), fun y hy => ?_, fun j hj => ?_, ?_, fun q j hj => ?_⟩
              · simp only [gI_sI, gI_sR, gI_sN, gI_sCp, gI_sB, gR_sI, gR_sR, gR_sN, gR_sCp, gR_sB, gN_sI, gN_sR, gN_sN, gN_sCp, gN_sB, ↓reduceIte, and_true, true_and, and_false, false_and, and_self, or_true, true_or, or_false, false_or, or_self, Nat.reduceEqDiff, Int.reduceNeg, ne_eq, not_true_eq_false, not_false_eq_true, Int.toNat_natCast, reduceCtorEq, i10, i01, implies_true, true_implies, false_implies, g_t (c := True) trivial]
                by_cases e : y = x
                · subst e; rw [if_pos rfl, if_pos (by simp)]
                · rw [if_neg e, i2 y hy]
                  have : (pre ++ [x]).contains y = pre.contains y := by
                    rw [List.contains_append]
                    simp [e]
                  rw [this]
              · simp only [gI_sI, gI_sR, gI_sN, gI_sCp, gI_sB, gR_sI, gR_sR, gR_sN, gR_sCp, gR_sB, gN_sI, gN_sR, gN_sN, gN_sCp, gN_sB, ↓reduceIte, and_true, true_and, and_false, false_and, and_self, or_true, true_or, or_false, false_or, or_self, Nat.reduceEqDiff, Int.reduceNeg, ne_eq, not_true_eq_false, not_false_eq_true, Int.toNat_natCast, reduceCtorEq, i10, i01, implies_true, true_implies, false_implies, g_t (c := True) trivial]
                by_cases e : j = pre.length
                · subst e; rw [if_pos rfl, fnl_e]
                · rw [if_neg e, fnl_l pre x j (by omega)]; exact i3 j (by omega)
              · simp only [gI_sI, gI_sR, gI_sN, gI_sCp, gI_sB, gR_sI, gR_sR, gR_sN, gR_sCp, gR_sB, gN_sI, gN_sR, gN_sN, gN_sCp, gN_sB, ↓reduceIte, and_true, true_and, and_false, false_and, and_self, or_true, true_or, or_false, false_or, or_self, Nat.reduceEqDiff, Int.reduceNeg, ne_eq, not_true_eq_false, not_false_eq_true, Int.toNat_natCast, reduceCtorEq, i10, i01, implies_true, true_implies, false_implies, g_t (c := True) trivial]; exact i4
              · simp only [gI_sI, gI_sR, gI_sN, gI_sCp, gI_sB, gR_sI, gR_sR, gR_sN, gR_sCp, gR_sB, gN_sI, gN_sR, gN_sN, gN_sCp, gN_sB, ↓reduceIte, and_true, true_and, and_false, false_and, and_self, or_true, true_or, or_false, false_or, or_self, Nat.reduceEqDiff, Int.reduceNeg, ne_eq, not_true_eq_false, not_false_eq_true, Int.toNat_natCast, reduceCtorEq, i10, i01, implies_true, true_implies, false_implies, g_t (c := True) trivial]; exact i5 q j hj
            obtain ⟨Y2, g1, g2⟩ := ih E (pre ++ [x]) S _ (by omega) (by omega) I1
            have em : mgl w d (pre ++ [x]) (pre ++ [x]).length = imax (mgl w d pre pre.length) (wr (w x + d pre.length)) := by
              rw [hl]
              show imax (mgl w d (pre ++ [x]) pre.length) (wr (w (fnl (pre ++ [x]) pre.length) + d pre.length)) = _
              rw [fnl_e, mgl_cg w d (pre ++ [x]) pre pre.length fun j hj => fnl_l pre x j hj]
            rw [em, hl] at g1
            have I2 : ID X s (sI Y2 28 0 x 0) pre ((ext s r (pre ++ [x])).foldl (stp w d s) S) := by
              obtain ⟨i1, i2, i3, i4, i5⟩ := g2
              refine ⟨i1.sI (by omega), fun y hy => ?_, fun j hj => ?_, ?_, fun q j hj => ?_⟩
              · simp only [gI_sI, gI_sR, gI_sN, gI_sCp, gI_sB, gR_sI, gR_sR, gR_sN, gR_sCp, gR_sB, gN_sI, gN_sR, gN_sN, gN_sCp, gN_sB, ↓reduceIte, and_true, true_and, and_false, false_and, and_self, or_true, true_or, or_false, false_or, or_self, Nat.reduceEqDiff, Int.reduceNeg, ne_eq, not_true_eq_false, not_false_eq_true, Int.toNat_natCast, reduceCtorEq, i10, i01, implies_true, true_implies, false_implies, g_t (c := True) trivial]
                by_cases e : y = x
                · subst e; rw [if_pos rfl, if_neg c]
                · rw [if_neg e, i2 y hy]
                  have : (pre ++ [x]).contains y = pre.contains y := by
                    rw [List.contains_append]
                    simp [e]
                  rw [this]
              · simp only [gI_sI, gI_sR, gI_sN, gI_sCp, gI_sB, gR_sI, gR_sR, gR_sN, gR_sCp, gR_sB, gN_sI, gN_sR, gN_sN, gN_sCp, gN_sB, ↓reduceIte, and_true, true_and, and_false, false_and, and_self, or_true, true_or, or_false, false_or, or_self, Nat.reduceEqDiff, Int.reduceNeg, ne_eq, not_true_eq_false, not_false_eq_true, Int.toNat_natCast, reduceCtorEq, i10, i01, implies_true, true_implies, false_implies, g_t (c := True) trivial]
                rw [i3 j (by omega), fnl_l pre x j hj]
              · simp only [gI_sI, gI_sR, gI_sN, gI_sCp, gI_sB, gR_sI, gR_sR, gR_sN, gR_sCp, gR_sB, gN_sI, gN_sR, gN_sN, gN_sCp, gN_sB, ↓reduceIte, and_true, true_and, and_false, false_and, and_self, or_true, true_or, or_false, false_or, or_self, Nat.reduceEqDiff, Int.reduceNeg, ne_eq, not_true_eq_false, not_false_eq_true, Int.toNat_natCast, reduceCtorEq, i10, i01, implies_true, true_implies, false_implies, g_t (c := True) trivial]; exact i4
              · simp only [gI_sI, gI_sR, gI_sN, gI_sCp, gI_sB, gR_sI, gR_sR, gR_sN, gR_sCp, gR_sB, gN_sI, gN_sR, gN_sN, gN_sCp, gN_sB, ↓reduceIte, and_true, true_and, and_false, false_and, and_self, or_true, true_or, or_false, false_or, or_self, Nat.reduceEqDiff, Int.reduceNeg, ne_eq, not_true_eq_false, not_false_eq_true, Int.toNat_natCast, reduceCtorEq, i10, i01, implies_true, true_implies, false_implies, g_t (c := True) trivial]; exact i5 q j hj
            obtain ⟨Y', f1, f2⟩ := im n _ _ (by omega) (by omega) I2
            refine ⟨Y', ?_, f2⟩
            have r72 := fun k => g2.1.2.1 7 0 k
            have q24 : gI Y 24 0 x = w x := (hI.1.2.2 24 0 x (by omega)).trans (hw x hxs).1
            have q25 : gI Y 25 0 pre.length = d pre.length := (hI.1.2.2 25 0 _ (by omega)).trans (hw _ (by omega)).2
            conv => lhs; unfold fX6_search_L42
            rw [if_pos (by rw [e4]; omega)]
            simp only [nm_eq, up_eq, cl_some, ob_some, oe_some, oe_none, ob_none, r7, hX.2.1 0 (by decide), hX.2.1 1 (by decide), hX.2.1 2 (by decide), hX.2.1 3 (by decide), hX.2.1 4 (by decide), hX.2.1 5 (by decide), hX.2.1 6 (by decide), hX.2.1 7 (by decide), hX.2.1 8 (by decide), hX.2.1 9 (by decide), hX.2.2.1.1, hX.2.2.1.2, hX.2.2.2.1.1, hX.2.2.2.1.2, hX.2.2.2.2.1, hX.2.2.2.2.2.1.1, hX.2.2.2.2.2.1.2.1, hX.2.2.2.2.2.1.2.2, hX.2.2.2.2.2.2.1.1, hX.2.2.2.2.2.2.1.2.1, hX.2.2.2.2.2.2.1.2.2.1, hX.2.2.2.2.2.2.1.2.2.2.1, hX.2.2.2.2.2.2.1.2.2.2.2.1, hX.2.2.2.2.2.2.1.2.2.2.2.2.1, hX.2.2.2.2.2.2.1.2.2.2.2.2.2, g_t gx, g_t gp, Int.toNat_natCast, u, nat_wr x (by omega), nat_wr pre.length (by omega), nx, gR_sI, gI_sI, ↓reduceIte, and_true, true_and, and_false, false_and, and_self, or_true, true_or, or_false, false_or, or_self, Nat.reduceEqDiff, Int.reduceNeg, ne_eq, not_true_eq_false, not_false_eq_true, Int.toNat_natCast, reduceCtorEq, i10, i01, implies_true, true_implies, false_implies, g_t (c := True) trivial, q24, q25, g1, r72]
            exact f1
      obtain ⟨Y', f1, f2⟩ := loop s nf S Y (Nat.le_refl s) (by omega) hI
      rw [Nat.sub_self] at f1
      rw [ext_k]
      exact ⟨Y', f1, f2⟩
    · rw [if_neg lt]
      refine ⟨Y, rfl, ?_⟩
      rw [prune w d s S pre _ (fun l hl => (ext_pre s (r + 1) pre l hl).1) (by omega) (by omega)]
      exact hI
end DF
