/-! ===== the row ===== -/
section RO
variable {P C K : Nat} {D : Int} {X M : zS}
/-- what of two cups in the row goes first, on both sides -/
theorem ahead_eq (hr : RR P C K D X M) {c d : Nat} (hc : c < C) (hd : d < C) (zc : gI M 82 0 c = 3) (zd : gI M 82 0 d = 3) {o : Int} (ho : o = 0 ∨ o = 1 ∨ o = 2) : ∃ v : Int, fX4_isAhead X c (some d) o = some (v, X) ∧ fX11_isAhead M 0 c d o = some (v, M) := by
  obtain ⟨⟨hX, hM, hN⟩, hS, hF, hB, hP, hL, hC, hK, hD, hZ⟩ := hr
  have h16 := hN.1
  have gc : 0 ≤ (c : Int) ∧ (c : Int) < 24 := by omega
  have gd : 0 ≤ (d : Int) ∧ (d : Int) < 24 := by omega
  obtain ⟨⟨-, a1, -, -⟩, ⟨b1, b2, b3, -⟩, -, -, -, -, -, -, -, -, -, -, -, -, -, -, d17, -, d19, d20, -, d22, -⟩ := hC c hc
  obtain ⟨⟨-, a1', -, -⟩, ⟨b1', b2', b3', -⟩, -, -, -, -, -, -, -, -, -, -, -, -, -, -, d17', -, d19', d20', -, d22', -⟩ := hC d hd
  have s := d17 (by omega)
  have s' := d17' (by omega)
  have hs := hS.1
  have n1 := (hP (gI M 81 0 c).toNat (by omega)).1.2.1
  have n2 := (hP (gI M 81 0 d).toNat (by omega)).1.2.1
  have n1 : gI X 8 (gI M 81 0 c).toNat 0 = gI M 81 0 c := by rw [n1]; omega
  have n2 : gI X 8 (gI M 81 0 d).toNat 0 = gI M 81 0 d := by rw [n2]; omega
  have gX : ∀ u v : Int, (0 ≤ u ∧ u ≤ 30000) → (0 ≤ v ∧ v ≤ 30000) → ∀ {α : Type} (j : Int → Option α), (cl_ (fJ6_compare_7cf53 X u v) fun (x : Int) (_ : zS) => j x) = j (if u < v then -1 else if u = v then 0 else 1) := by
    intro u v _ _ α j
    unfold fJ6_compare_7cf53
    by_cases q : u < v
    · rw [if_pos q, if_pos q, cl_some]
    · by_cases q2 : u = v
      · rw [if_neg q, if_neg q, if_pos q2, if_pos q2, cl_some]
      · rw [if_neg q, if_neg q, if_neg q2, if_neg q2, cl_some]
  have cmp : ∀ u v : Int, fJ6_compare_7cf53 X u v = some ((if u < v then -1 else if u = v then 0 else 1), X) := by
    intro u v
    unfold fJ6_compare_7cf53
    by_cases q : u < v
    · rw [if_pos q, if_pos q]
    · by_cases q2 : u = v
      · rw [if_neg q, if_neg q, if_pos q2, if_pos q2]
      · rw [if_neg q, if_neg q, if_neg q2, if_neg q2]
  have wd : ∀ u v : Int, (0 ≤ u ∧ u ≤ 30000) → (0 ≤ v ∧ v ≤ 30000) → wr (u - v) = u - v := fun u v _ _ => wr_id (by unfold zin; omega)
  -- how both end, told a compared number and a difference
  have fin : ∀ u v : Int, ∃ w : Int, (if (if u < v then (-1 : Int) else if u = v then 0 else 1) = 0 then (if (c : Int) < (d : Int) then some ((1 : Int), X) else some (0, X)) else (if (if u < v then (-1 : Int) else if u = v then 0 else 1) < 0 then some (1, X) else some (0, X))) = some (w, X) ∧ (if u - v < 0 then some ((1 : Int), M) else (if u - v = 0 then (if (c : Int) < (d : Int) then some (1, M) else some (0, M)) else some (0, M))) = some (w, M) := by
    intro u v
    by_cases q : u < v
    · rw [if_pos q, if_neg (by decide), if_pos (by decide), if_pos (by omega)]; exact ⟨_, rfl, rfl⟩
    · rw [if_neg q]
      by_cases q2 : u = v
      · rw [if_pos q2, if_pos rfl, if_neg (show ¬ u - v < 0 by omega), if_pos (show u - v = 0 by omega)]
        by_cases l : (c : Int) < (d : Int)
        · rw [if_pos l, if_pos l]; exact ⟨_, rfl, rfl⟩
        · rw [if_neg l, if_neg l]; exact ⟨_, rfl, rfl⟩
      · rw [if_neg q2, if_neg (by decide), if_neg (by decide), if_neg (show ¬ u - v < 0 by omega), if_neg (show ¬ u - v = 0 by omega)]; exact ⟨_, rfl, rfl⟩
  unfold fX4_isAhead fX11_isAhead fX4_sentTick fX11_sentOf
  rcases ho with rfl | rfl | rfl
  · simp only [Int.reduceEq, ↓reduceIte, nm_eq, up_eq, cl_some, ob_some, oe_some, oe_none, ob_none, cmp, s, s', a1, a1', hM.2 18 rfl, g_t gc, g_t gd, Int.toNat_natCast, wd _ _ d19 d19', ite_self]
    exact fin _ _
  · have t1 : 0 ≤ (if gI M 88 0 c = 0 then (0 : Int) else gI M 90 0 c) ∧ (if gI M 88 0 c = 0 then (0 : Int) else gI M 90 0 c) ≤ 30000 := by split <;> omega
    have t2 : 0 ≤ (if gI M 88 0 d = 0 then (0 : Int) else gI M 90 0 d) ∧ (if gI M 88 0 d = 0 then (0 : Int) else gI M 90 0 d) ≤ 30000 := by split <;> omega
    have f := fin (if gI M 88 0 c = 0 then (0 : Int) else gI M 90 0 c) (if gI M 88 0 d = 0 then (0 : Int) else gI M 90 0 d)
    have w := wd _ _ t1 t2
    simp only [Int.reduceEq, ↓reduceIte, nm_eq, up_eq, cl_some, ob_some, oe_some, oe_none, ob_none, d20.1, d20'.1, d22.1, d22'.1, a1, a1', hM.2 22 rfl, hM.2 24 rfl, g_t gc, g_t gd, Int.toNat_natCast, ite_self]
    by_cases e1 : gI M 88 0 c = 0
    · by_cases e2 : gI M 88 0 d = 0
      · simp only [e1, e2, ↓reduceIte, nm_eq, up_eq, cl_some, ob_some, oe_some, oe_none, ob_none, cmp, d20'.1, d22'.1, a1, a1', hM.2 22 rfl, hM.2 24 rfl, g_t gc, g_t gd, Int.toNat_natCast] at f w ⊢
        rw [w]; exact f
      · simp only [e1, e2, ↓reduceIte, nm_eq, up_eq, cl_some, ob_some, oe_some, oe_none, ob_none, cmp, d20'.1, d22'.1, a1, a1', hM.2 22 rfl, hM.2 24 rfl, g_t gc, g_t gd, Int.toNat_natCast] at f w ⊢
        rw [w]; exact f
    · by_cases e2 : gI M 88 0 d = 0
      · simp only [e1, e2, ↓reduceIte, nm_eq, up_eq, cl_some, ob_some, oe_some, oe_none, ob_none, cmp, d20'.1, d22'.1, a1, a1', hM.2 22 rfl, hM.2 24 rfl, g_t gc, g_t gd, Int.toNat_natCast] at f w ⊢
        rw [w]; exact f
      · simp only [e1, e2, ↓reduceIte, nm_eq, up_eq, cl_some, ob_some, oe_some, oe_none, ob_none, cmp, d20'.1, d22'.1, a1, a1', hM.2 22 rfl, hM.2 24 rfl, g_t gc, g_t gd, Int.toNat_natCast] at f w ⊢
        rw [w]; exact f
  · simp only [Int.reduceEq, ↓reduceIte, nm_eq, up_eq, cl_some, ob_some, oe_some, oe_none, ob_none, cmp, s, s', a1, a1', b1, b1', n1, n2, hM.2 18 rfl, hM.2 15 rfl, g_t gc, g_t gd, Int.toNat_natCast, wd _ _ d19 d19']
    rw [wd _ _ (by omega) (by omega)]
    by_cases q : gI M 81 0 c = gI M 81 0 d
    · have q1 : gI M 81 0 c - gI M 81 0 d = 0 := by omega
      have q2 : (if gI M 81 0 c < gI M 81 0 d then (-1 : Int) else if gI M 81 0 c = gI M 81 0 d then 0 else 1) = 0 := by rw [if_neg (by omega), if_pos q]
      rw [q2, if_pos rfl, q1, if_pos rfl]
      exact fin _ _
    · have q1 : ¬ gI M 81 0 c - gI M 81 0 d = 0 := by omega
      have q2 : ¬ (if gI M 81 0 c < gI M 81 0 d then (-1 : Int) else if gI M 81 0 c = gI M 81 0 d then 0 else 1) = 0 := by
        by_cases l : gI M 81 0 c < gI M 81 0 d
        · rw [if_pos l]; decide
        · rw [if_neg l, if_neg q]; decide
      have f := fin (gI M 81 0 c) (gI M 81 0 d)
      rw [if_neg q2, if_neg q1]
      exact f
end RO
