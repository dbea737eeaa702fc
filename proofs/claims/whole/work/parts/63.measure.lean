/-! ===== plans: the model measures one ===== -/
def oM (N' N : zS) : Prop := (∀ t, gN N' t = gN N t) ∧ (∀ t i k, gR N' t i k = gR N t i k) ∧ ∀ t i k, ¬ (t = 119 ∨ (t = 64 ∧ (k = 54 ∨ k = 55))) → gI N' t i k = gI N t i k
theorem oM.rf {Y : zS} : oM Y Y := ⟨fun _ => rfl, fun _ _ _ => rfl, fun _ _ _ _ => rfl⟩
theorem oM.sI {Y Z : zS} {t i k : Nat} {v : Int} (q : t = 119 ∨ (t = 64 ∧ (k = 54 ∨ k = 55))) (h : oM Y Z) : oM (sI Y t i k v) Z := ⟨h.1, h.2.1, fun t' i' k' q' => by
  rw [gI_sI, if_neg]
  · exact h.2.2 t' i' k' q'
  · rintro ⟨rfl, rfl, rfl⟩; exact q' q⟩
def sm (w d : Nat → Int) : Nat → Int
  | 0 => 0
  | i + 1 => wr (sm w d i + (w i + d i))
section ME
variable {P C K : Nat} {D : Int} {X M : zS}
theorem RR.oM {N : zS} (hr : RR P C K D X M) (h : oM N M) : RR P C K D X N := by
  refine hr.sc (fun _ => rfl) h.1 .rf (fun _ _ _ => rfl) fun t k hk => ⟨fun i => h.2.2 t i k ?_, fun i => h.2.1 t i k⟩
  rintro (rfl | ⟨rfl, rfl | rfl⟩) <;> exact Bool.noConfusion (show false = true from hk)
theorem oNN {N : zS} (hr : RR P C K D X M) (h : oN N M) : RR P C K D X N := by
  refine hr.sc (fun _ => rfl) h.1 .rf (fun _ _ _ => rfl) fun t k hk => ⟨fun i => h.2.2 t i k ?_ ?_, fun i => h.2.1 t i k⟩
  · rintro rfl; exact Bool.noConfusion (show false = true from hk)
  · rintro ⟨rfl, rfl⟩; exact Bool.noConfusion (show false = true from hk)
theorem mClerksL {nf : Nat} (κ : zS → Option (Unit × zS)) (hr : RR P C K D X M) : ∀ (m n k : Nat) (N : zS), k + m = K → m < n → oM N M → (∀ j, j < k → gI N 119 0 j = gI X 3 j 3) → ∃ N', fX11_measure_L2 κ 0 nf n N (k : Int) = κ N' ∧ oM N' M ∧ ∀ j, j < K → gI N' 119 0 j = gI X 3 j 3
  | 0, n + 1, k, N, hk, _, hY, ha => by
    have hN := (hr.oM hY).1.2.2
    have : k = K := by omega
    subst this
    unfold fX11_measure_L2
    rw [if_neg (by rw [hN.2.1.2.2]; omega)]
    exact ⟨N, rfl, hY, ha⟩
  | m + 1, n + 1, k, N, hk, hn, hY, ha => by
    have hr2 := hr.oM hY
    have hM := hr2.1.2.1
    have hN := hr2.1.2.2
    have h16 := hN.1
    have q := hr2.2.2.2.2.2.2.2.1 k (by omega)
    have gk : (0 : Int) ≤ (k : Int) ∧ (k : Int) < 4 := by omega
    obtain ⟨N', f1, f2, f3⟩ := mClerksL (nf := nf) κ hr m n (k + 1) (sI N 119 0 k (gI X 3 k 3)) (by omega) (by omega) (hY.sI (by omega)) (fun j hj => by
      by_cases e : j = k
      · subst e; simp only [gI_sI, gI_sR, gI_sN, gI_sCp, gI_sB, gR_sI, gR_sR, gR_sN, gR_sCp, gR_sB, gN_sI, gN_sR, gN_sN, gN_sCp, gN_sB, ↓reduceIte, and_true, true_and, and_false, false_and, and_self, or_true, true_or, or_false, false_or, or_self, Nat.reduceEqDiff, Int.reduceNeg, ne_eq, not_true_eq_false, not_false_eq_true, Int.toNat_natCast, reduceCtorEq, i10, i01, implies_true, true_implies, false_implies, g_t (c := True) trivial]
      · simp only [gI_sI, gI_sR, gI_sN, gI_sCp, gI_sB, gR_sI, gR_sR, gR_sN, gR_sCp, gR_sB, gN_sI, gN_sR, gN_sN, gN_sCp, gN_sB, ↓reduceIte, and_true, true_and, and_false, false_and, and_self, or_true, true_or, or_false, false_or, or_self, Nat.reduceEqDiff, Int.reduceNeg, ne_eq, not_true_eq_false, not_false_eq_true, Int.toNat_natCast, reduceCtorEq, i10, i01, implies_true, true_implies, false_implies, g_t (c := True) trivial, e]; exact ha j (by omega))
    refine ⟨N', ?_, f2, f3⟩
    conv => lhs; unfold fX11_measure_L2
    rw [if_pos (by rw [hN.2.1.2.2]; omega)]
    simp only [nm_eq, up_eq, cl_some, ob_some, oe_some, oe_none, ob_none, hM.2 53 rfl, hM.2 36 rfl, hM.2 37 rfl, g_t gk, Int.toNat_natCast, nat_wr k (by omega)]
    by_cases e : gI N 102 0 k = -9
    · rw [if_pos e, ← q.2.2.1 e]; exact f1
    · rw [if_neg e, ← (q.2.2.2 e).2.1.1]; exact f1
theorem mamL {nf : Nat} (κ : zS → Int → Option (Unit × zS)) (c1 : Int) (hr : RR P C K D X M) : ∀ (m n k : Nat), k + m = K → m < n → 0 < k → fX11_measure_L67 κ 0 c1 nf n M (am (fun j => gI M 119 0 j) k : Nat) (k : Int) = κ M (am (fun j => gI M 119 0 j) K : Nat)
  | 0, n + 1, k, hk, _, _ => by
    have hN := hr.1.2.2
    have : k = K := by omega
    subst this
    unfold fX11_measure_L67
    rw [if_neg (by rw [hN.2.1.2.2]; omega)]
  | m + 1, n + 1, k, hk, hn, h0 => by
    have hM := hr.1.2.1
    have hN := hr.1.2.2
    have h16 := hN.1
    have ih := mamL (nf := nf) κ c1 hr m n (k + 1) (by omega) (by omega) (by omega)
    have a := am_lt (fun j => gI M 119 0 j) k h0
    unfold fX11_measure_L67
    rw [if_pos (by rw [hN.2.1.2.2]; omega)]
    simp only [nm_eq, up_eq, cl_some, ob_some, oe_some, oe_none, ob_none, hM.2 53 rfl, g_t (show (0 : Int) ≤ (k : Int) ∧ (k : Int) < 4 by omega), g_t (show (0 : Int) ≤ ((am (fun j => gI M 119 0 j) k : Nat) : Int) ∧ ((am (fun j => gI M 119 0 j) k : Nat) : Int) < 4 by omega), Int.toNat_natCast, nat_wr k (by omega)]
    have e : am (fun j => gI M 119 0 j) (k + 1) = if gI M 119 0 k < gI M 119 0 (am (fun j => gI M 119 0 j) k) then k else am (fun j => gI M 119 0 j) k := rfl
    rw [e] at ih
    by_cases c : gI M 119 0 k < gI M 119 0 (am (fun j => gI M 119 0 j) k)
    · rw [if_pos c] at ih ⊢; exact ih
    · rw [if_neg c] at ih ⊢; exact ih
theorem mPlacesL {nf : Nat} (hnf : 1000 ≤ nf) (hr : RR P C K D X M) (hK : 0 < K) {s : Nat} (hs : s ≤ 6) (h52 : gI M 64 0 52 = s) {cp : Nat → Nat} (hcp : ∀ j, j < s → cp j < C ∧ gI M 117 0 j = cp j) {f nd : Nat → Int} (hf : ∀ j, j < K → 0 ≤ f j ∧ f j ≤ 30) (hn' : ∀ j, j < K → 1 ≤ nd j ∧ nd j ≤ 30) (hnd : ∀ j, j < K → gI M 101 0 j = nd j) : ∀ (m n i : Nat) (N : zS), i + m = s → m < n → oM N M → (∀ j, j < K → gI N 119 0 j = Fr f nd K i j) → gI N 64 0 54 = (if i = 0 then -1 else mg (fun l => gI M 64 0 13 - sentv M (cp l)) (dn f nd K) i) → gI N 64 0 55 = sm (fun l => gI M 64 0 13 - sentv M (cp l)) (dn f nd K) i →
    ∃ N', fX11_measure_L55 0 nf n N (i : Int) = some ((), N') ∧ oM N' M ∧ gI N' 64 0 54 = (if s = 0 then -1 else mg (fun l => gI M 64 0 13 - sentv M (cp l)) (dn f nd K) s) ∧ gI N' 64 0 55 = sm (fun l => gI M 64 0 13 - sentv M (cp l)) (dn f nd K) s
  | 0, n + 1, i, N, hi, _, hY, ha, hg, ht => by
    have : i = s := by omega
    subst this
    have e52 : gI N 64 0 52 = gI M 64 0 52 := hY.2.2 64 0 52 (by omega)
    unfold fX11_measure_L55
    rw [if_neg (by rw [e52, h52]; omega)]
    exact ⟨N, rfl, hY, hg, ht⟩
  | m + 1, n + 1, i, N, hi, hn, hY, ha, hg, ht => by
    have hr2 := hr.oM hY
    have hM := hr2.1.2.1
    have h16 := hr2.1.2.2.1
    have hS := hr.2.1.1
    have e52 : gI N 64 0 52 = gI M 64 0 52 := hY.2.2 64 0 52 (by omega)
    have e13 : gI N 64 0 13 = gI M 64 0 13 := hY.2.2 64 0 13 (by omega)
    have e1 : am (fun j => gI N 119 0 j) 1 = 0 := by
      show (if gI N 119 0 0 < gI N 119 0 0 then 0 else 0) = 0
      simp
    have eam : am (fun j => gI N 119 0 j) K = am (Fr f nd K i) K := am_cg K fun j hj => ha j hj
    have aK := am_lt (Fr f nd K i) K hK
    generalize hy : am (Fr f nd K i) K = y at eam aK
    have gy : (0 : Int) ≤ (y : Int) ∧ (y : Int) < 4 := by omega
    have gi : (0 : Int) ≤ (i : Int) ∧ (i : Int) < 24 := by omega
    have b := Fr_b hf hn' i y aK
    have b2 := hn' y aK
    have db := dn_b hK hf hn' i
    have q1 := ha y aK
    have q2 : gI N 101 0 y = nd y := (hY.2.2 101 0 y (by omega)).trans (hnd y aK)
    obtain ⟨c1, c2⟩ := hcp i (by omega)
    have c2 : gI N 117 0 i = cp i := (hY.2.2 117 0 i (by omega)).trans c2
    have sb := sentv_b hr c1
    have sN : ∀ N1, oM N1 M → fX11_sentOf N1 0 (cp i) = some (sentv M (cp i), N1) := fun N1 h => by
      rw [sentM (hr.oM h) c1]
      unfold sentv
      rw [h.2.2 88 0 (cp i) (by omega), h.2.2 90 0 (cp i) (by omega)]
    have ed : dn f nd K i = Fr f nd K i y + nd y := by
      unfold dn
      rw [hy]
      show (if y = am (Fr f nd K i) K then _ else _) = _
      rw [if_pos hy.symm]
    have hv : ∀ v : Int, v = gI M 64 0 13 - sentv M (cp i) + dn f nd K i → ∃ N', (nm_ (fun (s_27 : zS) (u_28 : Int) => up_ (sI s_27 64 0 54 u_28) fun (s_29 : zS) => up_ (sI s_29 64 0 55 (wr ((gI s_29 64 0 55) + v))) fun (s_30 : zS) => nm_ (wr ((i : Int) + 1)) fun (x_31 : Int) => fX11_measure_L55 0 nf n s_30 x_31) fun (j157 : zS → Int → Option (Unit × zS)) => if gI (sI N 119 0 y (Fr f nd K i y + nd y)) 64 0 54 < v then (j157 (sI N 119 0 y (Fr f nd K i y + nd y)) v) else (j157 (sI N 119 0 y (Fr f nd K i y + nd y)) (gI (sI N 119 0 y (Fr f nd K i y + nd y)) 64 0 54))) = some ((), N') ∧ oM N' M ∧ gI N' 64 0 54 = (if s = 0 then -1 else mg (fun l => gI M 64 0 13 - sentv M (cp l)) (dn f nd K) s) ∧ gI N' 64 0 55 = sm (fun l => gI M 64 0 13 - sentv M (cp l)) (dn f nd K) s := by
      intro v hv
      have go : ∀ u : Int, u = mg (fun l => gI M 64 0 13 - sentv M (cp l)) (dn f nd K) (i + 1) → ∃ N', fX11_measure_L55 0 nf n (sI (sI (sI N 119 0 y (Fr f nd K i y + nd y)) 64 0 54 u) 64 0 55 (wr (gI N 64 0 55 + v))) ((i + 1 : Nat) : Int) = some ((), N') ∧ oM N' M ∧ gI N' 64 0 54 = (if s = 0 then -1 else mg (fun l => gI M 64 0 13 - sentv M (cp l)) (dn f nd K) s) ∧ gI N' 64 0 55 = sm (fun l => gI M 64 0 13 - sentv M (cp l)) (dn f nd K) s := by
        intro u hu
        refine mPlacesL hnf hr hK hs h52 hcp hf hn' hnd m n (i + 1) _ (by omega) (by omega) (((hY.sI (by omega)).sI (by omega)).sI (by omega)) (fun j hj => ?_) ?_ ?_
        · have e : Fr f nd K (i + 1) j = if j = y then Fr f nd K i j + nd j else Fr f nd K i j := by
            show (if j = am (Fr f nd K i) K then _ else _) = _
            rw [hy]
          rw [e]
          by_cases c : j = y
          · subst c; simp only [gI_sI, gI_sR, gI_sN, gI_sCp, gI_sB, gR_sI, gR_sR, gR_sN, gR_sCp, gR_sB, gN_sI, gN_sR, gN_sN, gN_sCp, gN_sB, ↓reduceIte, and_true, true_and, and_false, false_and, and_self, or_true, true_or, or_false, false_or, or_self, Nat.reduceEqDiff, Int.reduceNeg, ne_eq, not_true_eq_false, not_false_eq_true, Int.toNat_natCast, reduceCtorEq, i10, i01, implies_true, true_implies, false_implies, g_t (c := True) trivial]
          · simp only [gI_sI, gI_sR, gI_sN, gI_sCp, gI_sB, gR_sI, gR_sR, gR_sN, gR_sCp, gR_sB, gN_sI, gN_sR, gN_sN, gN_sCp, gN_sB, ↓reduceIte, and_true, true_and, and_false, false_and, and_self, or_true, true_or, or_false, false_or, or_self, Nat.reduceEqDiff, Int.reduceNeg, ne_eq, not_true_eq_false, not_false_eq_true, Int.toNat_natCast, reduceCtorEq, i10, i01, implies_true, true_implies, false_implies, g_t (c := True) trivial, c]; exact ha j hj
        · have : ¬ i + 1 = 0 := by omega
          simp only [gI_sI, gI_sR, gI_sN, gI_sCp, gI_sB, gR_sI, gR_sR, gR_sN, gR_sCp, gR_sB, gN_sI, gN_sR, gN_sN, gN_sCp, gN_sB, ↓reduceIte, and_true, true_and, and_false, false_and, and_self, or_true, true_or, or_false, false_or, or_self, Nat.reduceEqDiff, Int.reduceNeg, ne_eq, not_true_eq_false, not_false_eq_true, Int.toNat_natCast, reduceCtorEq, i10, i01, implies_true, true_implies, false_implies, g_t (c := True) trivial, this]; exact hu
        · simp only [gI_sI, gI_sR, gI_sN, gI_sCp, gI_sB, gR_sI, gR_sR, gR_sN, gR_sCp, gR_sB, gN_sI, gN_sR, gN_sN, gN_sCp, gN_sB, ↓reduceIte, and_true, true_and, and_false, false_and, and_self, or_true, true_or, or_false, false_or, or_self, Nat.reduceEqDiff, Int.reduceNeg, ne_eq, not_true_eq_false, not_false_eq_true, Int.toNat_natCast, reduceCtorEq, i10, i01, implies_true, true_implies, false_implies, g_t (c := True) trivial]; rw [ht, hv]; rfl
      have em : mg (fun l => gI M 64 0 13 - sentv M (cp l)) (dn f nd K) (i + 1) = imax (mg (fun l => gI M 64 0 13 - sentv M (cp l)) (dn f nd K) i) (wr (gI M 64 0 13 - sentv M (cp i) + dn f nd K i)) := rfl
      rw [wr_id (by unfold zin; omega), ← hv] at em
      simp only [nm_eq, up_eq, cl_some, ob_some, oe_some, oe_none, ob_none, gI_sI, gI_sR, gI_sN, gI_sCp, gI_sB, gR_sI, gR_sR, gR_sN, gR_sCp, gR_sB, gN_sI, gN_sR, gN_sN, gN_sCp, gN_sB, ↓reduceIte, and_true, true_and, and_false, false_and, and_self, or_true, true_or, or_false, false_or, or_self, Nat.reduceEqDiff, Int.reduceNeg, ne_eq, not_true_eq_false, not_false_eq_true, Int.toNat_natCast, reduceCtorEq, i10, i01, implies_true, true_implies, false_implies, g_t (c := True) trivial, hg, nat_wr i (by omega)]
      by_cases i0 : i = 0
      · rw [if_pos i0, if_pos (by omega)]
        refine go v ?_
        have m0 : mg (fun l => gI M 64 0 13 - sentv M (cp l)) (dn f nd K) i = 0 := by rw [i0]; rfl
        rw [em, m0]
        unfold imax
        rw [if_pos (by omega)]
      · rw [if_neg i0]
        by_cases lt : mg (fun l => gI M 64 0 13 - sentv M (cp l)) (dn f nd K) i < v
        · rw [if_pos lt]
          refine go v ?_
          rw [em]; unfold imax; rw [if_pos lt]
        · rw [if_neg lt]
          refine go _ ?_
          rw [em]; unfold imax; rw [if_neg lt]
    obtain ⟨N', g1, g2⟩ := hv _ rfl
    refine ⟨N', ?_, g2⟩
    conv => lhs; unfold fX11_measure_L55
    rw [if_pos (by rw [e52, h52]; omega)]
    have l67 := fun κ => mamL (nf := nf) κ (i : Int) hr2 (K - 1) nf 1 (by omega) (by omega) (by omega)
    rw [e1, eam] at l67
    refine Eq.trans (l67 _) ?_
    have wF : wr (Fr f nd K i y + nd y) = Fr f nd K i y + nd y := wr_id (by unfold zin; omega)
    have w2 : wr (wr (gI M 64 0 13 + (Fr f nd K i y + nd y)) - sentv M (cp i)) = gI M 64 0 13 - sentv M (cp i) + dn f nd K i := by
      rw [wr_id (z := gI M 64 0 13 + (Fr f nd K i y + nd y)) (by unfold zin; omega), wr_id (by unfold zin; omega)]; omega
    simp only [nm_eq, up_eq, cl_some, ob_some, oe_some, oe_none, ob_none, hM.2 53 rfl, hM.2 35 rfl, hM.2 51 rfl, g_t gy, g_t gi, Int.toNat_natCast, q1, q2, gI_sI, gI_sR, gI_sN, gI_sCp, gI_sB, gR_sI, gR_sR, gR_sN, gR_sCp, gR_sB, gN_sI, gN_sR, gN_sN, gN_sCp, gN_sB, ↓reduceIte, and_true, true_and, and_false, false_and, and_self, or_true, true_or, or_false, false_or, or_self, Nat.reduceEqDiff, Int.reduceNeg, ne_eq, not_true_eq_false, not_false_eq_true, Int.toNat_natCast, reduceCtorEq, i10, i01, implies_true, true_implies, false_implies, g_t (c := True) trivial, wF, c2, sN _ (hY.sI (t := 119) (i := 0) (k := y) (v := Fr f nd K i y + nd y) (by omega)), e13, w2] at g1 ⊢
    exact g1
theorem measure_eq {nf : Nat} (hnf : 1000 ≤ nf) (hr : RR P C K D X M) (hK : 0 < K) {s : Nat} (hs : s ≤ 6) (h52 : gI M 64 0 52 = s) {cp : Nat → Nat} (hcp : ∀ j, j < s → cp j < C ∧ gI M 117 0 j = cp j) (hf : ∀ j, j < K → 0 ≤ gI X 3 j 3 ∧ gI X 3 j 3 ≤ 30) (hn' : ∀ j, j < K → 1 ≤ gI X 3 j 1 ∧ gI X 3 j 1 ≤ 30) :
    ∃ N', fX11_measure nf M 0 = some ((), N') ∧ oM N' M ∧ gI N' 64 0 54 = (if s = 0 then -1 else mg (fun l => gI M 64 0 13 - sentv M (cp l)) (dn (fun j => gI X 3 j 3) (fun j => gI X 3 j 1) K) s) ∧ gI N' 64 0 55 = sm (fun l => gI M 64 0 13 - sentv M (cp l)) (dn (fun j => gI X 3 j 3) (fun j => gI X 3 j 1) K) s := by
  have h16 := hr.1.2.2.1
  have hKr := hr.2.2.2.2.2.2.2.1
  obtain ⟨N1, a1, a2, a3⟩ := mClerksL (nf := nf) (fun (s_1 : zS) => up_ (sI s_1 64 0 54 (-1)) fun (s_2 : zS) => up_ (sI s_2 64 0 55 0) fun (s_3 : zS) => fX11_measure_L55 0 nf nf s_3 0) hr K nf 0 M (by omega) (by omega) .rf (fun j hj => by omega)
  obtain ⟨N2, b1, b2, b3, b4⟩ := mPlacesL hnf hr hK hs h52 hcp (f := fun j => gI X 3 j 3) (nd := fun j => gI X 3 j 1) hf hn' (fun j hj => ((hKr j hj).1.2.2.1).symm) s nf 0 (sI (sI N1 64 0 54 (-1)) 64 0 55 0) (by omega) (by omega) ((a2.sI (by omega)).sI (by omega)) (fun j hj => by simp only [gI_sI, gI_sR, gI_sN, gI_sCp, gI_sB, gR_sI, gR_sR, gR_sN, gR_sCp, gR_sB, gN_sI, gN_sR, gN_sN, gN_sCp, gN_sB, ↓reduceIte, and_true, true_and, and_false, false_and, and_self, or_true, true_or, or_false, false_or, or_self, Nat.reduceEqDiff, Int.reduceNeg, ne_eq, not_true_eq_false, not_false_eq_true, Int.toNat_natCast, reduceCtorEq, i10, i01, implies_true, true_implies, false_implies, g_t (c := True) trivial]; exact a3 j hj) (by simp only [gI_sI, gI_sR, gI_sN, gI_sCp, gI_sB, gR_sI, gR_sR, gR_sN, gR_sCp, gR_sB, gN_sI, gN_sR, gN_sN, gN_sCp, gN_sB, ↓reduceIte, and_true, true_and, and_false, false_and, and_self, or_true, true_or, or_false, false_or, or_self, Nat.reduceEqDiff, Int.reduceNeg, ne_eq, not_true_eq_false, not_false_eq_true, Int.toNat_natCast, reduceCtorEq, i10, i01, implies_true, true_implies, false_implies, g_t (c := True) trivial]) (by simp only [gI_sI, gI_sR, gI_sN, gI_sCp, gI_sB, gR_sI, gR_sR, gR_sN, gR_sCp, gR_sB, gN_sI, gN_sR, gN_sN, gN_sCp, gN_sB, ↓reduceIte, and_true, true_and, and_false, false_and, and_self, or_true, true_or, or_false, false_or, or_self, Nat.reduceEqDiff, Int.reduceNeg, ne_eq, not_true_eq_false, not_false_eq_true, Int.toNat_natCast, reduceCtorEq, i10, i01, implies_true, true_implies, false_implies, g_t (c := True) trivial]; rfl)
  refine ⟨N2, ?_, b2, b3, b4⟩
  unfold fX11_measure
  exact Eq.trans a1 b1
end ME
