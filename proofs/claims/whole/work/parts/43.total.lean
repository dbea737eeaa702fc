/-! ===== sums over the cups ===== -/
def cO (M : zS) : Nat → Int
  | 0 => 0
  | n + 1 => cO M n + (if gI M 82 0 n = 0 then 0 else 1)
theorem cO_le (M : zS) : ∀ n : Nat, 0 ≤ cO M n ∧ cO M n ≤ n
  | 0 => by simp [cO]
  | n + 1 => by
    have := cO_le M n
    unfold cO
    split <;> omega
def cW (M : zS) : Nat → Int
  | 0 => 0
  | n + 1 => wr (cW M n + wS (fun k => gI M 91 0 (6 * n + k)) 6)
theorem cO_s (M : zS) (n : Nat) : cO M (n + 1) = cO M n + (if gI M 82 0 n = 0 then 0 else 1) := rfl
theorem cW_s (M : zS) (n : Nat) : cW M (n + 1) = wr (cW M n + wS (fun k => gI M 91 0 (6 * n + k)) 6) := rfl
theorem wr_sum (a b c : Int) : wr (wr (a + b) + c) = wr (a + wr (b + c)) := by unfold wr; omega
theorem wr_wr (a : Int) : wr (wr a) = wr a := wr_id (wr_in a)
section TO
variable {P C K : Nat} {D : Int} {X M : zS}
theorem cupsOutL (hr : RR P C K D X M) : ∀ m n k : Nat, k + m = C → m < n → fX10_cupsOut_L4 0 n X (cO M k) k = some (cO M C, X)
  | 0, n + 1, k, hk, _ => by
    obtain ⟨⟨hX, hM, hN⟩, -⟩ := hr
    have : k = C := by omega
    unfold fX10_cupsOut_L4
    rw [if_neg (by rw [hN.2.2.1.2.1]; omega), this]
  | m + 1, n + 1, k, hk, hn => by
    have hr' := hr
    obtain ⟨⟨hX, hM, hN⟩, hS, hF, hB, hP, hL, hC, hK, hD, hZ⟩ := hr
    have q := hC k (by omega)
    have hk24 : k < 24 := by have := hN.1; omega
    unfold fX10_cupsOut_L4
    rw [if_pos (by rw [hN.2.2.1.2.1]; omega)]
    have ih := cupsOutL hr' m n (k + 1) (by omega) (by omega)
    simp only [hX.2.1 0 (by decide), hX.2.1 1 (by decide), hX.2.1 2 (by decide), hX.2.1 3 (by decide), hX.2.1 4 (by decide), hX.2.1 5 (by decide), hX.2.1 6 (by decide), hX.2.1 7 (by decide), hX.2.1 8 (by decide), hX.2.1 9 (by decide), hX.2.2.1.1, hX.2.2.1.2, hX.2.2.2.1.1, hX.2.2.2.1.2, hX.2.2.2.2.1, hX.2.2.2.2.2.1.1, hX.2.2.2.2.2.1.2.1, hX.2.2.2.2.2.1.2.2, hX.2.2.2.2.2.2.1.1, hX.2.2.2.2.2.2.1.2.1, hX.2.2.2.2.2.2.1.2.2.1, hX.2.2.2.2.2.2.1.2.2.2.1, hX.2.2.2.2.2.2.1.2.2.2.2.1, hX.2.2.2.2.2.2.1.2.2.2.2.2.1, hX.2.2.2.2.2.2.1.2.2.2.2.2.2, nm_eq, up_eq, cl_some, ob_some, oe_some, oe_none, ob_none, g_t (show (0 : Int) ≤ (k : Int) ∧ (k : Int) < 24 by omega), Int.toNat_natCast, q.1.1, q.2.2.1.1, nat_wr k (by omega)]
    have b := cO_le M k
    rw [cO_s] at ih
    by_cases e : gI M 82 0 k = 0
    · rw [if_pos e] at ih ⊢
      rw [Int.add_zero] at ih
      exact ih
    · rw [if_neg e] at ih ⊢
      rw [wr_id (by unfold zin; omega)]
      exact ih
theorem cupsWorthL (hr : RR P C K D X M) {nf : Nat} (hnf : 1000 ≤ nf) : ∀ m n k : Nat, k + m = C → m < n → fX10_cupsWorth_L4 0 nf n X (cW M k) k = some (cW M C, X)
  | 0, n + 1, k, hk, _ => by
    obtain ⟨⟨hX, hM, hN⟩, -⟩ := hr
    have : k = C := by omega
    unfold fX10_cupsWorth_L4
    rw [if_neg (by rw [hN.2.2.1.2.1]; omega), this]
  | m + 1, n + 1, k, hk, hn => by
    have hr' := hr
    obtain ⟨⟨hX, hM, hN⟩, hS, hF, hB, hP, hL, hC, hK, hD, hZ⟩ := hr
    have q := hC k (by omega)
    have hk24 : k < 24 := by have := hN.1; omega
    unfold fX10_cupsWorth_L4
    rw [if_pos (by rw [hN.2.2.1.2.1]; omega)]
    have ih := cupsWorthL hr' hnf m n (k + 1) (by omega) (by omega)
    have w : wS (fun j => gI X 15 (k + 3) j) 6 = wS (fun j => gI M 91 0 (6 * k + j)) 6 := wS_cg fun j hj => (q.2.2.2.2.2.2.2.2.2.2.2.2.2.2.2.2.2.2.2.2.2.2.1 j hj).1
    simp only [hX.2.1 0 (by decide), hX.2.1 1 (by decide), hX.2.1 2 (by decide), hX.2.1 3 (by decide), hX.2.1 4 (by decide), hX.2.1 5 (by decide), hX.2.1 6 (by decide), hX.2.1 7 (by decide), hX.2.1 8 (by decide), hX.2.1 9 (by decide), hX.2.2.1.1, hX.2.2.1.2, hX.2.2.2.1.1, hX.2.2.2.1.2, hX.2.2.2.2.1, hX.2.2.2.2.2.1.1, hX.2.2.2.2.2.1.2.1, hX.2.2.2.2.2.1.2.2, hX.2.2.2.2.2.2.1.1, hX.2.2.2.2.2.2.1.2.1, hX.2.2.2.2.2.2.1.2.2.1, hX.2.2.2.2.2.2.1.2.2.2.1, hX.2.2.2.2.2.2.1.2.2.2.2.1, hX.2.2.2.2.2.2.1.2.2.2.2.2.1, hX.2.2.2.2.2.2.1.2.2.2.2.2.2, nm_eq, up_eq, cl_some, ob_some, oe_some, oe_none, ob_none, g_t (show (0 : Int) ≤ (k : Int) ∧ (k : Int) < 24 by omega), Int.toNat_natCast, q.1.1, q.1.2.2.1, worth3 hnf q.1.2.2.2, nat_wr k (by omega), w]
    rw [cW_s] at ih
    exact ih
theorem totalL (hr : RR P C K D X M) {nf : Nat} (hnf : 1000 ≤ nf) (T x : Int) : ∀ m n k : Nat, k + m = C → m < n → fX11_total_L12 0 x nf n M (cO M k) (wr (T + cW M k)) k = (if x = 0 then (some (gI M 64 0 0, M)) else (if x = 1 then (some (gI M 64 0 14, M)) else (if x = 2 then (some (gI M 64 0 13, M)) else (if x = 3 then (some (cO M C, M)) else (if x = 4 then (some (gI M 64 0 34, M)) else (if x = 5 then (some (gI M 64 0 27, M)) else (if x = 6 then (some (gI M 64 0 28, M)) else (if x = 7 then (some (wr (T + cW M C), M)) else (some ((-2), M))))))))))
  | 0, n + 1, k, hk, _ => by
    obtain ⟨⟨hX, hM, hN⟩, -⟩ := hr
    have : k = C := by omega
    unfold fX11_total_L12
    rw [if_neg (by rw [hN.2.1.2.1]; omega), this]
  | m + 1, n + 1, k, hk, hn => by
    have hr' := hr
    obtain ⟨⟨hX, hM, hN⟩, hS, hF, hB, hP, hL, hC, hK, hD, hZ⟩ := hr
    have hk24 : k < 24 := by have := hN.1; omega
    unfold fX11_total_L12
    rw [if_pos (by rw [hN.2.1.2.1]; omega)]
    have ih := totalL hr' hnf T x m n (k + 1) (by omega) (by omega)
    simp only [hM.2 16 rfl, nm_eq, up_eq, cl_some, ob_some, oe_some, oe_none, ob_none, g_t (show (0 : Int) ≤ (k : Int) ∧ (k : Int) < 24 by omega), Int.toNat_natCast, worthOf hM hk24 hnf, nat_wr k (by omega)]
    have b := cO_le M k
    rw [cO_s, cW_s] at ih
    rw [wr_sum]
    by_cases e : gI M 82 0 k = 0
    · rw [if_pos e] at ih ⊢
      rw [wr_id (by unfold zin; omega)]
      exact ih
    · rw [if_neg e] at ih ⊢
      rw [wr_id (by unfold zin; omega)]
      exact ih
end TO
theorem P_total {X M : zS} (h : zR X M) {nf : Nat} (hnf : 1000 ≤ nf) (x1 : Int) (h1 : zin x1) : ∃ r X' M', fX10_total nf X 0 x1 = some (r, X') ∧ fX11_total nf M 0 x1 = some (r, M') ∧ zR X' M' := by
  obtain ⟨P, C, K, hr⟩ := id h
  obtain ⟨⟨hX, hM, hN⟩, hS, hF, hB, hP, hL, hC, hK, hD, hZ⟩ := id hr
  refine rd h ?_
  unfold fX10_total fX11_total fX10_cupsOut fX10_cupsWorth
  have c24 : C ≤ 24 := hN.1.2.2.1
  have e1 := cupsOutL hr C nf 0 (by omega) (by omega)
  have e2 := cupsWorthL hr hnf C nf 0 (by omega) (by omega)
  have e3 := totalL hr hnf (wS (fun k => gI M 92 0 k) 6) x1 C nf 0 (by omega) (by omega)
  have w : wS (fun j => gI X 15 0 j) 6 = wS (fun j => gI M 92 0 j) 6 := wS_cg fun j hj => (hS.2.2.2.2 j hj).1
  have wi : wr (wS (fun k => gI M 92 0 k) 6) = wS (fun k => gI M 92 0 k) 6 := wr_wr _
  simp only [cO, cW, Int.add_zero, wi, Int.ofNat_zero] at e1 e2 e3
  rw [till_eq hM hnf, if_pos rfl, cl_some]
  have e3 : fX11_total_L12 0 x1 nf nf M 0 (wS (fun k => gI M 92 0 k) 6) 0 = _ := e3
  have e1 : fX10_cupsOut_L4 0 nf X 0 0 = _ := e1
  have e2 : fX10_cupsWorth_L4 0 nf nf X 0 0 = _ := e2
  rw [e3]
  simp only [hX.2.1 0 (by decide), hX.2.1 1 (by decide), hX.2.1 2 (by decide), hX.2.1 3 (by decide), hX.2.1 4 (by decide), hX.2.1 5 (by decide), hX.2.1 6 (by decide), hX.2.1 7 (by decide), hX.2.1 8 (by decide), hX.2.1 9 (by decide), hX.2.2.1.1, hX.2.2.1.2, hX.2.2.2.1.1, hX.2.2.2.1.2, hX.2.2.2.2.1, hX.2.2.2.2.2.1.1, hX.2.2.2.2.2.1.2.1, hX.2.2.2.2.2.1.2.2, hX.2.2.2.2.2.2.1.1, hX.2.2.2.2.2.2.1.2.1, hX.2.2.2.2.2.2.1.2.2.1, hX.2.2.2.2.2.2.1.2.2.2.1, hX.2.2.2.2.2.2.1.2.2.2.2.1, hX.2.2.2.2.2.2.1.2.2.2.2.2.1, hX.2.2.2.2.2.2.1.2.2.2.2.2.2, nm_eq, up_eq, cl_some, ob_some, oe_some, oe_none, ob_none, worth3 hnf hX.2.2.2.2.1, e1, e2, w, hN.2.2.1.1, hN.2.2.1.2.1, hN.2.2.1.2.2, hN.2.1.1, hN.2.1.2.1, hN.2.1.2.2, hS.1.1, hS.2.2.1, hS.2.2.2.1]
  by_cases e0 : x1 = 0
  · subst e0; simp
  by_cases e1 : x1 = 1
  · subst e1; simp
  by_cases e2 : x1 = 2
  · subst e2; simp
  by_cases e3 : x1 = 3
  · subst e3; simp
  by_cases e4 : x1 = 4
  · subst e4; simp
  by_cases e5 : x1 = 5
  · subst e5; simp
  by_cases e6 : x1 = 6
  · subst e6; simp
  by_cases e7 : x1 = 7
  · subst e7; simp
  simp [e0, e1, e2, e3, e4, e5, e6, e7]
