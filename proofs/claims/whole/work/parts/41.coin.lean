/-! ===== what coins are worth, who serves a cup ===== -/
section CO
variable {P C K : Nat} {D : Int} {X M : zS}
theorem nat_wr (k : Nat) (hk : k < 1000000) : wr ((k : Int) + 1) = ((k + 1 : Nat) : Int) := by rw [wr_id (by unfold zin; omega)]; omega
theorem worthL {i a : Nat} (h : gR X 4 i 0 = some a) : ∀ m n k : Nat, k + m = 6 → m < n → fX3_worth_L4 i n X (wS (fun k => gI X 15 a k) k) k = some (wS (fun k => gI X 15 a k) 6, X)
  | 0, n + 1, k, hk, _ => by
    have : k = 6 := by omega
    subst this
    rfl
  | m + 1, n + 1, k, hk, hn => by
    unfold fX3_worth_L4
    rw [if_pos (by omega), h, nm_eq, ob_some, g_t (by omega), g_t (by omega), nm_eq, nm_eq, Int.toNat_natCast, nat_wr k (by omega)]
    exact worthL h m n (k + 1) (by omega) (by omega)
theorem worth3 {i a nf : Nat} (hnf : 1000 ≤ nf) (h : gR X 4 i 0 = some a) : fX3_worth nf X i = some (wS (fun k => gI X 15 a k) 6, X) := worthL h 6 nf 0 rfl (by omega)
theorem worth_eq (M : zS) {k : Nat} (h : k < 6) : fX11_worth M k = some (zWt k, M) := by
  have : k = 0 ∨ k = 1 ∨ k = 2 ∨ k = 3 ∨ k = 4 ∨ k = 5 := by omega
  rcases this with rfl | rfl | rfl | rfl | rfl | rfl <;> rfl
theorem worthOfL (hM : RM M) {c : Nat} (hc : c < 24) : ∀ m n k : Nat, k + m = 6 → m < n → fX11_worthOf_L4 0 c n M (wS (fun k => gI M 91 0 (6 * c + k)) k) k = some (wS (fun k => gI M 91 0 (6 * c + k)) 6, M)
  | 0, n + 1, k, hk, _ => by
    have : k = 6 := by omega
    subst this
    rfl
  | m + 1, n + 1, k, hk, hn => by
    unfold fX11_worthOf_L4
    have e : wr (wr (6 * (c : Int)) + (k : Int)) = ((6 * c + k : Nat) : Int) := by rw [wr_id (z := 6 * (c : Int)) (by unfold zin; omega), wr_id (by unfold zin; omega)]; omega
    rw [if_pos (by omega), nm_eq, hM.2 25 rfl, ob_some, e, g_t (by omega), worth_eq M (by omega), cl_some, nm_eq, nm_eq, Int.toNat_natCast, nat_wr k (by omega)]
    exact worthOfL hM hc m n (k + 1) (by omega) (by omega)
theorem worthOf (hM : RM M) {c nf : Nat} (hc : c < 24) (hnf : 1000 ≤ nf) : fX11_worthOf nf M 0 c = some (wS (fun k => gI M 91 0 (6 * c + k)) 6, M) := worthOfL hM hc 6 nf 0 rfl (by omega)
theorem tillL (hM : RM M) (x : Int) : ∀ m n k : Nat, k + m = 6 → m < n → fX11_till_L17 0 x n M (wS (fun k => gI M 92 0 k) k) k = (if x = 6 then some (wS (fun k => gI M 92 0 k) 6, M) else g_ (0 ≤ x ∧ x < 6) (some (gI M 92 0 x.toNat, M)))
  | 0, n + 1, k, hk, _ => by
    have : k = 6 := by omega
    subst this
    unfold fX11_till_L17
    rw [if_neg (by omega), nm_eq, hM.2 26 rfl, ob_some]
  | m + 1, n + 1, k, hk, hn => by
    unfold fX11_till_L17
    rw [if_pos (by omega), nm_eq, hM.2 26 rfl, ob_some, g_t (by omega), worth_eq M (by omega), cl_some, nm_eq, nm_eq, Int.toNat_natCast, nat_wr k (by omega)]
    exact tillL hM x m n (k + 1) (by omega) (by omega)
theorem wS_cg {a b : Nat → Int} (h : ∀ k, k < 6 → a k = b k) : wS a 6 = wS b 6 := by
  simp only [wS, h 0 (by omega), h 1 (by omega), h 2 (by omega), h 3 (by omega), h 4 (by omega), h 5 (by omega)]
theorem told_eq {i a nf : Nat} (hnf : 1000 ≤ nf) (h : gR X 4 i 0 = some a) (x : Int) : fX3_told nf X i x = some ((if x = 6 then wS (fun k => gI X 15 a k) 6 else if 0 ≤ x ∧ x < 6 then gI X 15 a x.toNat else -2), X) := by
  unfold fX3_told
  rw [worth3 hnf h]
  by_cases h6 : x = 6
  · rw [if_pos h6, if_pos h6]; rfl
  · rw [if_neg h6, if_neg h6]
    by_cases h0 : 0 ≤ x ∧ x < 6
    · rw [if_neg (by omega), if_neg (by omega), if_pos h0, nm_eq, h, ob_some, g_t h0]
    · rw [if_neg h0]
      by_cases h1 : x < 0
      · rw [if_pos h1]
      · rw [if_neg h1, if_pos (by omega)]
theorem till_eq (hM : RM M) {nf : Nat} (hnf : 1000 ≤ nf) (x : Int) : fX11_till nf M 0 x = some ((if x = 6 then wS (fun k => gI M 92 0 k) 6 else if 0 ≤ x ∧ x < 6 then gI M 92 0 x.toNat else -2), M) := by
  unfold fX11_till
  rw [in_eq, cl_some]
  have := tillL hM x 6 nf 0 rfl (by omega)
  by_cases h0 : 0 ≤ x ∧ x ≤ 6
  · rw [if_pos h0, if_neg (by decide)]
    refine Eq.trans this ?_
    by_cases h6 : x = 6
    · rw [if_pos h6, if_pos h6]
    · rw [if_neg h6, if_neg h6, g_t (by omega), if_pos (by omega)]
  · rw [if_neg h0, if_pos rfl, if_neg (by omega), if_neg (by omega)]
def cn (o : Option Nat) (k : Nat) : Int := match o with
  | some j => if j < k then (j : Int) else -9
  | none => -9
/-- the last of the first n clerks that serves cup c -/
theorem clerkOfL (hr : RR P C K D X M) (c : Nat) {o : Option Nat} (hu : ∀ k, k < K → gI M 102 0 k = c → o = some k) (hu2 : ∀ k, o = some k → k < K ∧ gI M 102 0 k = c) : ∀ m n k : Nat, k + m = K → m < n → ∀ v : Int, v = cn o k → fX11_clerkOf_L5 0 c n M v k = some (cn o K, M)
  | 0, n + 1, k, hk, _, v, hv => by
    obtain ⟨⟨hX, hM, hN⟩, -⟩ := hr
    unfold fX11_clerkOf_L5
    have : k = K := by omega
    rw [if_neg (by rw [hN.2.1.2.2]; omega), hv, this]
  | m + 1, n + 1, k, hk, hn, v, hv => by
    have hr' := hr
    obtain ⟨⟨hX, hM, hN⟩, -⟩ := hr
    unfold fX11_clerkOf_L5
    rw [if_pos (by rw [hN.2.1.2.2]; omega), nm_eq, hM.2 36 rfl, ob_some, g_t (by have := hN.1; omega), nm_eq, Int.toNat_natCast]
    by_cases e : gI M 102 0 k = c
    · rw [if_pos e]
      dsimp only []
      rw [nm_eq, nat_wr k (by have := hN.1; omega)]
      refine clerkOfL hr' c hu hu2 m n (k + 1) (by omega) (by omega) k ?_
      rw [hu k (by omega) e]
      simp [cn]
    · rw [if_neg e]
      dsimp only []
      rw [nm_eq, nat_wr k (by have := hN.1; omega)]
      refine clerkOfL hr' c hu hu2 m n (k + 1) (by omega) (by omega) v ?_
      rw [hv]
      cases o with
      | none => rfl
      | some j =>
        have : j ≠ k := fun h => e (h ▸ (hu2 j rfl).2)
        unfold cn
        by_cases h1 : j < k
        · simp only [if_pos h1, if_pos (by omega : j < k + 1)]
        · simp only [if_neg h1, if_neg (by omega : ¬ j < k + 1)]
theorem leftOfL (hr : RR P C K D X M) (c j : Nat) (hj : j < K) (hu : ∀ k, k < K → gI M 102 0 k = c → k = j) (hu2 : gI M 102 0 j = c) : ∀ m n k : Nat, k + m = K → m < n → k ≤ j → fX11_leftOf_L2 0 c n M k = some (gI M 103 0 j, M)
  | 0, n + 1, k, hk, _, hkj => by omega
  | m + 1, n + 1, k, hk, hn, hkj => by
    have hr' := hr
    obtain ⟨⟨hX, hM, hN⟩, -⟩ := hr
    unfold fX11_leftOf_L2
    rw [if_pos (by rw [hN.2.1.2.2]; omega), nm_eq, hM.2 36 rfl, ob_some, g_t (by have := hN.1; omega), Int.toNat_natCast]
    by_cases e : gI M 102 0 k = c
    · have := hu k (by omega) e
      subst this
      rw [if_pos e, nm_eq, hM.2 37 rfl, ob_some, g_t (by have := hN.1; omega)]
    · rw [if_neg e, nm_eq, nat_wr k (by have := hN.1; omega)]
      exact leftOfL hr' c j hj hu hu2 m n (k + 1) (by omega) (by omega) (by by_cases h : k = j; · exact absurd (h ▸ hu2) e
                                                                            · omega)
end CO
