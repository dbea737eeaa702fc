/-! ===== loads ===== -/
theorem ldS_s (M : zS) (p h n : Nat) : ldS M p h (n + 1) = ldS M p h n + (if 0 < n ∧ below M 16 n p = true then gI M 124 0 (6 * n + h) else 0) := rfl
section LO
variable {P C K : Nat} {D : Int} {X M : zS}
theorem ldS_b (hr : RR P C K D X M) (p h : Nat) (hh : h < 6) : ∀ n : Nat, n ≤ P → 0 ≤ ldS M p h n ∧ ldS M p h n ≤ 300 * n
  | 0, _ => by simp [ldS]
  | n + 1, hn => by
    have b := ldS_b hr p h hh n (by omega)
    obtain ⟨-, -, -, -, -, hL, -⟩ := hr
    have q := (hL n (by omega)).1 h hh
    rw [ldS_s]
    split <;> omega
theorem par (hr : RR P C K D X M) {q : Nat} (h0 : 0 < q) (hq : q < P) : ∃ r : Nat, r < q ∧ gI M 67 0 q = r ∧ gI M 68 0 r ≠ 2 := by
  obtain ⟨-, -, -, -, hP, -⟩ := hr
  have h := ((hP q hq).2.2.1 h0).1
  exact ⟨(gI M 67 0 q).toNat, by omega, by omega, h.2.2⟩
theorem below_0 (M : zS) (p : Nat) : ∀ n, below M n 0 p = (0 == p)
  | 0 => rfl
  | n + 1 => by unfold below; simp
theorem liesL (hr : RR P C K D X M) (κ : zS → Int → Option (Int × zS)) {p : Nat} : ∀ (f n q : Nat), q < P → q + 2 ≤ f → q ≤ n → fX11_liesBelow_L2 κ 0 p f M q = κ M (if below M n q p = true then p else -9)
  | 0, _, _, _, h, _ => by omega
  | f + 1, n, q, hq, hf, hn => by
    have hr' := hr
    obtain ⟨⟨hX, hM, hN⟩, hS, hF, hB, hP, -⟩ := hr
    have h16 := hN.1
    unfold fX11_liesBelow_L2
    by_cases e : q = p
    · subst e
      rw [if_pos rfl]
      have : below M n q q = true := by cases n <;> simp [below]
      rw [if_pos this]
    · rw [if_neg (by omega), if_neg (by omega)]
      simp only [nm_eq, up_eq, cl_some, ob_some, oe_some, oe_none, ob_none, hM.2 1 rfl, g_t (show (0 : Int) ≤ (q : Int) ∧ (q : Int) < 16 by omega), Int.toNat_natCast]
      by_cases h0 : q = 0
      · subst h0
        rw [((hP 0 hq).2.1 rfl).1, below_0, if_neg (by simp; omega)]
        obtain ⟨f, rfl⟩ : ∃ g, f = g + 1 := ⟨f - 1, by omega⟩
        unfold fX11_liesBelow_L2
        rw [if_neg (by omega), if_pos rfl]
      · obtain ⟨r, r1, r2, -⟩ := par hr' (by omega) hq
        obtain ⟨n, rfl⟩ : ∃ m, n = m + 1 := ⟨n - 1, by omega⟩
        rw [r2, liesL hr' κ f n r (by omega) (by omega) (by omega)]
        have : below M (n + 1) q p = below M n r p := by
          conv => lhs; unfold below
          rw [r2]
          simp [e, show 0 < q by omega]
        rw [this]
theorem lies_eq (hr : RR P C K D X M) {nf p q : Nat} (hnf : 1000 ≤ nf) (hq : q < P) : fX11_liesBelow nf M 0 q p = some ((if below M 16 q p = true then 1 else 0), M) := by
  have h16 := hr.1.2.2.1
  unfold fX11_liesBelow
  rw [liesL hr _ nf 16 q hq (by omega) (by omega)]
  by_cases e : below M 16 q p = true
  · rw [if_pos e, if_pos rfl, if_pos e]
  · rw [if_neg e, if_neg (by omega), if_neg e]
theorem wr6' (a b : Int) (ha : 0 ≤ a) (ha2 : a < 100) (hb : 0 ≤ b) (hb2 : b < 6) : wr (wr (6 * a) + b) = 6 * a + b := by
  rw [wr_id (z := 6 * a) (by unfold zin; omega), wr_id (by unfold zin; omega)]
theorem wr6 (k h : Nat) (hk : k < 100) (hh : h < 6) : wr (wr (6 * (k : Int)) + (h : Int)) = ((6 * k + h : Nat) : Int) := (wr6' k h (by omega) (by omega) (by omega) (by omega)).trans (by omega)
theorem loadL (hr : RR P C K D X M) {nf p h : Nat} (hnf : 1000 ≤ nf) (hp : 0 < p) (hh : h < 6) : ∀ m n k : Nat, k + m = P → m < n → 0 < k → fX11_loadOf_L5 0 p h nf n M (ldS M p h k) k = some (ldS M p h P, M)
  | 0, n + 1, k, hk, _, _ => by
    obtain ⟨⟨hX, hM, hN⟩, -⟩ := hr
    have : k = P := by omega
    unfold fX11_loadOf_L5
    rw [if_neg (by rw [hN.2.1.1]; omega), this]
  | m + 1, n + 1, k, hk, hn, h0 => by
    have hr' := hr
    obtain ⟨⟨hX, hM, hN⟩, hS, hF, hB, hP, hL, hC, hK, hD, hZ⟩ := hr
    have h16 := hN.1
    unfold fX11_loadOf_L5
    rw [if_pos (by rw [hN.2.1.1]; omega), lies_eq hr' hnf (by omega)]
    have g6 : (0 : Int) ≤ ((6 * k + h : Nat) : Int) ∧ ((6 * k + h : Nat) : Int) < 96 := by omega
    have ih := loadL hr' hnf hp hh m n (k + 1) (by omega) (by omega) (by omega)
    have b := ldS_b hr' p h hh (k + 1) (by omega)
    rw [ldS_s] at ih b
    simp only [nm_eq, up_eq, cl_some, ob_some, oe_some, oe_none, ob_none, hM.2 58 rfl, nat_wr k (by omega)]
    by_cases e : below M 16 k p = true
    · rw [if_pos e, if_neg (by decide), wr6 k h (by omega) hh, g_t g6, Int.toNat_natCast]
      rw [if_pos ⟨h0, e⟩] at ih b
      rw [wr_id (by unfold zin; omega)]
      exact ih
    · rw [if_neg e, if_pos rfl]
      rw [if_neg (fun q => e q.2)] at ih b
      rw [wr_id (by unfold zin; omega)]
      exact ih
theorem load_eq (hr : RR P C K D X M) {nf p h : Nat} (hnf : 1000 ≤ nf) (hp : 0 < p) (hq : p < P) (hh : h < 6) : fX11_loadOf nf M 0 p h = some (gI X 16 p h, M) := by
  have h16 := hr.1.2.2.1
  unfold fX11_loadOf
  have q := loadL hr hnf hp hh (P - 1) nf 1 (by omega) (by omega) (by omega)
  have e : ldS M p h 1 = 0 := by simp [ldS]
  rw [e] at q
  rw [(hr.2.2.2.2.2.1 p hq).2.2 h hh]
  exact q
theorem lossIn_eq (hr : RR P C K D X M) {p h : Nat} (hq : p < P) (hh : h < 6) : fX7_lossIn X p h = some (wr (wr (4 * gI X 16 p h) * gI M 69 0 p), X) := by
  obtain ⟨⟨hX, hM, hN⟩, hS, hF, hB, hP, hL, hC, hK, hD, hZ⟩ := hr
  have q := hP p hq
  unfold fX7_lossIn
  simp only [nm_eq, up_eq, cl_some, ob_some, oe_some, oe_none, ob_none, q.1.2.2.2.2.1, g_t (show (0 : Int) ≤ (h : Int) ∧ (h : Int) < 6 by omega), Int.toNat_natCast, q.2.2.2.1.2.1]
theorem P_load {X M : zS} (h : zR X M) {nf : Nat} (hnf : 1000 ≤ nf) (x1 x2 : Int) (h1 : zin x1) (h2 : zin x2) : ∃ r X' M', fX10_load X 0 x1 x2 = some (r, X') ∧ fX11_load nf M 0 x1 x2 = some (r, M') ∧ zR X' M' := by
  obtain ⟨P, C, K, hr⟩ := id h
  obtain ⟨⟨hX, hM, hN⟩, hS, hF, hB, hP, -⟩ := id hr
  unfold fX10_load fX11_load
  refine rd h ?_
  rcases idx1 x1 P with hx | ⟨p, hp0, hp, rfl⟩
  · simp only [findWire_out hr hx, isWire_eq hr, nm_eq, up_eq, cl_some, ob_some, oe_some, oe_none, ob_none, i10]
    rw [if_pos (by omega)]
    exact ⟨_, rfl, rfl⟩
  · simp only [findWire_in hr hp0 hp, isWire_eq hr, within_eq, in_eq, nm_eq, up_eq, cl_some, ob_some, oe_some, oe_none, ob_none, i10, (hP p hp).1.2.2.2.2.1]
    rw [if_neg (by omega : ¬ ¬ (1 ≤ (p : Int) ∧ (p : Int) < P))]
    by_cases hx : 0 ≤ x2 ∧ x2 ≤ 5
    · obtain ⟨k, rfl⟩ : ∃ k : Nat, x2 = k := ⟨x2.toNat, by omega⟩
      rw [if_neg (by omega), if_neg (by omega), g_t (by omega), load_eq hr hnf hp0 hp (by omega), Int.toNat_natCast]
      exact ⟨_, rfl, by rw [cl_some]⟩
    · rw [if_pos (by omega), if_pos (by omega)]
      exact ⟨_, rfl, rfl⟩
theorem P_loss {X M : zS} (h : zR X M) {nf : Nat} (hnf : 1000 ≤ nf) (x1 x2 : Int) (h1 : zin x1) (h2 : zin x2) : ∃ r X' M', fX10_loss X 0 x1 x2 = some (r, X') ∧ fX11_loss nf M 0 x1 x2 = some (r, M') ∧ zR X' M' := by
  obtain ⟨P, C, K, hr⟩ := id h
  obtain ⟨⟨hX, hM, hN⟩, hS, hF, hB, hP, -⟩ := id hr
  unfold fX10_loss fX11_loss
  refine rd h ?_
  have h16 := hN.1
  rcases idx1 x1 P with hx | ⟨p, hp0, hp, rfl⟩
  · simp only [findWire_out hr hx, isWire_eq hr, nm_eq, up_eq, cl_some, ob_some, oe_some, oe_none, ob_none, i10]
    rw [if_pos (by omega)]
    exact ⟨_, rfl, rfl⟩
  · simp only [findWire_in hr hp0 hp, isWire_eq hr, within_eq, in_eq, nm_eq, up_eq, cl_some, ob_some, oe_some, oe_none, ob_none, i10, hM.2 3 rfl, g_t (show (0 : Int) ≤ (p : Int) ∧ (p : Int) < 16 by omega), Int.toNat_natCast]
    rw [if_neg (by omega : ¬ ¬ (1 ≤ (p : Int) ∧ (p : Int) < P))]
    by_cases hx : 0 ≤ x2 ∧ x2 ≤ 5
    · obtain ⟨k, rfl⟩ : ∃ k : Nat, x2 = k := ⟨x2.toNat, by omega⟩
      rw [if_neg (by omega), if_neg (by omega), load_eq hr hnf hp0 hp (by omega), lossIn_eq hr hp (by omega)]
      exact ⟨_, by rw [cl_some], by simp only [cl_some, hM.2 3 rfl, ob_some, g_t (show (0 : Int) ≤ (p : Int) ∧ (p : Int) < 16 by omega), Int.toNat_natCast]⟩
    · rw [if_pos (by omega), if_pos (by omega)]
      exact ⟨_, rfl, rfl⟩
/-- the greatest load, of the first k hours -/
def mxL (a : Nat → Int) : Nat → Int
  | 0 => 0
  | n + 1 => imax (mxL a n) (a n)
def lnS (w l g : Int) : Int := if 720 < wr (wr (2 * w) * l) then wr (2 * wr (Int.tdiv (wr (wr (wr (w * g) + 720) - 1)) 720)) else 1
theorem wantedL (hr : RR P C K D X M) {p : Nat} (hp : p < P) : ∀ m n k : Nat, k + m = 6 → m < n → fX7_wantedLines_L4 p n X (mxL (fun h => gI X 16 p h) k) k = some (lnS (mxL (fun h => gI X 16 p h) 6) (gI M 69 0 p) (gI M 70 0 p), X)
  | 0, n + 1, k, hk, _ => by
    obtain ⟨-, -, -, -, hP, -⟩ := hr
    have q := (hP p hp).2.2.2.1
    have : k = 6 := by omega
    subst this
    unfold fX7_wantedLines_L4 lnS
    rw [if_neg (by omega), q.2.1, q.2.2]
    split <;> rfl
  | m + 1, n + 1, k, hk, hn => by
    have hr' := hr
    obtain ⟨-, -, -, -, hP, -⟩ := hr
    unfold fX7_wantedLines_L4
    rw [if_pos (by omega)]
    simp only [nm_eq, up_eq, cl_some, ob_some, oe_some, oe_none, ob_none, (hP p hp).1.2.2.2.2.1, g_t (show (0 : Int) ≤ (k : Int) ∧ (k : Int) < 6 by omega), Int.toNat_natCast, nat_wr k (by omega)]
    exact wantedL hr' hp m n (k + 1) (by omega) (by omega)
theorem linesL (hr : RR P C K D X M) {p nf : Nat} (hnf : 1000 ≤ nf) (hp0 : 0 < p) (hp : p < P) : ∀ m n k : Nat, k + m = 6 → m < n → fX11_linesOf_L4 0 p nf n M (mxL (fun h => gI X 16 p h) k) k = some (lnS (mxL (fun h => gI X 16 p h) 6) (gI M 69 0 p) (gI M 70 0 p), M)
  | 0, n + 1, k, hk, _ => by
    obtain ⟨⟨hX, hM, hN⟩, -⟩ := hr
    have h16 := hN.1
    have : k = 6 := by omega
    subst this
    unfold fX11_linesOf_L4 lnS
    rw [if_neg (by omega)]
    simp only [nm_eq, up_eq, cl_some, ob_some, oe_some, oe_none, ob_none, hM.2 3 rfl, hM.2 4 rfl, g_t (show (0 : Int) ≤ (p : Int) ∧ (p : Int) < 16 by omega), Int.toNat_natCast]
    split <;> rfl
  | m + 1, n + 1, k, hk, hn => by
    unfold fX11_linesOf_L4
    rw [if_pos (by omega), load_eq hr hnf hp0 hp (by omega)]
    have ih := linesL hr hnf hp0 hp m n (k + 1) (by omega) (by omega)
    simp only [nm_eq, up_eq, cl_some, ob_some, oe_some, oe_none, ob_none, nat_wr k (by omega)]
    have e : mxL (fun h => gI X 16 p h) (k + 1) = if mxL (fun h => gI X 16 p h) k < gI X 16 p k then gI X 16 p k else mxL (fun h => gI X 16 p h) k := rfl
    rw [e] at ih
    split at ih
    · rw [if_pos (by assumption)]; exact ih
    · rw [if_neg (by assumption)]; exact ih
theorem wantedLines_eq (hr : RR P C K D X M) {p nf : Nat} (hnf : 1000 ≤ nf) (hp : p < P) : fX7_wantedLines nf X p = some (lnS (mxL (fun h => gI X 16 p h) 6) (gI M 69 0 p) (gI M 70 0 p), X) := wantedL hr hp 6 nf 0 rfl (by omega)
theorem linesOf_eq (hr : RR P C K D X M) {p nf : Nat} (hnf : 1000 ≤ nf) (hp0 : 0 < p) (hp : p < P) : fX11_linesOf nf M 0 p = some (lnS (mxL (fun h => gI X 16 p h) 6) (gI M 69 0 p) (gI M 70 0 p), M) := linesL hr hnf hp0 hp 6 nf 0 rfl (by omega)
theorem P_lines {X M : zS} (h : zR X M) {nf : Nat} (hnf : 1000 ≤ nf) (x1 : Int) (h1 : zin x1) : ∃ r X' M', fX10_lines nf X 0 x1 = some (r, X') ∧ fX11_lines nf M 0 x1 = some (r, M') ∧ zR X' M' := by
  obtain ⟨P, C, K, hr⟩ := id h
  unfold fX10_lines fX11_lines
  refine rd h ?_
  rcases idx1 x1 P with hx | ⟨p, hp0, hp, rfl⟩
  · simp only [findWire_out hr hx, isWire_eq hr, nm_eq, up_eq, cl_some, ob_some, oe_some, oe_none, ob_none, i10]
    rw [if_pos (by omega)]
    exact ⟨_, rfl, rfl⟩
  · simp only [findWire_in hr hp0 hp, isWire_eq hr, wantedLines_eq hr hnf hp, linesOf_eq hr hnf hp0 hp, nm_eq, up_eq, cl_some, ob_some, oe_some, oe_none, ob_none, i10]
    rw [if_neg (by omega : ¬ ¬ (1 ≤ (p : Int) ∧ (p : Int) < P))]
    exact ⟨_, rfl, rfl⟩
def wtS (X M : zS) : Nat → Int
  | 0 => 0
  | n + 1 => if n = 0 then 0 else wr (wtS X M n + wr (gI M 69 0 n * lnS (mxL (fun h => gI X 16 n h) 6) (gI M 69 0 n) (gI M 70 0 n)))
theorem wtS_s (X M : zS) (n : Nat) (h : 0 < n) : wtS X M (n + 1) = wr (wtS X M n + wr (gI M 69 0 n * lnS (mxL (fun h => gI X 16 n h) 6) (gI M 69 0 n) (gI M 70 0 n))) := if_neg (by omega)
theorem wantL1 (hr : RR P C K D X M) {nf : Nat} (hnf : 1000 ≤ nf) : ∀ m n k : Nat, k + m = P → m < n → 0 < k → fX10_wanted_L4 0 nf n X (wtS X M k) k = some (wtS X M P, X)
  | 0, n + 1, k, hk, _, _ => by
    obtain ⟨⟨hX, hM, hN⟩, -⟩ := hr
    have : k = P := by omega
    unfold fX10_wanted_L4
    rw [if_neg (by rw [hN.2.2.1.1]; omega), this]
  | m + 1, n + 1, k, hk, hn, h0 => by
    have hr' := hr
    obtain ⟨⟨hX, hM, hN⟩, hS, hF, hB, hP, -⟩ := hr
    have h16 := hN.1
    have q := hP k (by omega)
    unfold fX10_wanted_L4
    rw [if_pos (by rw [hN.2.2.1.1]; omega)]
    have ih := wantL1 hr' hnf m n (k + 1) (by omega) (by omega) (by omega)
    rw [wtS_s _ _ _ h0] at ih
    simp only [nm_eq, up_eq, cl_some, ob_some, oe_some, oe_none, ob_none, hX.2.1 0 (by decide), hX.2.1 1 (by decide), hX.2.1 2 (by decide), hX.2.1 3 (by decide), hX.2.1 4 (by decide), hX.2.1 5 (by decide), hX.2.1 6 (by decide), hX.2.1 7 (by decide), hX.2.1 8 (by decide), hX.2.1 9 (by decide), hX.2.2.1.1, hX.2.2.1.2, hX.2.2.2.1.1, hX.2.2.2.1.2, hX.2.2.2.2.1, hX.2.2.2.2.2.1.1, hX.2.2.2.2.2.1.2.1, hX.2.2.2.2.2.1.2.2, hX.2.2.2.2.2.2.1.1, hX.2.2.2.2.2.2.1.2.1, hX.2.2.2.2.2.2.1.2.2.1, hX.2.2.2.2.2.2.1.2.2.2.1, hX.2.2.2.2.2.2.1.2.2.2.2.1, hX.2.2.2.2.2.2.1.2.2.2.2.2.1, hX.2.2.2.2.2.2.1.2.2.2.2.2.2, g_t (show (0 : Int) ≤ (k : Int) ∧ (k : Int) < 16 by omega), Int.toNat_natCast, q.1.1, wantedLines_eq hr' hnf (show k < P by omega), q.2.2.2.1.2.1, nat_wr k (by omega)]
    rw [Int.mul_comm (gI M 69 0 k)] at ih
    exact ih
theorem wantL2 (hr : RR P C K D X M) {nf : Nat} (hnf : 1000 ≤ nf) : ∀ m n k : Nat, k + m = P → m < n → 0 < k → fX11_wanted_L4 0 nf n M (wtS X M k) k = some (wtS X M P, M)
  | 0, n + 1, k, hk, _, _ => by
    obtain ⟨⟨hX, hM, hN⟩, -⟩ := hr
    have : k = P := by omega
    unfold fX11_wanted_L4
    rw [if_neg (by rw [hN.2.1.1]; omega), this]
  | m + 1, n + 1, k, hk, hn, h0 => by
    have hr' := hr
    obtain ⟨⟨hX, hM, hN⟩, -⟩ := hr
    have h16 := hN.1
    unfold fX11_wanted_L4
    rw [if_pos (by rw [hN.2.1.1]; omega)]
    have ih := wantL2 hr' hnf m n (k + 1) (by omega) (by omega) (by omega)
    rw [wtS_s _ _ _ h0] at ih
    simp only [nm_eq, up_eq, cl_some, ob_some, oe_some, oe_none, ob_none, hM.2 3 rfl, g_t (show (0 : Int) ≤ (k : Int) ∧ (k : Int) < 16 by omega), Int.toNat_natCast, linesOf_eq hr' hnf h0 (show k < P by omega), nat_wr k (by omega)]
    exact ih
theorem P_wanted {X M : zS} (h : zR X M) {nf : Nat} (hnf : 1000 ≤ nf) : ∃ r X' M', fX10_wanted nf X 0 = some (r, X') ∧ fX11_wanted nf M 0 = some (r, M') ∧ zR X' M' := by
  obtain ⟨P, C, K, hr⟩ := id h
  have h16 := hr.1.2.2.1
  exact rd h ⟨_, wantL1 hr hnf (P - 1) nf 1 (by omega) (by omega) (by omega), wantL2 hr hnf (P - 1) nf 1 (by omega) (by omega) (by omega)⟩
/-- the wire that loses most -/
def vtS (X M : zS) (h : Nat) : Nat → Int × Int
  | 0 => (0, -9)
  | n + 1 => if 0 < n ∧ (vtS X M h n).1 < wr (wr (4 * gI X 16 n h) * gI M 69 0 n) then (wr (wr (4 * gI X 16 n h) * gI M 69 0 n), (n : Int)) else vtS X M h n
theorem vtS_s (X M : zS) (h n : Nat) : vtS X M h (n + 1) = if 0 < n ∧ (vtS X M h n).1 < wr (wr (4 * gI X 16 n h) * gI M 69 0 n) then (wr (wr (4 * gI X 16 n h) * gI M 69 0 n), (n : Int)) else vtS X M h n := rfl
theorem vitalL1 (hr : RR P C K D X M) {h : Nat} (hh : h < 6) : ∀ m n k : Nat, k + m = P → m < n → 0 < k → fX10_vital_L20 0 h n X (vtS X M h k).1 (vtS X M h k).2 k = some ((vtS X M h P).2, X)
  | 0, n + 1, k, hk, _, _ => by
    obtain ⟨⟨hX, hM, hN⟩, -⟩ := hr
    have : k = P := by omega
    unfold fX10_vital_L20
    rw [if_neg (by rw [hN.2.2.1.1]; omega), this]
  | m + 1, n + 1, k, hk, hn, h0 => by
    have hr' := hr
    obtain ⟨⟨hX, hM, hN⟩, hS, hF, hB, hP, -⟩ := hr
    have h16 := hN.1
    have q := hP k (by omega)
    unfold fX10_vital_L20
    rw [if_pos (by rw [hN.2.2.1.1]; omega)]
    have ih := vitalL1 hr' hh m n (k + 1) (by omega) (by omega) (by omega)
    rw [vtS_s] at ih
    simp only [nm_eq, up_eq, cl_some, ob_some, oe_some, oe_none, ob_none, hX.2.1 0 (by decide), hX.2.1 1 (by decide), hX.2.1 2 (by decide), hX.2.1 3 (by decide), hX.2.1 4 (by decide), hX.2.1 5 (by decide), hX.2.1 6 (by decide), hX.2.1 7 (by decide), hX.2.1 8 (by decide), hX.2.1 9 (by decide), hX.2.2.1.1, hX.2.2.1.2, hX.2.2.2.1.1, hX.2.2.2.1.2, hX.2.2.2.2.1, hX.2.2.2.2.2.1.1, hX.2.2.2.2.2.1.2.1, hX.2.2.2.2.2.1.2.2, hX.2.2.2.2.2.2.1.1, hX.2.2.2.2.2.2.1.2.1, hX.2.2.2.2.2.2.1.2.2.1, hX.2.2.2.2.2.2.1.2.2.2.1, hX.2.2.2.2.2.2.1.2.2.2.2.1, hX.2.2.2.2.2.2.1.2.2.2.2.2.1, hX.2.2.2.2.2.2.1.2.2.2.2.2.2, g_t (show (0 : Int) ≤ (k : Int) ∧ (k : Int) < 16 by omega), Int.toNat_natCast, q.1.1, lossIn_eq hr' (show k < P by omega) hh, nat_wr k (by omega)]
    by_cases e : (vtS X M h k).1 < wr (wr (4 * gI X 16 k h) * gI M 69 0 k)
    · rw [if_pos e]; rw [if_pos ⟨h0, e⟩] at ih; exact ih
    · rw [if_neg e]; rw [if_neg (fun q => e q.2)] at ih; exact ih
theorem vitalL2 (hr : RR P C K D X M) {nf h : Nat} (hnf : 1000 ≤ nf) (hh : h < 6) : ∀ m n k : Nat, k + m = P → m < n → 0 < k → fX11_vital_L20 0 h nf n M (vtS X M h k).2 (vtS X M h k).1 k = some ((vtS X M h P).2, M)
  | 0, n + 1, k, hk, _, _ => by
    obtain ⟨⟨hX, hM, hN⟩, -⟩ := hr
    have : k = P := by omega
    unfold fX11_vital_L20
    rw [if_neg (by rw [hN.2.1.1]; omega), this]
  | m + 1, n + 1, k, hk, hn, h0 => by
    have hr' := hr
    obtain ⟨⟨hX, hM, hN⟩, hS, hF, hB, hP, -⟩ := hr
    have h16 := hN.1
    unfold fX11_vital_L20
    rw [if_pos (by rw [hN.2.1.1]; omega)]
    have ih := vitalL2 hr' hnf hh m n (k + 1) (by omega) (by omega) (by omega)
    rw [vtS_s] at ih
    simp only [nm_eq, up_eq, cl_some, ob_some, oe_some, oe_none, ob_none, hM.2 3 rfl, g_t (show (0 : Int) ≤ (k : Int) ∧ (k : Int) < 16 by omega), Int.toNat_natCast, load_eq hr' hnf h0 (show k < P by omega) hh, nat_wr k (by omega)]
    by_cases e : (vtS X M h k).1 < wr (wr (4 * gI X 16 k h) * gI M 69 0 k)
    · rw [if_pos e, if_pos e]; rw [if_pos ⟨h0, e⟩] at ih; exact ih
    · rw [if_neg e, if_neg e]; rw [if_neg (fun q => e q.2)] at ih; exact ih
theorem P_vital {X M : zS} (h : zR X M) {nf : Nat} (hnf : 1000 ≤ nf) (x1 : Int) (h1 : zin x1) : ∃ r X' M', fX10_vital nf X 0 x1 = some (r, X') ∧ fX11_vital nf M 0 x1 = some (r, M') ∧ zR X' M' := by
  obtain ⟨P, C, K, hr⟩ := id h
  have h16 := hr.1.2.2.1
  refine rd h ?_
  unfold fX10_vital fX11_vital
  simp only [within_eq, in_eq, nm_eq, up_eq, cl_some, ob_some, oe_some, oe_none, ob_none, i10]
  by_cases hx : 0 ≤ x1 ∧ x1 ≤ 5
  · obtain ⟨k, rfl⟩ : ∃ k : Nat, x1 = k := ⟨x1.toNat, by omega⟩
    rw [if_neg (by omega), if_neg (by omega)]
    exact ⟨_, vitalL1 hr (by omega) (P - 1) nf 1 (by omega) (by omega) (by omega), vitalL2 hr hnf (by omega) (P - 1) nf 1 (by omega) (by omega) (by omega)⟩
  · rw [if_pos (by omega), if_pos (by omega)]
    exact ⟨_, rfl, rfl⟩
end LO
