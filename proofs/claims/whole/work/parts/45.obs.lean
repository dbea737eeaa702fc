/-! ===== waits, wires, bells, what may be ===== -/
section OB
variable {P C K : Nat} {D : Int} {X M : zS}
theorem ringIdx {a x : Int} (ha : 0 ≤ a) (ha2 : a < 300) (hx : 0 ≤ x) (hx2 : x ≤ 300) : 0 ≤ Int.tmod (wr (a + x)) 300 ∧ Int.tmod (wr (a + x)) 300 < 300 := by
  rw [wr_id (by unfold zin; omega)]
  exact ⟨Int.tmod_nonneg _ (by omega), Int.tmod_lt_of_pos _ (by omega)⟩
theorem bellX (hr : RR P C K D X M) {x : Int} (h0 : 0 ≤ x) (h1 : x ≤ 300) : fX0_jointOf X 0 x = some (gI M 115 0 (Int.tmod (wr (gI M 64 0 48 + x)) 300).toNat, X) ∧ fX0_tickOf X 0 x = some (gI M 116 0 (Int.tmod (wr (gI M 64 0 48 + x)) 300).toNat, X) := by
  obtain ⟨⟨hX, hM, hN⟩, hS, hF, hB, -⟩ := hr
  have g := ringIdx hB.1.2.1 hB.1.2.2 h0 h1
  unfold fX0_jointOf fX0_tickOf
  simp only [hX.2.1 0 (by decide), hX.2.1 1 (by decide), hX.2.1 2 (by decide), hX.2.1 3 (by decide), hX.2.1 4 (by decide), hX.2.1 5 (by decide), hX.2.1 6 (by decide), hX.2.1 7 (by decide), hX.2.1 8 (by decide), hX.2.1 9 (by decide), hX.2.2.1.1, hX.2.2.1.2, hX.2.2.2.1.1, hX.2.2.2.1.2, hX.2.2.2.2.1, hX.2.2.2.2.2.1.1, hX.2.2.2.2.2.1.2.1, hX.2.2.2.2.2.1.2.2, hX.2.2.2.2.2.2.1.1, hX.2.2.2.2.2.2.1.2.1, hX.2.2.2.2.2.2.1.2.2.1, hX.2.2.2.2.2.2.1.2.2.2.1, hX.2.2.2.2.2.2.1.2.2.2.2.1, hX.2.2.2.2.2.2.1.2.2.2.2.2.1, hX.2.2.2.2.2.2.1.2.2.2.2.2.2, nm_eq, up_eq, cl_some, ob_some, oe_some, oe_none, ob_none, hB.1.1]
  have q := hB.2.2.2 (Int.tmod (wr (gI M 64 0 48 + x)) 300).toNat (by omega)
  rw [g_t g, g_t g, q.1, q.2]
  exact ⟨rfl, rfl⟩
theorem P_bell {X M : zS} (h : zR X M) {nf : Nat} (hnf : 1000 ≤ nf) (x1 x2 : Int) (h1 : zin x1) (h2 : x2 = 0 ∨ x2 = 1) : ∃ r X' M', fX10_bell X 0 x1 x2 = some (r, X') ∧ fX11_bell M 0 x1 x2 = some (r, M') ∧ zR X' M' := by
  obtain ⟨P, C, K, hr⟩ := id h
  obtain ⟨⟨hX, hM, hN⟩, hS, hF, hB, -⟩ := id hr
  unfold fX10_bell fX11_bell
  refine rd h ?_
  simp only [in_eq, nm_eq, up_eq, cl_some, ob_some, oe_some, oe_none, ob_none, i10, hX.2.1 0 (by decide), hX.2.1 1 (by decide), hX.2.1 2 (by decide), hX.2.1 3 (by decide), hX.2.1 4 (by decide), hX.2.1 5 (by decide), hX.2.1 6 (by decide), hX.2.1 7 (by decide), hX.2.1 8 (by decide), hX.2.1 9 (by decide), hX.2.2.1.1, hX.2.2.1.2, hX.2.2.2.1.1, hX.2.2.2.1.2, hX.2.2.2.2.1, hX.2.2.2.2.2.1.1, hX.2.2.2.2.2.1.2.1, hX.2.2.2.2.2.1.2.2, hX.2.2.2.2.2.2.1.1, hX.2.2.2.2.2.2.1.2.1, hX.2.2.2.2.2.2.1.2.2.1, hX.2.2.2.2.2.2.1.2.2.2.1, hX.2.2.2.2.2.2.1.2.2.2.2.1, hX.2.2.2.2.2.2.1.2.2.2.2.2.1, hX.2.2.2.2.2.2.1.2.2.2.2.2.2, hM.2 49 rfl, hM.2 50 rfl]
  have b := hB.2.1
  rw [wr_id (z := gI M 64 0 47 - 1) (by unfold zin; omega), b.1]
  by_cases h0 : x1 < 0
  · rw [if_pos h0, if_pos (by omega)]; exact ⟨_, rfl, rfl⟩
  rw [if_neg h0]
  by_cases h3 : x1 < gI M 64 0 47
  · rw [if_pos h3, if_neg (show ¬ ¬ (0 ≤ x1 ∧ x1 ≤ gI M 64 0 47 - 1) by omega)]
    have g := ringIdx hB.1.2.1 hB.1.2.2 (show 0 ≤ x1 by omega) (by omega)
    obtain ⟨e1, e2⟩ := bellX hr (show 0 ≤ x1 by omega) (by omega)
    rw [e1, e2, g_t g, g_t g]
    split
    · exact ⟨_, by rw [cl_some], rfl⟩
    · exact ⟨_, by rw [cl_some], rfl⟩
  · rw [if_neg h3, if_pos (show ¬ (0 ≤ x1 ∧ x1 ≤ gI M 64 0 47 - 1) by omega)]; exact ⟨_, rfl, rfl⟩
theorem rungL (hr : RR P C K D X M) (a b : Int) {s : Nat} (hs : gI M 64 0 47 = s) : ∀ m n k : Nat, k + m = s → m < n → ∃ v, fX0_firstFrom_L2 0 a b n X k = some (v, X) ∧ fX11_rungBehind_L2 0 a b n M k = some (v, M)
  | 0, n + 1, k, hk, _ => by
    obtain ⟨⟨hX, hM, hN⟩, hS, hF, hB, -⟩ := hr
    unfold fX0_firstFrom_L2 fX11_rungBehind_L2
    rw [hB.2.1.1, hs, if_neg (by omega), if_neg (by omega)]
    exact ⟨_, rfl, rfl⟩
  | m + 1, n + 1, k, hk, hn => by
    have hr' := hr
    obtain ⟨⟨hX, hM, hN⟩, hS, hF, hB, -⟩ := hr
    have hb := hB.2.1
    have ih := rungL hr' a b hs m n (k + 1) (by omega) (by omega)
    obtain ⟨e1, e2⟩ := bellX hr' (show 0 ≤ (k : Int) by omega) (by omega)
    have g := ringIdx hB.1.2.1 hB.1.2.2 (show 0 ≤ (k : Int) by omega) (by omega)
    unfold fX0_firstFrom_L2 fX11_rungBehind_L2
    rw [hB.2.1.1, hs, if_pos (by omega), if_pos (by omega)]
    simp only [e1, e2, nm_eq, up_eq, cl_some, ob_some, oe_some, oe_none, ob_none, hM.2 49 rfl, hM.2 50 rfl, g_t g, nat_wr k (by omega)]
    by_cases c1 : gI M 115 0 (Int.tmod (wr (gI M 64 0 48 + (k : Int))) 300).toNat = a
    · rw [if_pos c1, if_pos c1]
      by_cases c2 : gI M 116 0 (Int.tmod (wr (gI M 64 0 48 + (k : Int))) 300).toNat < b
      · rw [if_pos c2, if_pos c2]; exact ih
      · rw [if_neg c2, if_neg c2]; exact ⟨_, rfl, rfl⟩
    · rw [if_neg c1, if_neg c1]; exact ih
theorem rung_eq (hr : RR P C K D X M) {nf : Nat} (hnf : 1000 ≤ nf) (a b : Int) : ∃ v, fX0_firstFrom nf X 0 a b = some (v, X) ∧ fX11_rungBehind nf M 0 a b = some (v, M) := by
  have hb := hr.2.2.2.1.2.1
  exact rungL hr a b (s := (gI M 64 0 47).toNat) (by omega) (gI M 64 0 47).toNat nf 0 (by omega) (by omega)
theorem mayL (hr : RR P C K D X M) {nf : Nat} (hnf : 1000 ≤ nf) : ∀ n p : Nat, p < n → p < P → ∀ x3 x4 : Int, ∃ v, fX10_mayBe_L36 0 nf n X x3 x4 (some p) = some (v, X) ∧ fX11_mayBe_L39 0 nf n M x3 p x4 = some (v, M)
  | 0, _, h, _, _, _ => by omega
  | n + 1, p, hn, hp, x3, x4 => by
    have hr' := hr
    obtain ⟨⟨hX, hM, hN⟩, hS, hF, hB, hP, -⟩ := hr
    have h16 := hN.1
    have q := hP p hp
    unfold fX10_mayBe_L36 fX11_mayBe_L39
    by_cases h0 : p = 0
    · subst h0
      have e : gR X 8 0 1 = none := by rw [q.1.2.2.2.2.2.2, (q.2.1 rfl).1]; rfl
      simp only [nm_eq, up_eq, cl_some, ob_some, oe_some, oe_none, ob_none, e]
      exact ⟨_, rfl, rfl⟩
    · obtain ⟨r, r1, r2, r3⟩ := par hr' (by omega) hp
      have qr := hP r (by omega)
      have e : gR X 8 p 1 = some r := by rw [q.1.2.2.2.2.2.2, r2]; unfold ox; rw [if_neg (by omega), Int.toNat_natCast]
      rw [if_neg (by omega)]
      simp only [nm_eq, up_eq, cl_some, ob_some, oe_some, oe_none, ob_none, e, hM.2 3 rfl, hM.2 1 rfl, hM.2 10 rfl, hX.2.1 7 (by decide), g_t (show (0 : Int) ≤ (p : Int) ∧ (p : Int) < 16 by omega), g_t (show (0 : Int) ≤ (r : Int) ∧ (r : Int) < 16 by omega), Int.toNat_natCast, q.2.2.2.1.2.1, r2, qr.2.2.2.1.1, qr.2.2.2.2.2.2.2.2.1.1, qr.1.2.1, hS.1.1]
      have fin : ∀ w : Int, ∃ v, (if w = -9 then some (x3, X) else if gI M 64 0 13 < w then some (x3, X) else fX10_mayBe_L36 0 nf n X (wr (x3 + 1)) w (some r)) = some (v, X) ∧ (if w = -9 then some (x3, M) else if gI M 64 0 13 < w then some (x3, M) else fX11_mayBe_L39 0 nf n M (wr (x3 + 1)) r w) = some (v, M) := by
        intro w
        by_cases w9 : w = -9
        · rw [if_pos w9, if_pos w9]; exact ⟨_, rfl, rfl⟩
        rw [if_neg w9, if_neg w9]
        by_cases wc : gI M 64 0 13 < w
        · rw [if_pos wc, if_pos wc]; exact ⟨_, rfl, rfl⟩
        rw [if_neg wc, if_neg wc]
        exact mayL hr' hnf n r (by omega) (by omega) _ w
      by_cases hr0 : r = 0
      · subst hr0
        rw [if_neg (show ¬ gI M 68 0 0 = 1 by rw [(qr.2.1 rfl).2]; decide), if_pos (show ((0 : Nat) : Int) = 0 from rfl)]
        exact fin _
      · have s1 : gI M 68 0 r = 1 := by have := (qr.2.2.1 (by omega)).2.1; omega
        rw [if_pos s1, if_neg (show ¬ (r : Int) = 0 by omega)]
        by_cases sl : gI M 76 0 r = 0
        · rw [if_pos sl, if_pos sl]
          obtain ⟨v, e1, e2⟩ := rung_eq hr' hnf r (wr (x4 + gI M 69 0 p))
          rw [e1, e2]
          simp only [cl_some, hS.1.1, e]
          exact fin v
        · rw [if_neg sl, if_neg sl]
          exact fin _
theorem P_mayBe {X M : zS} (h : zR X M) {nf : Nat} (hnf : 1000 ≤ nf) (x1 : Int) (h1 : zin x1) : ∃ r X' M', fX10_mayBe nf X 0 x1 = some (r, X') ∧ fX11_mayBe nf M 0 x1 = some (r, M') ∧ zR X' M' := by
  obtain ⟨P, C, K, hr⟩ := id h
  obtain ⟨⟨hX, hM, hN⟩, hS, hF, hB, hP, hL, hC, hK, hD, hZ⟩ := id hr
  have h16 := hN.1
  unfold fX10_mayBe fX11_mayBe
  refine rd h ?_
  rcases idx0 x1 C with hx | ⟨c, hc, rfl⟩
  · simp only [findCup_out hr hx, isCup_eq hr, nm_eq, up_eq, cl_some, ob_some, oe_some, oe_none, ob_none, i10]
    rw [if_pos (by omega)]
    exact ⟨_, rfl, rfl⟩
  · have hg : 0 ≤ (c : Int) ∧ (c : Int) < 24 := by have := hN.1; omega
    obtain ⟨⟨-, -, -, -⟩, ⟨b1, b2, b3, b4⟩, ⟨c1, c2, c3⟩, d4, d5, d6, d7, d8, d9, d10, d11, d12, d13, d14, d15, d16, d17, d18, d19, d20, d21, d22, -⟩ := hC c hc
    simp only [findCup_in hr hc, isCup_eq hr, nm_eq, up_eq, cl_some, ob_some, oe_some, oe_none, ob_none, i10, hM.2 22 rfl, hM.2 15 rfl, hM.2 24 rfl, g_t hg, Int.toNat_natCast, d20.1, d22.1, b1]
    rw [if_neg (by omega : ¬ ¬ (0 ≤ (c : Int) ∧ (c : Int) < C))]
    by_cases e : gI M 88 0 c = 0
    · rw [if_pos e, if_pos e]; exact ⟨_, rfl, rfl⟩
    · rw [if_neg e, if_neg e]
      have := mayL hr hnf nf (gI M 81 0 c).toNat (by omega) (by omega) 0 (gI M 90 0 c)
      rwa [show (((gI M 81 0 c).toNat : Nat) : Int) = gI M 81 0 c by omega] at this
theorem P_waits {X M : zS} (h : zR X M) {nf : Nat} (hnf : 1000 ≤ nf) (x1 x2 : Int) (h1 : zin x1) (h2 : zin x2) : ∃ r X' M', fX10_waits X 0 x1 x2 = some (r, X') ∧ fX11_waits M 0 x1 x2 = some (r, M') ∧ zR X' M' := by
  obtain ⟨P, C, K, hr⟩ := id h
  obtain ⟨⟨hX, hM, hN⟩, hS, hF, hB, hP, hL, hC, hK, hD, hZ⟩ := id hr
  have h16 := hN.1
  unfold fX10_waits fX11_waits
  refine rd h ?_
  rcases idx0 x1 P with hx | ⟨p, hp, rfl⟩
  · simp only [findPost_out hr hx, isPost_eq hr, nm_eq, up_eq, cl_some, ob_some, oe_some, oe_none, ob_none, i10]
    rw [if_pos (by omega)]
    exact ⟨_, rfl, rfl⟩
  · obtain ⟨⟨-, -, -, -, -, a15, -⟩, -, -, ⟨a2, -, -⟩, -, -, -, -, -, -, ⟨t0, -⟩, t1, t2, -, t3, t4⟩ := hP p hp
    simp only [findPost_in hr hp, isPost_eq hr, nm_eq, up_eq, cl_some, ob_some, oe_some, oe_none, ob_none, i10, hM.2 2 rfl, hM.2 29 rfl, hM.2 30 rfl, hM.2 31 rfl, hM.2 32 rfl, hM.2 33 rfl, g_t (show (0 : Int) ≤ (p : Int) ∧ (p : Int) < 16 by omega), Int.toNat_natCast, a15, a2, t0, t1, t2, t3, t4]
    rw [if_neg (by omega : ¬ ¬ (0 ≤ (p : Int) ∧ (p : Int) < P))]
    by_cases s : gI M 68 0 p = 2
    · rw [if_pos s, if_pos s]
      by_cases e0 : x2 = 0
      · subst e0; simp
      by_cases e1 : x2 = 1
      · subst e1; simp
      by_cases e2 : x2 = 2
      · subst e2
        by_cases z : gI M 95 0 p = 0 <;> simp [z]
      by_cases e3 : x2 = 3
      · subst e3; simp
      by_cases e4 : x2 = 4
      · subst e4; simp
      simp [e0, e1, e2, e3, e4]
    · rw [if_neg s, if_neg s]; exact ⟨_, rfl, rfl⟩
def onS (M : zS) (p : Nat) (d : Int) : Nat → Int
  | 0 => 0
  | n + 1 => onS M p d n + (if gI M 82 0 n = 2 ∧ gI M 83 0 n = p ∧ gI M 85 0 n = d then 1 else 0)
theorem onS_s (M : zS) (p : Nat) (d : Int) (n : Nat) : onS M p d (n + 1) = onS M p d n + (if gI M 82 0 n = 2 ∧ gI M 83 0 n = p ∧ gI M 85 0 n = d then 1 else 0) := rfl
theorem onS_b (M : zS) (p : Nat) (d : Int) : ∀ n : Nat, 0 ≤ onS M p d n ∧ onS M p d n ≤ n
  | 0 => by simp [onS]
  | n + 1 => by
    have := onS_b M p d n
    rw [onS_s]
    split <;> omega
theorem onL1 (hr : RR P C K D X M) {p : Nat} (d : Int) : ∀ m n k : Nat, k + m = C → m < n → fX10_on_L18 0 d p n X (onS M p d k) k = some (onS M p d C, X)
  | 0, n + 1, k, hk, _ => by
    obtain ⟨⟨hX, hM, hN⟩, -⟩ := hr
    have : k = C := by omega
    unfold fX10_on_L18
    rw [if_neg (by rw [hN.2.2.1.2.1]; omega), this]
  | m + 1, n + 1, k, hk, hn => by
    have hr' := hr
    obtain ⟨⟨hX, hM, hN⟩, hS, hF, hB, hP, hL, hC, hK, hD, hZ⟩ := hr
    have h16 := hN.1
    obtain ⟨⟨a1, -, -, -⟩, -, ⟨c1, c2, c3⟩, d4, d5, d6, d7, -⟩ := hC k (by omega)
    have ih := onL1 hr' (p := p) d m n (k + 1) (by omega) (by omega)
    have b := onS_b M p d k
    rw [onS_s] at ih
    unfold fX10_on_L18
    rw [if_pos (by rw [hN.2.2.1.2.1]; omega)]
    simp only [nm_eq, up_eq, cl_some, ob_some, oe_some, oe_none, ob_none, hX.2.1 0 (by decide), hX.2.1 1 (by decide), hX.2.1 2 (by decide), hX.2.1 3 (by decide), hX.2.1 4 (by decide), hX.2.1 5 (by decide), hX.2.1 6 (by decide), hX.2.1 7 (by decide), hX.2.1 8 (by decide), hX.2.1 9 (by decide), hX.2.2.1.1, hX.2.2.1.2, hX.2.2.2.1.1, hX.2.2.2.1.2, hX.2.2.2.2.1, hX.2.2.2.2.2.1.1, hX.2.2.2.2.2.1.2.1, hX.2.2.2.2.2.1.2.2, hX.2.2.2.2.2.2.1.1, hX.2.2.2.2.2.2.1.2.1, hX.2.2.2.2.2.2.1.2.2.1, hX.2.2.2.2.2.2.1.2.2.2.1, hX.2.2.2.2.2.2.1.2.2.2.2.1, hX.2.2.2.2.2.2.1.2.2.2.2.2.1, hX.2.2.2.2.2.2.1.2.2.2.2.2.2, g_t (show (0 : Int) ≤ (k : Int) ∧ (k : Int) < 24 by omega), Int.toNat_natCast, a1, c1, d7.1, nat_wr k (by omega)]
    by_cases z : gI M 82 0 k = 2
    · rw [if_pos z]
      have d5 := d5 (by omega)
      rw [d5.1]
      by_cases w : gI M 83 0 k = p
      · rw [if_pos (by rw [w, Int.toNat_natCast])]
        by_cases v : gI M 85 0 k = d
        · rw [if_pos v, wr_id (by unfold zin; omega)]
          rw [if_pos ⟨z, w, v⟩] at ih
          exact ih
        · rw [if_neg v]
          rw [if_neg (fun q => v q.2.2), Int.add_zero] at ih
          exact ih
      · rw [if_neg (by intro q; have := Option.some.inj q; omega)]
        rw [if_neg (fun q => w q.2.1), Int.add_zero] at ih
        exact ih
    · rw [if_neg z]
      rw [if_neg (fun q => z q.1), Int.add_zero] at ih
      exact ih
theorem onL2 (hr : RR P C K D X M) {p : Nat} (d : Int) : ∀ m n k : Nat, k + m = C → m < n → fX11_onMany_L5 0 p d n M (onS M p d k) k = some (onS M p d C, M)
  | 0, n + 1, k, hk, _ => by
    obtain ⟨⟨hX, hM, hN⟩, -⟩ := hr
    have : k = C := by omega
    unfold fX11_onMany_L5
    rw [if_neg (by rw [hN.2.1.2.1]; omega), this]
  | m + 1, n + 1, k, hk, hn => by
    have hr' := hr
    obtain ⟨⟨hX, hM, hN⟩, hS, hF, hB, hP, hL, hC, hK, hD, hZ⟩ := hr
    have h16 := hN.1
    have ih := onL2 hr' (p := p) d m n (k + 1) (by omega) (by omega)
    have b := onS_b M p d k
    rw [onS_s] at ih
    unfold fX11_onMany_L5
    rw [if_pos (by rw [hN.2.1.2.1]; omega)]
    simp only [nm_eq, up_eq, cl_some, ob_some, oe_some, oe_none, ob_none, hM.2 16 rfl, hM.2 17 rfl, hM.2 19 rfl, g_t (show (0 : Int) ≤ (k : Int) ∧ (k : Int) < 24 by omega), Int.toNat_natCast, nat_wr k (by omega)]
    by_cases z : gI M 82 0 k = 2
    · rw [if_pos z]
      by_cases w : gI M 83 0 k = p
      · rw [if_pos w]
        by_cases v : gI M 85 0 k = d
        · rw [if_pos v, wr_id (by unfold zin; omega)]
          rw [if_pos ⟨z, w, v⟩] at ih
          exact ih
        · rw [if_neg v, wr_id (by unfold zin; omega)]
          rw [if_neg (fun q => v q.2.2)] at ih
          exact ih
      · rw [if_neg w, wr_id (by unfold zin; omega)]
        rw [if_neg (fun q => w q.2.1)] at ih
        exact ih
    · rw [if_neg z, wr_id (by unfold zin; omega)]
      rw [if_neg (fun q => z q.1)] at ih
      exact ih
theorem onMany_eq (hr : RR P C K D X M) {nf p : Nat} (hnf : 1000 ≤ nf) (d : Int) : fX11_onMany nf M 0 p d = some (onS M p d C, M) := by
  have h16 := hr.1.2.2.1
  exact onL2 hr d C nf 0 (by omega) (by omega)
theorem P_on {X M : zS} (h : zR X M) {nf : Nat} (hnf : 1000 ≤ nf) (x1 x2 : Int) (h1 : zin x1) (h2 : x2 = 0 ∨ x2 = 1) : ∃ r X' M', fX10_on nf X 0 x1 x2 = some (r, X') ∧ fX11_on nf M 0 x1 x2 = some (r, M') ∧ zR X' M' := by
  obtain ⟨P, C, K, hr⟩ := id h
  have h16 := hr.1.2.2.1
  unfold fX10_on fX11_on
  refine rd h ?_
  rcases idx1 x1 P with hx | ⟨p, hp0, hp, rfl⟩
  · simp only [findWire_out hr hx, isWire_eq hr, nm_eq, up_eq, cl_some, ob_some, oe_some, oe_none, ob_none, i10]
    rw [if_pos (by omega)]
    exact ⟨_, rfl, rfl⟩
  · simp only [findWire_in hr hp0 hp, isWire_eq hr, onMany_eq hr hnf, nm_eq, up_eq, cl_some, ob_some, oe_some, oe_none, ob_none, i10]
    rw [if_neg (by omega : ¬ ¬ (1 ≤ (p : Int) ∧ (p : Int) < P))]
    exact ⟨_, onL1 hr x2 C nf 0 (by omega) (by omega), rfl⟩
end OB
