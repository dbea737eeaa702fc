/-! ===== change: the loops, and the calls ===== -/
section CD
variable {T : Nat → Int} {X M : zS}
theorem xTwo (h0 : ∀ j, 0 ≤ T j) (hX0 : gR X 2 0 0 = some 1) (hX1 : gR X 2 0 1 = some 2) (hL : ∀ k, k < 6 → gI X 15 0 k = T k) {nf : Nat} (hnf : 1000 ≤ nf) (κ : zS → Int → Option (Int × zS)) {amt a c4 : Int} (hamt : amt ≤ 3000) (ha : 0 ≤ a) (b : Nat) (hab : 60 * a + 30 * (b : Int) ≤ amt) {S : Int × (Nat → Int)} {Y : zS} (hS : XS X S Y) (n : Nat) :
    ∃ Y', fX1_find_L68 κ 0 0 amt c4 a (amt - 60 * a) b nf (n + 3) Y S.1 b = κ Y' (twob T amt a b S).1 ∧ XS X (twob T amt a b S) Y' := by
  cases b with
  | zero =>
    obtain ⟨Y', e, hS'⟩ := xStep h0 hX0 hX1 hL hnf κ (c4 := c4) (c7 := 0) (b := 0) hamt ha (by omega) hab (by omega) (by omega) hS (n + 2)
    refine ⟨Y', Eq.trans e ?_, hS'⟩
    unfold fX1_find_L68
    rw [if_pos (by omega)]
    rfl
  | succ b =>
    have e1 : ((b + 1 : Nat) : Int) - 1 = b := by omega
    obtain ⟨Y1, f1, hS1⟩ := xStep h0 hX0 hX1 hL hnf κ (c4 := c4) (c7 := ((b + 1 : Nat) : Int)) (b := ((b + 1 : Nat) : Int)) hamt ha (by omega) hab (by omega) (by omega) hS (n + 2)
    obtain ⟨Y2, f2, hS2⟩ := xStep h0 hX0 hX1 hL hnf κ (c4 := c4) (c7 := ((b + 1 : Nat) : Int)) (b := (b : Int)) hamt ha (by omega) (by omega) (by omega) (by omega) hS1 (n + 1)
    rw [e1] at f1
    refine ⟨Y2, f1.trans (f2.trans ?_), hS2⟩
    unfold fX1_find_L68
    by_cases z : (b : Int) - 1 < 0
    · rw [if_pos z]; rfl
    · rw [if_neg z, (wrd _ (by omega) (by omega)).2, if_pos (by omega)]; rfl
theorem xRow (h0 : ∀ j, 0 ≤ T j) (hX0 : gR X 2 0 0 = some 1) (hX1 : gR X 2 0 1 = some 2) (hL : ∀ k, k < 6 → gI X 15 0 k = T k) {nf : Nat} (hnf : 1000 ≤ nf) {amt c4 : Int} (hamt : amt ≤ 3000) (a : Nat) (hab : 60 * (a : Int) ≤ amt) (h4 : c4 ≤ a + 1) (h40 : 0 ≤ c4) {S : Int × (Nat → Int)} {Y : zS} (hS : XS X S Y) (n : Nat) :
    ∃ Y', fX1_find_L22 0 0 amt c4 nf (n + 1) Y S.1 a = fX1_find_L22 0 0 amt c4 nf n Y' (twob T amt a (b0N T amt a) S).1 ((a : Int) - 1) ∧ XS X (twob T amt a (b0N T amt a) S) Y' := by
  have q := b0N_eq h0 hab
  have hT : gI Y 15 0 4 = T 4 := (hS.1.2.2 15 0 4 (by unfold pX; omega)).trans (hL 4 (by omega))
  have gen : ∀ z : Int, 0 ≤ z → z ≤ 3000 → wr (z * 60) = 60 * z := fun z h1 h2 => by rw [wr_id (by unfold zin; omega)]; omega
  have gen2 : ∀ z : Int, 0 ≤ z → z ≤ 3000 → wr z = z := fun z h1 h2 => wr_id (by unfold zin; omega)
  have e5 : zWt (Int.toNat 5) = 60 := rfl
  have e4 : zWt (Int.toNat 4) = 30 := rfl
  have e4' : Int.toNat 4 = 4 := rfl
  have d := (wrq (j := 4) (r := amt - 60 * a) (by omega) (by omega)).1
  have e4z : zWt 4 = 30 := rfl
  rw [e4z] at d
  obtain ⟨Y', f, hS'⟩ := xTwo h0 hX0 hX1 hL hnf (fun (s_12 : zS) (y_11 : Int) => nm_ (wr ((a : Int) + (-1))) fun (x_13 : Int) => fX1_find_L22 0 0 amt c4 nf n s_12 y_11 x_13) (c4 := c4) hamt (a := (a : Int)) (by omega) (b0N T amt a) q.2 hS (nf - 3)
  refine ⟨Y', ?_, hS'⟩
  conv => lhs; unfold fX1_find_L22
  rw [if_neg (by omega), (wrd c4 h40 (by omega)).2, if_neg (by omega)]
  simp only [nm_eq, up_eq, cl_some, ob_some, oe_some, oe_none, ob_none, e5, e4, e4z, g_t (show (0 : Int) ≤ 5 ∧ (5 : Int) < 6 by omega), g_t (show (0 : Int) ≤ 4 ∧ (4 : Int) < 6 by omega), gen a (by omega) (by omega), gen2 (amt - 60 * a) (by omega) (by omega), g_t (show (30 : Int) ≠ 0 by decide), d, e4', hT, ← q.1] at f ⊢
  rw [(wrd a (by omega) (by omega)).1] at f ⊢
  rw [show nf - 3 + 3 = nf by omega] at f
  exact f
theorem find_eq (h0 : ∀ j, 0 ≤ T j) (hX0 : gR X 2 0 0 = some 1) (hX1 : gR X 2 0 1 = some 2) (hL : ∀ k, k < 6 → gI X 15 0 k = T k) {nf : Nat} (hnf : 1000 ≤ nf) {amt : Int} (ham0 : 0 ≤ amt) (hamt : amt ≤ 3000) (v : Nat → Int) {a : Nat} (ea : (a : Int) = imin (T 5) (amt / 60)) : ∃ Y', fX1_find nf X 0 (some 0) amt = some ((twoa T amt a (-9, v)).1, Y') ∧ XS X (twoa T amt a (-9, v)) Y' := by
  have hS : XS X (-9, v) X := ⟨.rf, fun q => absurd rfl q⟩
  have e5 : zWt (Int.toNat 5) = 60 := rfl
  have e5' : Int.toNat 5 = 5 := rfl
  have d := (wrq (j := 5) (r := amt) (by omega) (by omega)).1
  have e5z : zWt 5 = 60 := rfl
  rw [e5z] at d
  have hab : 60 * (a : Int) ≤ amt := by
    unfold imin at ea
    split at ea <;> omega
  have st : fX1_find nf X 0 (some 0) amt = fX1_find_L22 0 0 amt a nf nf X (-9) a := by
    unfold fX1_find
    simp only [nm_eq, up_eq, cl_some, ob_some, oe_some, oe_none, ob_none, e5, e5', e5z, g_t (show (0 : Int) ≤ 5 ∧ (5 : Int) < 6 by omega), g_t (show (60 : Int) ≠ 0 by decide), d, hL 5 (by omega), ← ea]
  rw [st]
  obtain ⟨m, rfl⟩ : ∃ m, nf = m + 3 := ⟨nf - 3, by omega⟩
  cases a with
  | zero =>
    obtain ⟨Y1, f1, hS1⟩ := xRow h0 hX0 hX1 hL hnf (c4 := ((0 : Nat) : Int)) hamt 0 hab (by omega) (by omega) hS (m + 2)
    refine ⟨Y1, f1.trans ?_, hS1⟩
    unfold fX1_find_L22
    rw [if_pos (by omega)]
    rfl
  | succ a =>
    obtain ⟨Y1, f1, hS1⟩ := xRow h0 hX0 hX1 hL hnf (c4 := ((a + 1 : Nat) : Int)) hamt (a + 1) hab (by omega) (by omega) hS (m + 2)
    obtain ⟨Y2, f2, hS2⟩ := xRow h0 hX0 hX1 hL hnf (c4 := ((a + 1 : Nat) : Int)) hamt a (by omega) (by omega) (by omega) hS1 (m + 1)
    rw [show ((a + 1 : Nat) : Int) - 1 = a by omega] at f1
    refine ⟨Y2, f1.trans (f2.trans ?_), hS2⟩
    unfold fX1_find_L22
    by_cases z : (a : Int) - 1 < 0
    · rw [if_pos z]; rfl
    · rw [if_neg z, (wrd _ (by omega) (by omega)).2, if_pos (by omega)]; rfl
theorem mAll (h0 : ∀ j, 0 ≤ T j) (hM : RM M) (hL : ∀ k, k < 6 → gI M 92 0 k = T k) {nf : Nat} (hnf : 1000 ≤ nf) (κ : zS → Option (Unit × zS)) {amt a : Int} (hamt : amt ≤ 3000) (ha : 0 ≤ a) : ∀ (b n : Nat) (S : Int × (Nat → Int)) (N : zS), 60 * a + 30 * (b : Int) ≤ amt → b + 2 ≤ n → MS M S N → ∃ N', fX11_layChange_L81 κ 0 amt a (amt - 60 * a) nf n N b = κ N' ∧ MS M (allb T amt a b S) N'
  | 0, n, S, N, hab, hn, hS => by
    obtain ⟨n, rfl⟩ : ∃ j, n = j + 2 := ⟨n - 2, by omega⟩
    obtain ⟨N', f, hS'⟩ := mStep h0 hM hL hnf κ (b := 0) hamt ha (by omega) hab hS (n + 1)
    refine ⟨N', Eq.trans f ?_, hS'⟩
    unfold fX11_layChange_L81
    rw [if_pos (by omega)]
  | b + 1, n, S, N, hab, hn, hS => by
    obtain ⟨n, rfl⟩ : ∃ j, n = j + 1 := ⟨n - 1, by omega⟩
    obtain ⟨N', f, hS'⟩ := mStep h0 hM hL hnf κ (b := ((b + 1 : Nat) : Int)) hamt ha (by omega) hab hS n
    obtain ⟨N2, f2, hS2⟩ := mAll h0 hM hL hnf κ hamt ha b n _ N' (by omega) (by omega) hS'
    rw [show ((b + 1 : Nat) : Int) - 1 = b by omega] at f
    exact ⟨N2, f.trans f2, hS2⟩
theorem mRow (h0 : ∀ j, 0 ≤ T j) (hM : RM M) (hL : ∀ k, k < 6 → gI M 92 0 k = T k) {nf : Nat} (hnf : 1000 ≤ nf) {amt : Int} (hamt : amt ≤ 3000) : ∀ (a n : Nat) (S : Int × (Nat → Int)) (N : zS), 60 * (a : Int) ≤ amt → a + 2 ≤ n → MS M S N → ∃ N', fX11_layChange_L35 0 amt nf n N a = some ((), N') ∧ MS M (alla T amt a S) N' := by
  have step : ∀ (a n : Nat) (S : Int × (Nat → Int)) (N : zS), 60 * (a : Int) ≤ amt → MS M S N → ∃ N', fX11_layChange_L35 0 amt nf (n + 1) N a = fX11_layChange_L35 0 amt nf n N' ((a : Int) - 1) ∧ MS M (allb T amt a (b0N T amt a) S) N' := by
    intro a n S N hab hS
    have q := b0N_eq h0 hab
    have hT : gI N 92 0 4 = T 4 := (hS.1.2.2 92 0 4 (by unfold pM; omega)).trans (hL 4 (by omega))
    have r26 : gR N 64 0 26 = some 0 := (hS.1.2.1 64 0 26).trans (hM.2 26 rfl)
    have gen : ∀ z : Int, 0 ≤ z → z ≤ 3000 → wr (60 * z) = 60 * z := fun z h1 h2 => wr_id (by unfold zin; omega)
    have gen2 : ∀ z : Int, 0 ≤ z → z ≤ 3000 → wr z = z := fun z h1 h2 => wr_id (by unfold zin; omega)
    have e4' : Int.toNat 4 = 4 := rfl
    have d := (wrq (j := 4) (r := amt - 60 * a) (by omega) (by omega)).1
    have e4z : zWt 4 = 30 := rfl
    rw [e4z] at d
    obtain ⟨N', f, hS'⟩ := mAll h0 hM hL hnf (fun (s_15 : zS) => nm_ (wr ((a : Int) + (-1))) fun (x_16 : Int) => fX11_layChange_L35 0 amt nf n s_15 x_16) hamt (a := (a : Int)) (by omega) (b0N T amt a) nf S N q.2 (by omega) hS
    refine ⟨N', ?_, hS'⟩
    conv => lhs; unfold fX11_layChange_L35
    rw [if_neg (by omega)]
    simp only [nm_eq, up_eq, cl_some, ob_some, oe_some, oe_none, ob_none, g_t (show (0 : Int) ≤ 4 ∧ (4 : Int) < 6 by omega), gen a (by omega) (by omega), gen2 (amt - 60 * a) (by omega) (by omega), d, e4', hT, r26] at f ⊢
    rw [(wrd a (by omega) (by omega)).1] at f ⊢
    rw [← f, q.1]
    unfold imin
    by_cases c : (amt - 60 * (a : Int)) / 30 < T 4
    · rw [if_pos c, if_pos c]
    · rw [if_neg c, if_neg c]
  intro a
  induction a with
  | zero =>
    intro n S N hab hn hS
    obtain ⟨n, rfl⟩ : ∃ j, n = j + 2 := ⟨n - 2, by omega⟩
    obtain ⟨N', f, hS'⟩ := step 0 (n + 1) S N hab hS
    refine ⟨N', f.trans ?_, hS'⟩
    unfold fX11_layChange_L35
    rw [if_pos (by omega)]
  | succ a ih =>
    intro n S N hab hn hS
    obtain ⟨n, rfl⟩ : ∃ j, n = j + 1 := ⟨n - 1, by omega⟩
    obtain ⟨N', f, hS'⟩ := step (a + 1) n S N hab hS
    obtain ⟨N2, f2, hS2⟩ := ih n _ N' (by omega) (by omega) hS'
    rw [show ((a + 1 : Nat) : Int) - 1 = a by omega] at f
    exact ⟨N2, f.trans f2, hS2⟩
theorem lay_eq (h0 : ∀ j, 0 ≤ T j) (hM : RM M) (hL : ∀ k, k < 6 → gI M 92 0 k = T k) {nf : Nat} (hnf : 1000 ≤ nf) {amt : Int} (ham0 : 0 ≤ amt) (hamt : amt ≤ 3000) (v : Nat → Int) {a : Nat} (ea : (a : Int) = imin (T 5) (amt / 60)) : ∃ N', fX11_layChange nf M 0 amt = some ((), N') ∧ MS M (alla T amt a (-9, v)) N' := by
  have hab : 60 * (a : Int) ≤ amt := by
    unfold imin at ea
    split at ea <;> omega
  have d := (wrq (j := 5) (r := amt) (by omega) (by omega)).1
  have e5z : zWt 5 = 60 := rfl
  rw [e5z] at d
  have e5' : Int.toNat 5 = 5 := rfl
  have oN : onl pM (sI M 64 0 46 (-9)) M := onl.rf.sI ⟨Or.inr (Or.inr ⟨rfl, rfl⟩), rfl⟩
  obtain ⟨N', f, hS⟩ := mRow h0 hM hL hnf hamt a nf (-9, v) (sI M 64 0 46 (-9)) hab (by omega) ⟨oN, rfl, fun q => absurd rfl q⟩
  refine ⟨N', ?_, hS⟩
  rw [← f, ea]
  unfold fX11_layChange
  simp only [nm_eq, up_eq, cl_some, ob_some, oe_some, oe_none, ob_none, gR_sI, hM.2 26 rfl, g_t (show (0 : Int) ≤ 5 ∧ (5 : Int) < 6 by omega), d, e5', gI_sI, ↓reduceIte, and_true, true_and, and_false, false_and, and_self, or_true, true_or, or_false, false_or, or_self, Nat.reduceEqDiff, Int.reduceNeg, ne_eq, not_true_eq_false, not_false_eq_true, Int.toNat_natCast, reduceCtorEq, i10, i01, implies_true, true_implies, false_implies, g_t (c := True) trivial, hL 5 (by omega)]
  unfold imin
  by_cases c : amt / 60 < T 5
  · rw [if_pos c, if_pos c]
  · rw [if_neg c, if_neg c]
theorem onlX_eq {Y : zS} (h : onl pX Y X) {S : Nat → Nat → Bool} (hs : ∀ k, S 15 k = false) : eqS S Y X := fun t k hk => ⟨fun i => h.2.2 t i k (by rintro ⟨rfl, -⟩; rw [hs] at hk; cases hk), fun i => h.2.1 t i k⟩
theorem onlM_eq {N : zS} (h : onl pM N M) {S : Nat → Nat → Bool} (h1 : ∀ k, S 110 k = false ∧ S 111 k = false) (h2 : S 64 46 = false) : eqS S N M := fun t k hk => ⟨fun i => h.2.2 t i k (by
  rintro ⟨rfl | rfl | ⟨rfl, rfl⟩, -⟩
  · rw [(h1 k).1] at hk; cases hk
  · rw [(h1 k).2] at hk; cases hk
  · rw [h2] at hk; cases hk), fun i => h.2.1 t i k⟩
theorem RR.chg {P C K : Nat} {D : Int} (hr : RR P C K D X M) {Y N : zS} (hY : onl pX Y X) (hN' : onl pM N M) : RR P C K D Y N := by
  obtain ⟨⟨hX, hM, hN⟩, hS, hF, hB, hP, hL, hC, hK, hD, hZ⟩ := hr
  have e15 : ∀ i k, i = 0 ∨ 3 ≤ i → gI Y 15 i k = gI X 15 i k := fun i k hi => hY.2.2 15 i k (by rintro ⟨-, q⟩; omega)
  have h13 : gI N 64 0 13 = gI M 64 0 13 := hN'.2.2 64 0 13 (by unfold pM; omega)
  exact ⟨⟨hX.cg (hY.1 0) (onlX_eq hY fun _ => rfl), hM.cg (hN'.1 64) (onlM_eq hN' (fun _ => ⟨rfl, rfl⟩) rfl), hN.cg hY.1 (onlX_eq hY fun _ => rfl) (onlM_eq hN' (fun _ => ⟨rfl, rfl⟩) rfl)⟩,
    hS.cg (onlX_eq hY fun _ => rfl) (fun k _ => e15 0 k (Or.inl rfl)) (onlM_eq hN' (fun _ => ⟨rfl, rfl⟩) rfl), hF.cg (onlX_eq hY fun _ => rfl) (onlM_eq hN' (fun _ => ⟨rfl, rfl⟩) rfl), hB.cg (onlX_eq hY fun _ => rfl) (onlM_eq hN' (fun _ => ⟨rfl, rfl⟩) rfl),
    fun p hp => (hP p hp).cg (onlX_eq hY fun _ => rfl) (onlM_eq hN' (fun _ => ⟨rfl, rfl⟩) rfl), fun p hp => (hL p hp).cg (onlX_eq hY fun _ => rfl) (onlM_eq hN' (fun _ => ⟨rfl, rfl⟩) rfl), fun c hc => (hC c hc).cg (onlX_eq hY fun _ => rfl) (fun k _ => e15 (c + 3) k (Or.inr (by omega))) (onlM_eq hN' (fun _ => ⟨rfl, rfl⟩) rfl) (by rw [h13]; exact Int.le_refl _),
    fun k hk => (hK k hk).cg (onlX_eq hY fun _ => rfl) (onlM_eq hN' (fun _ => ⟨rfl, rfl⟩) rfl), hD.cg (onlM_eq hN' (fun _ => ⟨rfl, rfl⟩) rfl), hZ.cg (onlM_eq hN' (fun _ => ⟨rfl, rfl⟩) rfl)⟩
/-- change found by both -/
theorem change_eq {P C K : Nat} {D : Int} (hr : RR P C K D X M) {nf : Nat} (hnf : 1000 ≤ nf) {amt : Int} (ham0 : 0 ≤ amt) (hamt : amt ≤ 3000) : ∃ S Y N, fX1_find nf X 0 (some 0) amt = some (S, Y) ∧ fX11_layChange nf M 0 amt = some ((), N) ∧ onl pX Y X ∧ onl pM N M ∧ gI N 64 0 46 = S ∧ (S ≠ -9 → ∀ k, k < 6 → gI Y 15 1 k = gI N 110 0 k) := by
  obtain ⟨⟨hX, hM, hN⟩, hS, -⟩ := id hr
  have h0 : ∀ j, 0 ≤ (fun j => if j < 6 then gI M 92 0 j else 0) j := by
    intro j
    show 0 ≤ if j < 6 then gI M 92 0 j else 0
    by_cases c : j < 6
    · rw [if_pos c]; exact (hS.2.2.2.2 j c).2
    · rw [if_neg c]; exact Int.le_refl 0
  generalize hT : (fun j => if j < 6 then gI M 92 0 j else 0) = T at h0
  have hLM : ∀ k, k < 6 → gI M 92 0 k = T k := fun k hk => by rw [← hT]; exact (if_pos hk).symm
  have hLX : ∀ k, k < 6 → gI X 15 0 k = T k := fun k hk => ((hS.2.2.2.2 k hk).1).trans (hLM k hk)
  have hX0 : gR X 2 0 0 = some 1 := hX.2.2.2.1.1
  have hX1 : gR X 2 0 1 = some 2 := hX.2.2.2.1.2
  obtain ⟨a, ea⟩ : ∃ a : Nat, (a : Int) = imin (T 5) (amt / 60) := by
    refine ⟨(imin (T 5) (amt / 60)).toNat, ?_⟩
    have := h0 5
    unfold imin
    split <;> omega
  have hab : 60 * (a : Int) ≤ amt := by
    unfold imin at ea
    split at ea <;> omega
  obtain ⟨Y, f1, g1, g2⟩ := find_eq h0 hX0 hX1 hLX hnf ham0 hamt (fun _ => 0) ea
  obtain ⟨N, f2, k1, k2, k3⟩ := lay_eq h0 hM hLM hnf ham0 hamt (fun _ => 0) ea
  rw [alla_two h0 _ a hab] at k2 k3
  exact ⟨_, Y, N, f1, f2, g1, k1, k2, fun q k hk => (g2 q k hk).trans (k3 q k hk).symm⟩
theorem P_could (h : zR X M) {nf : Nat} (hnf : 1000 ≤ nf) (x1 : Int) (h1 : zin x1) : ∃ r X' M', fX10_could nf X 0 x1 = some (r, X') ∧ fX11_could nf M 0 x1 = some (r, M') ∧ zR X' M' := by
  obtain ⟨P, C, K, hr⟩ := id h
  obtain ⟨⟨hX, hM, hN⟩, -⟩ := id hr
  unfold fX10_could fX11_could
  simp only [within_eq, in_eq, nm_eq, up_eq, cl_some, ob_some, oe_some, oe_none, ob_none, i10, hX.2.1 0 (by decide), hX.2.1 1 (by decide), hX.2.1 2 (by decide), hX.2.1 3 (by decide), hX.2.1 4 (by decide), hX.2.1 5 (by decide), hX.2.1 6 (by decide), hX.2.1 7 (by decide), hX.2.1 8 (by decide), hX.2.1 9 (by decide), hX.2.2.1.1, hX.2.2.1.2, hX.2.2.2.1.1, hX.2.2.2.1.2, hX.2.2.2.2.1, hX.2.2.2.2.2.1.1, hX.2.2.2.2.2.1.2.1, hX.2.2.2.2.2.1.2.2, hX.2.2.2.2.2.2.1.1, hX.2.2.2.2.2.2.1.2.1, hX.2.2.2.2.2.2.1.2.2.1, hX.2.2.2.2.2.2.1.2.2.2.1, hX.2.2.2.2.2.2.1.2.2.2.2.1, hX.2.2.2.2.2.2.1.2.2.2.2.2.1, hX.2.2.2.2.2.2.1.2.2.2.2.2.2]
  by_cases hx : ¬ (0 ≤ x1 ∧ x1 ≤ 3000)
  · rw [if_pos hx, if_pos hx]; exact ⟨_, _, _, rfl, rfl, h⟩
  rw [if_neg hx, if_neg hx]
  have hx := Decidable.not_not.mp hx
  obtain ⟨S, Y, N, e1, e2, o1, o2, e3, e4⟩ := change_eq hr hnf hx.1 hx.2
  have h13 : gI N 64 0 13 = gI M 64 0 13 := o2.2.2 64 0 13 (by unfold pM; omega)
  rw [e1, e2]
  refine ⟨S, Y, N, by rw [cl_some], by rw [cl_some, e3], P, C, K, ?_⟩
  rw [h13]
  exact hr.chg o1 o2
theorem P_gives (h : zR X M) {nf : Nat} (hnf : 1000 ≤ nf) (x1 x2 : Int) (h1 : zin x1) (h2 : zin x2) : ∃ r X' M', fX10_gives nf X 0 x1 x2 = some (r, X') ∧ fX11_gives nf M 0 x1 x2 = some (r, M') ∧ zR X' M' := by
  obtain ⟨P, C, K, hr⟩ := id h
  obtain ⟨⟨hX, hM, hN⟩, -⟩ := id hr
  unfold fX10_gives fX11_gives
  simp only [within_eq, in_eq, nm_eq, up_eq, cl_some, ob_some, oe_some, oe_none, ob_none, i10, hX.2.1 0 (by decide), hX.2.1 1 (by decide), hX.2.1 2 (by decide), hX.2.1 3 (by decide), hX.2.1 4 (by decide), hX.2.1 5 (by decide), hX.2.1 6 (by decide), hX.2.1 7 (by decide), hX.2.1 8 (by decide), hX.2.1 9 (by decide), hX.2.2.1.1, hX.2.2.1.2, hX.2.2.2.1.1, hX.2.2.2.1.2, hX.2.2.2.2.1, hX.2.2.2.2.2.1.1, hX.2.2.2.2.2.1.2.1, hX.2.2.2.2.2.1.2.2, hX.2.2.2.2.2.2.1.1, hX.2.2.2.2.2.2.1.2.1, hX.2.2.2.2.2.2.1.2.2.1, hX.2.2.2.2.2.2.1.2.2.2.1, hX.2.2.2.2.2.2.1.2.2.2.2.1, hX.2.2.2.2.2.2.1.2.2.2.2.2.1, hX.2.2.2.2.2.2.1.2.2.2.2.2.2]
  by_cases hx : ¬ (0 ≤ x1 ∧ x1 ≤ 3000)
  · rw [if_pos hx, if_pos hx]; exact ⟨_, _, _, rfl, rfl, h⟩
  rw [if_neg hx, if_neg hx]
  by_cases hy : ¬ (0 ≤ x2 ∧ x2 ≤ 5)
  · rw [if_pos hy, if_pos hy]; exact ⟨_, _, _, rfl, rfl, h⟩
  rw [if_neg hy, if_neg hy]
  have hx := Decidable.not_not.mp hx
  have hy := Decidable.not_not.mp hy
  obtain ⟨S, Y, N, e1, e2, o1, o2, e3, e4⟩ := change_eq hr hnf hx.1 hx.2
  have h13 : gI N 64 0 13 = gI M 64 0 13 := o2.2.2 64 0 13 (by unfold pM; omega)
  have r5 : gR Y 0 0 5 = some 0 := (o1.2.1 0 0 5).trans (hX.2.1 5 (by decide))
  have r2 : gR Y 2 0 0 = some 1 := (o1.2.1 2 0 0).trans hX.2.2.2.1.1
  have r44 : gR N 64 0 44 = some 0 := (o2.2.1 64 0 44).trans (hM.2 44 rfl)
  have z : zR Y N := ⟨P, C, K, by rw [h13]; exact hr.chg o1 o2⟩
  have g : (0 : Int) ≤ x2 ∧ x2 < 6 := by omega
  rw [e1, e2]
  simp only [nm_eq, up_eq, cl_some, ob_some, oe_some, oe_none, ob_none, e3, r5, r2, r44, g_t g]
  by_cases s : S = -9
  · rw [if_pos s, if_pos s]; exact ⟨_, _, _, rfl, rfl, z⟩
  · rw [if_neg s, if_neg s, e4 s _ (by omega)]; exact ⟨_, _, _, rfl, rfl, z⟩
end CD
