/-! ===== change that is given lies there ===== -/
def inT (T : Nat → Int) (S : Int × (Nat → Int)) : Prop := S.1 ≠ -9 → ∀ k, k < 6 → 0 ≤ S.2 k ∧ S.2 k ≤ T k ∧ S.2 k ≤ 3000
section GV
variable {T : Nat → Int} {amt : Int}
theorem kk_t (t : Nat → Int) (j : Nat) (r : Int) : kk t j r ≤ t j := by
  unfold kk imin
  split <;> omega
theorem gvv_b (h0 : ∀ j, 0 ≤ T j) : ∀ (m : Nat) (r : Int), 0 ≤ r → ∀ k, k < m → 0 ≤ gvv T m r k ∧ gvv T m r k ≤ T k ∧ gvv T m r k ≤ r
  | 0, _, _, _, h => by omega
  | m + 1, r, hr, k, hk => by
    have b := kk_b (h0 m) hr
    have b2 := kk_t T m r
    have e : gvv T (m + 1) r k = if k = m then kk T m r else gvv T m (r - kk T m r * zWt m) k := rfl
    rw [e]
    by_cases c : k = m
    · subst c
      rw [if_pos rfl]; omega
    · rw [if_neg c]
      have w : 0 ≤ kk T m r * zWt m := by
        have : 0 ≤ zWt m := by unfold zWt; split <;> omega
        exact Int.mul_nonneg b.1 this
      have ih := gvv_b h0 m (r - kk T m r * zWt m) (by omega) k (by omega)
      omega
theorem step_in (h0 : ∀ j, 0 ≤ T j) (hamt : amt ≤ 3000) {a b : Int} (ha : 0 ≤ a) (ha2 : a ≤ T 5) (hb : 0 ≤ b) (hb2 : b ≤ T 4) (hl : 60 * a + 30 * b ≤ amt) {S : Int × (Nat → Int)} (h : inT T S) : inT T (stepS T amt a b S) := by
  unfold stepS
  by_cases c : updC S.1 (cand T amt a b)
  · rw [if_pos c]
    intro _ k hk
    show 0 ≤ vecT T amt a b k ∧ vecT T amt a b k ≤ T k ∧ vecT T amt a b k ≤ 3000
    unfold vecT
    by_cases e5 : k = 5
    · subst e5; rw [if_pos rfl]; omega
    · rw [if_neg e5]
      by_cases e4 : k = 4
      · subst e4; rw [if_pos rfl]; omega
      · rw [if_neg e4]
        have := gvv_b h0 4 (amt - 60 * a - 30 * b) (by omega) k (by omega)
        omega
  · rw [if_neg c]; exact h
theorem allb_in (h0 : ∀ j, 0 ≤ T j) (hamt : amt ≤ 3000) {a : Int} (ha : 0 ≤ a) (ha2 : a ≤ T 5) : ∀ (b : Nat) (S : Int × (Nat → Int)), (b : Int) ≤ T 4 → 60 * a + 30 * (b : Int) ≤ amt → inT T S → inT T (allb T amt a b S)
  | 0, S, hb, hl, h => step_in h0 hamt ha ha2 (by omega) (h0 4) (by omega) h
  | b + 1, S, hb, hl, h => allb_in h0 hamt ha ha2 b _ (by omega) (by omega) (step_in h0 hamt ha ha2 (by omega) hb hl h)
theorem b0N_t (h0 : ∀ j, 0 ≤ T j) (a : Nat) : ((b0N T amt a : Nat) : Int) ≤ T 4 := by
  have := h0 4
  unfold b0N imin
  split <;> omega
theorem alla_in (h0 : ∀ j, 0 ≤ T j) (hamt : amt ≤ 3000) : ∀ (a : Nat) (S : Int × (Nat → Int)), (a : Int) ≤ T 5 → 60 * (a : Int) ≤ amt → inT T S → inT T (alla T amt a S)
  | 0, S, ha, hl, h => allb_in h0 hamt (by omega) ha _ S (b0N_t h0 0) (b0N_eq h0 hl).2 h
  | a + 1, S, ha, hl, h => alla_in h0 hamt a _ (by omega) (by omega) (allb_in h0 hamt (by omega) ha _ S (b0N_t h0 (a + 1)) (b0N_eq h0 hl).2 h)
end GV
section GW
variable {X M : zS}
/-- change found by both, told by what they read -/
theorem change2 (hX0 : gR X 2 0 0 = some 1) (hX1 : gR X 2 0 1 = some 2) (hM : RM M) {T0 : Nat → Int} (hT : ∀ k, k < 6 → 0 ≤ T0 k) (hLX : ∀ k, k < 6 → gI X 15 0 k = T0 k) (hLM : ∀ k, k < 6 → gI M 92 0 k = T0 k) {nf : Nat} (hnf : 1000 ≤ nf) {amt : Int} (ham0 : 0 ≤ amt) (hamt : amt ≤ 3000) : ∃ S Y N, fX1_find nf X 0 (some 0) amt = some (S, Y) ∧ fX11_layChange nf M 0 amt = some ((), N) ∧ onl pX Y X ∧ onl pM N M ∧ gI N 64 0 46 = S ∧ (S ≠ -9 → ∀ k, k < 6 → gI Y 15 1 k = gI N 110 0 k ∧ 0 ≤ gI N 110 0 k ∧ gI N 110 0 k ≤ T0 k ∧ gI N 110 0 k ≤ 3000) := by
  have h0 : ∀ j, 0 ≤ (fun j => if j < 6 then T0 j else 0) j := by
    intro j
    show 0 ≤ if j < 6 then T0 j else 0
    by_cases c : j < 6
    · rw [if_pos c]; exact hT j c
    · rw [if_neg c]; exact Int.le_refl 0
  have hTe : ∀ k, k < 6 → (fun j => if j < 6 then T0 j else 0) k = T0 k := fun k hk => if_pos hk
  generalize (fun j => if j < 6 then T0 j else 0) = T at h0 hTe
  have hLM' : ∀ k, k < 6 → gI M 92 0 k = T k := fun k hk => (hLM k hk).trans (hTe k hk).symm
  have hLX' : ∀ k, k < 6 → gI X 15 0 k = T k := fun k hk => (hLX k hk).trans (hTe k hk).symm
  obtain ⟨a, ea⟩ : ∃ a : Nat, (a : Int) = imin (T 5) (amt / 60) := by
    refine ⟨(imin (T 5) (amt / 60)).toNat, ?_⟩
    have := h0 5
    unfold imin
    split <;> omega
  have hab : 60 * (a : Int) ≤ amt ∧ (a : Int) ≤ T 5 := by
    unfold imin at ea
    split at ea <;> omega
  obtain ⟨Y, f1, g1, g2⟩ := find_eq h0 hX0 hX1 hLX' hnf ham0 hamt (fun _ => 0) ea
  obtain ⟨N, f2, k1, k2, k3⟩ := lay_eq h0 hM hLM' hnf ham0 hamt (fun _ => 0) ea
  have hin := alla_in h0 hamt a (-9, fun _ => 0) hab.2 hab.1 (fun q => absurd rfl q)
  rw [alla_two h0 _ a hab.1] at k2 k3 hin
  refine ⟨_, Y, N, f1, f2, g1, k1, k2, fun q k hk => ?_⟩
  have b := hin q k hk
  rw [k3 q k hk, ← hTe k hk]
  exact ⟨g2 q k hk, b⟩
theorem onl_pX {Y : zS} (h : onl pX Y X) : Y = sB (sB X 15 1 fun k => gI Y 15 1 k) 15 2 fun k => gI Y 15 2 k := by
  refine zS_ext h.1 (fun t i k => ?_) h.2.1
  rw [gI_sB, gI_sB]
  by_cases c : t = 15 ∧ i = 2
  · rw [if_pos c, c.1, c.2]
  · rw [if_neg c]
    by_cases d : t = 15 ∧ i = 1
    · rw [if_pos d, d.1, d.2]
    · rw [if_neg d]
      exact h.2.2 t i k (by unfold pX; omega)
theorem onl_pM {N : zS} (h : onl pM N M) : N = sI (sB (sB M 110 0 fun k => gI N 110 0 k) 111 0 fun k => gI N 111 0 k) 64 0 46 (gI N 64 0 46) := by
  refine zS_ext h.1 (fun t i k => ?_) h.2.1
  rw [gI_sI, gI_sB, gI_sB]
  by_cases e : t = 64 ∧ i = 0 ∧ k = 46
  · rw [if_pos e, e.1, e.2.1, e.2.2]
  · rw [if_neg e]
    by_cases c : t = 111 ∧ i = 0
    · rw [if_pos c, c.1, c.2]
    · rw [if_neg c]
      by_cases d : t = 110 ∧ i = 0
      · rw [if_pos d, d.1, d.2]
      · rw [if_neg d]
        exact h.2.2 t i k (by unfold pM; omega)
/-! the model's loops over coins -/
theorem setL1 {nf c : Nat} (hc : c < 24) (κ : zS → Option (Unit × zS)) (z : Int) : ∀ (m n k : Nat) (N : zS), k + m = 6 → m < n → gR N 64 0 25 = some 0 → gR N 64 0 26 = some 0 → fX11_settle_L25 κ 0 (c : Int) z nf n N (k : Int) = κ (sB N 92 0 fun j => if k ≤ j ∧ j < 6 then wr (gI N 92 0 j + gI N 91 0 (6 * c + j)) else gI N 92 0 j)
  | 0, n + 1, k, N, hk, _, _, _ => by
    unfold fX11_settle_L25
    rw [if_neg (by omega), sB_self (fun j => if_neg (by omega))]
  | m + 1, n + 1, k, N, hk, hn, h1, h2 => by
    have g : (0 : Int) ≤ ((6 * c + k : Nat) : Int) ∧ ((6 * c + k : Nat) : Int) < 144 := by omega
    have g2 : (0 : Int) ≤ (k : Int) ∧ (k : Int) < 6 := by omega
    have ih := setL1 (nf := nf) hc κ z m n (k + 1) (sI N 92 0 k (wr (gI N 92 0 k + gI N 91 0 (6 * c + k)))) (by omega) (by omega) h1 h2
    rw [sB_sI] at ih
    conv => lhs; unfold fX11_settle_L25
    rw [if_pos (by omega)]
    simp only [nm_eq, up_eq, cl_some, ob_some, oe_some, oe_none, ob_none, h1, h2, wr6 c k (by omega) (by omega), g_t g, g_t g2, Int.toNat_natCast, nat_wr k (by omega)]
    refine ih.trans (congrArg κ (sB_ext fun j => ?_))
    simp only [gI_sI, gI_sR, gI_sN, gI_sCp, gI_sB, gR_sI, gR_sR, gR_sN, gR_sCp, gR_sB, gN_sI, gN_sR, gN_sN, gN_sCp, gN_sB, ↓reduceIte, and_true, true_and, and_false, false_and, and_self, or_true, true_or, or_false, false_or, or_self, Nat.reduceEqDiff, Int.reduceNeg, ne_eq, not_true_eq_false, not_false_eq_true, Int.toNat_natCast, reduceCtorEq, i10, i01, implies_true, true_implies, false_implies, g_t (c := True) trivial]
    by_cases e : j = k
    · rw [if_neg (by omega), if_pos e, if_pos (by omega), e]
    · by_cases d : k + 1 ≤ j ∧ j < 6
      · rw [if_pos d, if_neg e, if_pos (by omega)]
      · rw [if_neg d, if_neg e, if_neg (by omega)]
/-- what the cup holds after it is settled -/
def cV (N : zS) (c : Nat) (j : Nat) : Int := if gI N 64 0 46 = -9 then gI N 91 0 (6 * c + j) else gI N 110 0 j
theorem sB_cm {σ : zS} {t t' i i' k : Nat} {v : Int} {f : Nat → Int} (h : t ≠ t') : sI (sB σ t i f) t' i' k v = sB (sI σ t' i' k v) t i f := by
  refine zS_ext (fun _ => rfl) (fun a b d => ?_) (fun _ _ _ => rfl)
  rw [gI_sI, gI_sB, gI_sB, gI_sI]
  by_cases c : a = t' ∧ b = i' ∧ d = k
  · rw [if_pos c, if_neg (fun q => h (q.1.symm.trans c.1)), if_pos c]
  · rw [if_neg c]
    by_cases e : a = t ∧ b = i
    · rw [if_pos e, if_pos e]
    · rw [if_neg e, if_neg e, if_neg c]
theorem setL2 {nf c : Nat} (hc : c < 24) (κ : zS → Option (Unit × zS)) : ∀ (m n k : Nat) (N : zS), k + m = 6 → m < n → gR N 64 0 25 = some 0 → gR N 64 0 26 = some 0 → gR N 64 0 44 = some 0 → fX11_settle_L64 κ 0 (c : Int) nf n N (k : Int) = κ (sB (sB N 91 0 fun j => if 6 * c + k ≤ j ∧ j < 6 * c + 6 then cV N c (j - 6 * c) else gI N 91 0 j) 92 0 fun j => if k ≤ j ∧ j < 6 then wr (gI N 92 0 j - cV N c j) else gI N 92 0 j)
  | 0, n + 1, k, N, hk, _, _, _, _ => by
    unfold fX11_settle_L64
    rw [if_neg (by omega), sB_self (t := 91) (fun j => if_neg (by omega)), sB_self (fun j => if_neg (by omega))]
  | m + 1, n + 1, k, N, hk, hn, h1, h2, h3 => by
    have g : (0 : Int) ≤ ((6 * c + k : Nat) : Int) ∧ ((6 * c + k : Nat) : Int) < 144 := by omega
    have g2 : (0 : Int) ≤ (k : Int) ∧ (k : Int) < 6 := by omega
    have ih := setL2 (nf := nf) hc κ m n (k + 1) (sI (sI N 91 0 (6 * c + k) (cV N c k)) 92 0 k (wr (gI N 92 0 k - cV N c k))) (by omega) (by omega) h1 h2 h3
    conv => lhs; unfold fX11_settle_L64
    rw [if_pos (by omega)]
    simp only [nm_eq, up_eq, cl_some, ob_some, oe_some, oe_none, ob_none, gI_sI, gI_sR, gI_sN, gI_sCp, gI_sB, gR_sI, gR_sR, gR_sN, gR_sCp, gR_sB, gN_sI, gN_sR, gN_sN, gN_sCp, gN_sB, ↓reduceIte, and_true, true_and, and_false, false_and, and_self, or_true, true_or, or_false, false_or, or_self, Nat.reduceEqDiff, Int.reduceNeg, ne_eq, not_true_eq_false, not_false_eq_true, Int.toNat_natCast, reduceCtorEq, i10, i01, implies_true, true_implies, false_implies, g_t (c := True) trivial, h1, h2, h3, wr6 c k (by omega) (by omega), g_t g, g_t g2, Int.toNat_natCast, nat_wr k (by omega)]
    have go : ∀ v : Int, v = cV N c k → fX11_settle_L64 κ 0 (c : Int) nf n (sI (sI N 91 0 (6 * c + k) v) 92 0 k (wr (gI N 92 0 k - v))) ((k + 1 : Nat) : Int) = κ (sB (sB N 91 0 fun j => if 6 * c + k ≤ j ∧ j < 6 * c + 6 then cV N c (j - 6 * c) else gI N 91 0 j) 92 0 fun j => if k ≤ j ∧ j < 6 then wr (gI N 92 0 j - cV N c j) else gI N 92 0 j) := by
      rintro v rfl
      refine ih.trans (congrArg κ ?_)
      have cv : ∀ j, j ≠ k → j < 6 → cV (sI (sI N 91 0 (6 * c + k) (cV N c k)) 92 0 k (wr (gI N 92 0 k - cV N c k))) c j = cV N c j := by
        intro j hj h6
        have : ¬ 6 * c + j = 6 * c + k := by omega
        unfold cV
        simp only [gI_sI, gI_sR, gI_sN, gI_sCp, gI_sB, gR_sI, gR_sR, gR_sN, gR_sCp, gR_sB, gN_sI, gN_sR, gN_sN, gN_sCp, gN_sB, ↓reduceIte, and_true, true_and, and_false, false_and, and_self, or_true, true_or, or_false, false_or, or_self, Nat.reduceEqDiff, Int.reduceNeg, ne_eq, not_true_eq_false, not_false_eq_true, Int.toNat_natCast, reduceCtorEq, i10, i01, implies_true, true_implies, false_implies, g_t (c := True) trivial, this]
      rw [← sB_cm (t := 91) (by decide), sB_sI, sB_sI]
      refine Eq.trans (sB_ext (g := fun j => if k ≤ j ∧ j < 6 then wr (gI N 92 0 j - cV N c j) else gI N 92 0 j) fun j => ?_) (congrArg (fun s => sB s 92 0 _) (sB_ext fun j => ?_))
      · simp only [gI_sI, gI_sR, gI_sN, gI_sCp, gI_sB, gR_sI, gR_sR, gR_sN, gR_sCp, gR_sB, gN_sI, gN_sR, gN_sN, gN_sCp, gN_sB, ↓reduceIte, and_true, true_and, and_false, false_and, and_self, or_true, true_or, or_false, false_or, or_self, Nat.reduceEqDiff, Int.reduceNeg, ne_eq, not_true_eq_false, not_false_eq_true, Int.toNat_natCast, reduceCtorEq, i10, i01, implies_true, true_implies, false_implies, g_t (c := True) trivial]
        by_cases e : j = k
        · rw [if_neg (by omega), if_pos e, if_pos (by omega), e]
        · by_cases d : k + 1 ≤ j ∧ j < 6
          · rw [if_pos d, if_neg e, if_pos (by omega), cv j e (by omega)]
          · rw [if_neg d, if_neg e, if_neg (by omega)]
      · simp only [gI_sI, gI_sR, gI_sN, gI_sCp, gI_sB, gR_sI, gR_sR, gR_sN, gR_sCp, gR_sB, gN_sI, gN_sR, gN_sN, gN_sCp, gN_sB, ↓reduceIte, and_true, true_and, and_false, false_and, and_self, or_true, true_or, or_false, false_or, or_self, Nat.reduceEqDiff, Int.reduceNeg, ne_eq, not_true_eq_false, not_false_eq_true, Int.toNat_natCast, reduceCtorEq, i10, i01, implies_true, true_implies, false_implies, g_t (c := True) trivial]
        by_cases e : j = 6 * c + k
        · rw [if_neg (by omega), if_pos e, if_pos (by omega), show j - 6 * c = k by omega]
        · by_cases d : 6 * c + (k + 1) ≤ j ∧ j < 6 * c + 6
          · rw [if_pos d, if_pos (by omega), cv _ (by omega) (by omega)]
          · rw [if_neg d, if_neg e, if_neg (by omega)]
    by_cases s : gI N 64 0 46 = -9
    · rw [if_pos s]
      exact go _ (by unfold cV; rw [if_pos s])
    · rw [if_neg s]
      exact go _ (by unfold cV; rw [if_neg s])
end GW
