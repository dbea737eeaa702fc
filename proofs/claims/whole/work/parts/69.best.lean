/-! ===== the model's best ===== -/
theorem ext_all : ∀ s, s < 7 → (ext s s []).all (fun l => l.length == s && l.all (fun x => Nat.blt x s) && l.isPerm (List.range s)) = true := by
  intro s h
  have : s = 0 ∨ s = 1 ∨ s = 2 ∨ s = 3 ∨ s = 4 ∨ s = 5 ∨ s = 6 := by omega
  rcases this with rfl | rfl | rfl | rfl | rfl | rfl | rfl <;> decide +kernel
theorem ext_len : ∀ s, s < 7 → (ext s s []).length ≤ 720 := by
  intro s h
  have : s = 0 ∨ s = 1 ∨ s = 2 ∨ s = 3 ∨ s = 4 ∨ s = 5 ∨ s = 6 := by omega
  rcases this with rfl | rfl | rfl | rfl | rfl | rfl | rfl <;> decide +kernel
def sE (w : Nat → Int) (l : List Nat) : Nat → Int
  | 0 => 0
  | i + 1 => sE w l i + w (fnl l i)
def sD (d : Nat → Int) : Nat → Int
  | 0 => 0
  | i + 1 => sD d i + d i
theorem sE_f (w : Nat → Int) (l : List Nat) : ∀ i, i ≤ l.length → sE w l i = (l.take i).foldl (fun z x => z + w x) 0
  | 0, _ => by simp [sE]
  | i + 1, h => by
    have e : l.take (i + 1) = l.take i ++ [fnl l i] := by
      rw [List.take_succ]
      congr 1
      unfold fnl
      rw [List.getD_eq_getElem?_getD, List.getElem?_eq_getElem (by omega)]
      rfl
    rw [e, List.foldl_append, ← sE_f w l i (by omega)]
    rfl
theorem sE_perm (w : Nat → Int) {l : List Nat} {s : Nat} (hl : l.length = s) (h : l.isPerm (List.range s) = true) : sE w l s = (List.range s).foldl (fun z x => z + w x) 0 := by
  rw [sE_f w l s (by omega), ← hl, List.take_length, hl]
  exact (List.isPerm_iff.mp h).foldl_eq' (fun x _ y _ z => by omega) 0
theorem sm_e {w d : Nat → Int} {l : List Nat} {s : Nat} (hs : s ≤ 6) (hw : ∀ x, x < s → 0 ≤ w x ∧ w x ≤ 20000) (hd : ∀ i, i < s → 0 ≤ d i ∧ d i ≤ 1000) (hl : ∀ j, j < s → fnl l j < s) : ∀ i, i ≤ s → sm (fun q => w (fnl l q)) d i = sE w l i + sD d i ∧ 0 ≤ sE w l i + sD d i ∧ sE w l i + sD d i ≤ 21000 * i
  | 0, _ => by simp [sm, sE, sD]
  | i + 1, h => by
    obtain ⟨a, b, c⟩ := sm_e hs hw hd hl i (by omega)
    have p := hw _ (hl i (by omega))
    have q := hd i (by omega)
    have e1 : sm (fun q => w (fnl l q)) d (i + 1) = wr (sm (fun q => w (fnl l q)) d i + (w (fnl l i) + d i)) := rfl
    have e2 : sE w l (i + 1) = sE w l i + w (fnl l i) := rfl
    have e3 : sD d (i + 1) = sD d i + d i := rfl
    rw [e1, e2, e3, a, wr_id (by unfold zin; omega)]
    omega
theorem mg_l (w d : Nat → Int) (l : List Nat) : ∀ i, mg (fun q => w (fnl l q)) d i = mgl w d l i
  | 0 => rfl
  | i + 1 => by unfold mg mgl; rw [mg_l w d l i]
theorem mgl_b {w d : Nat → Int} {l : List Nat} {s : Nat} (hs : s ≤ 6) (hw : ∀ x, x < s → 0 ≤ w x ∧ w x ≤ 20000) (hd : ∀ i, i < s → 0 ≤ d i ∧ d i ≤ 1000) (hl : ∀ j, j < s → fnl l j < s) : ∀ i, i ≤ s → 0 ≤ mgl w d l i ∧ mgl w d l i ≤ 21000
  | 0, _ => by simp [mgl]
  | i + 1, h => by
    have b := mgl_b hs hw hd hl i (by omega)
    have p := hw _ (hl i (by omega))
    have q := hd i (by omega)
    have e1 : mgl w d l (i + 1) = imax (mgl w d l i) (wr (w (fnl l i) + d i)) := rfl
    rw [e1, wr_id (by unfold zin; omega)]
    unfold imax
    split <;> omega
section MB
variable {P C K : Nat} {D : Int} {X M : zS}
/-- only the model's plan slots are written -/
def oB (N' N : zS) : Prop := (∀ t, gN N' t = gN N t) ∧ (∀ t i k, gR N' t i k = gR N t i k) ∧ ∀ t i k, ¬ (t = 117 ∨ t = 119 ∨ t = 122 ∨ (t = 64 ∧ (k = 52 ∨ k = 54 ∨ k = 55 ∨ k = 57))) → gI N' t i k = gI N t i k
theorem oB.rf {Y : zS} : oB Y Y := ⟨fun _ => rfl, fun _ _ _ => rfl, fun _ _ _ _ => rfl⟩
theorem oB.sI {Y Z : zS} {t i k : Nat} {v : Int} (q : t = 117 ∨ t = 119 ∨ t = 122 ∨ (t = 64 ∧ (k = 52 ∨ k = 54 ∨ k = 55 ∨ k = 57))) (h : oB Y Z) : oB (sI Y t i k v) Z := ⟨h.1, h.2.1, fun t' i' k' q' => by
  rw [gI_sI, if_neg]
  · exact h.2.2 t' i' k' q'
  · rintro ⟨rfl, rfl, rfl⟩; exact q' q⟩
theorem oB.tr {Y Z W : zS} (h : oB Y Z) (g : oB Z W) : oB Y W := ⟨fun t => (h.1 t).trans (g.1 t), fun t i k => (h.2.1 t i k).trans (g.2.1 t i k), fun t i k q => (h.2.2 t i k q).trans (g.2.2 t i k q)⟩
theorem oM.b {Y Z : zS} (h : oM Y Z) : oB Y Z := ⟨h.1, h.2.1, fun t i k q => h.2.2 t i k (by omega)⟩
theorem oN.b {Y Z : zS} (h : oN Y Z) : oB Y Z := ⟨h.1, h.2.1, fun t i k q => h.2.2 t i k (by omega) (by omega)⟩
theorem RR.oB {N : zS} (hr : RR P C K D X M) (h : oB N M) : RR P C K D X N := by
  refine hr.sc (fun _ => rfl) h.1 .rf (fun _ _ _ => rfl) fun t k hk => ⟨fun i => h.2.2 t i k ?_, fun i => h.2.1 t i k⟩
  rintro (rfl | rfl | rfl | ⟨rfl, rfl | rfl | rfl | rfl⟩) <;> exact Bool.noConfusion (show false = true from hk)
theorem copy122 {nf : Nat} (κ : zS → Option (Unit × zS)) (c1 : Int) {s : Nat} (hs : s ≤ 6) (hM : RM M) (h52 : gI M 64 0 52 = s) : ∀ (m n k : Nat) (N : zS), k + m = s → m < n → oB N M → gI N 64 0 52 = s → ∃ N', fX11_layBest_L120 κ 0 c1 nf n N (k : Int) = κ N' ∧ oB N' M ∧ (∀ t i j, t ≠ 122 → gI N' t i j = gI N t i j) ∧ ∀ j, gI N' 122 0 j = if k ≤ j ∧ j < s then gI N 117 0 j else gI N 122 0 j
  | 0, n + 1, k, N, hk, _, hN, h5 => by
    unfold fX11_layBest_L120
    rw [if_neg (by omega)]
    exact ⟨N, rfl, hN, fun _ _ _ _ => rfl, fun j => by rw [if_neg (by omega)]⟩
  | m + 1, n + 1, k, N, hk, hn, hN, h5 => by
    have r1 : gR N 64 0 56 = some 0 := (hN.2.1 64 0 56).trans (hM.2 56 rfl)
    have r2 : gR N 64 0 51 = some 0 := (hN.2.1 64 0 51).trans (hM.2 51 rfl)
    have g : (0 : Int) ≤ (k : Int) ∧ (k : Int) < 24 := by omega
    have g6 : (0 : Int) ≤ (k : Int) ∧ (k : Int) < 6 := by omega
    obtain ⟨N', a1, a2, a3, a4⟩ := copy122 (nf := nf) κ c1 hs hM h52 m n (k + 1) (sI N 122 0 k (gI N 117 0 k)) (by omega) (by omega) (hN.sI (by omega)) h5
    refine ⟨N', ?_, a2, fun t i j ht => ?_, fun j => ?_⟩
    · unfold fX11_layBest_L120
      rw [if_pos (by omega)]
      simp only [nm_eq, up_eq, cl_some, ob_some, oe_some, oe_none, ob_none, r1, r2, g_t g, g_t g6, Int.toNat_natCast, nat_wr k (by omega)]
      exact a1
    · rw [a3 t i j ht, gI_sI, if_neg (fun q => ht q.1)]
    · rw [a4]
      simp only [gI_sI, gI_sR, gI_sN, gI_sCp, gI_sB, gR_sI, gR_sR, gR_sN, gR_sCp, gR_sB, gN_sI, gN_sR, gN_sN, gN_sCp, gN_sB, ↓reduceIte, and_true, true_and, and_false, false_and, and_self, or_true, true_or, or_false, false_or, or_self, Nat.reduceEqDiff, Int.reduceNeg, ne_eq, not_true_eq_false, not_false_eq_true, Int.toNat_natCast, reduceCtorEq, i10, i01, implies_true, true_implies, false_implies, g_t (c := True) trivial]
      by_cases c : j = k
      · subst c
        rw [if_neg (by omega), if_pos rfl, if_pos (by omega)]
      · rw [if_neg c]
        by_cases d : k + 1 ≤ j ∧ j < s
        · rw [if_pos d, if_pos (by omega)]
        · rw [if_neg d, if_neg (by omega)]
end MB
