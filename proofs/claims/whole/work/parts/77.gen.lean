/-! ===== one cup, the posts' counts, the clerks and the drawer change ===== -/
def uX (t k : Nat) : Bool := !(t == 5 || t == 15 || t == 3 || t == 9 || t == 10 || t == 14 || t == 20 || t == 21 || (t == 8 && (k == 10 || k == 12)) || (t == 0 && (k == 15 || k == 16)) || (t == 1 && (k == 2 || k == 3)))
def uM (t k : Nat) : Bool := !((Nat.ble 82 t && Nat.ble t 92) || t == 75 || t == 77 || t == 78 || (Nat.ble 95 t && Nat.ble t 99) || t == 102 || t == 103 || t == 109 || t == 110 || t == 111 || t == 115 || t == 116 || t == 117 || (t == 64 && (k == 27 || k == 28 || k == 46 || k == 47 || k == 48 || k == 52)))
theorem uX_d : (∀ t k, dX t k = true → uX t k = true) ∧ (∀ t k, dNX t k = true → uX t k = true) ∧ (∀ t k, dFX t k = true → uX t k = true) ∧ (∀ t k, dLX t k = true → uX t k = true) := by
  and_intros <;> intro t k h <;> cases u : uX t k <;> first | rfl | (exfalso; simp [dX, dNX, dFX, dLX, Nat.blt_eq, bne_iff_ne] at h; simp [uX] at u; omega)
theorem uM_d : (∀ t k, dM t k = true → uM t k = true) ∧ (∀ t k, dNM t k = true → uM t k = true) ∧ (∀ t k, dFM t k = true → uM t k = true) ∧ (∀ t k, dLM t k = true → uM t k = true) := by
  refine ⟨fun t k h => ?_, fun t k h => ?_, fun t k h => ?_, fun t k h => ?_⟩
  · cases u : uM t k
    · exfalso
      simp [dM] at h
      obtain ⟨rfl, h⟩ := h
      simp [uM] at u
      have u := u rfl rfl
      have q : k = 27 ∨ k = 28 ∨ k = 46 ∨ k = 47 ∨ k = 48 ∨ k = 52 := by omega
      rcases q with rfl | rfl | rfl | rfl | rfl | rfl <;> cases h
    · rfl
  · simp [dNM] at h
    have q : (t = 64 ∧ k = 0) ∨ (t = 64 ∧ k = 14) ∨ (t = 64 ∧ k = 34) := by omega
    rcases q with ⟨rfl, rfl⟩ | ⟨rfl, rfl⟩ | ⟨rfl, rfl⟩ <;> rfl
  · simp [dFM] at h
    have q : (t = 64 ∧ k = 39) ∨ t = 106 ∨ t = 107 ∨ t = 108 := by omega
    rcases q with ⟨rfl, rfl⟩ | rfl | rfl | rfl <;> rfl
  · simp [dLM] at h
    have q : t = 124 ∨ t = 67 ∨ t = 68 := by omega
    rcases q with rfl | rfl | rfl <;> rfl
section GN
variable {P C K : Nat} {D D' : Int} {X M X' M' : zS}
theorem RR.gen (hr : RR P C K D X M) {c : Nat} (n : ∀ t, gN X' t = gN X t) (n2 : ∀ t, gN M' t = gN M t) (e : eqS uX X' X) (f : eqS uM M' M)
    (e5 : ∀ i k, i ≠ c → gI X' 5 i k = gI X 5 i k ∧ gR X' 5 i k = gR X 5 i k) (e15 : ∀ i k, 3 ≤ i → i ≠ c + 3 → gI X' 15 i k = gI X 15 i k)
    (fM : ∀ t, t = 82 ∨ t = 83 ∨ t = 84 ∨ t = 85 ∨ t = 86 ∨ t = 87 ∨ t = 88 ∨ t = 89 ∨ t = 90 ∨ t = 109 → ∀ i, i ≠ c → gI M' t 0 i = gI M t 0 i) (f91 : ∀ j, (j < 6 * c ∨ 6 * c + 6 ≤ j) → gI M' 91 0 j = gI M 91 0 j)
    (f102 : ∀ k : Nat, k < K → ∀ i : Nat, i ≠ c → gI M 102 0 k = i → gI M' 102 0 k = i)
    (hS' : RS X' M') (hB' : RB X' M') (hP' : ∀ p, p < P → RP P X' M' p) (hC' : RC P C K X' M' c) (hK' : ∀ k, k < K → RK C X' M' k) (hD' : BD D' P M') (hZ' : RZ P C M') : RR P C K D' X' M' := by
  obtain ⟨⟨hX, hM, hN⟩, hS, hF, hB, hP, hL, hC, hK, hD, hZ⟩ := hr
  refine ⟨⟨hX.cg (n 0) (e.mono uX_d.1), hM.cg (n2 64) (f.mono uM_d.1), hN.cg n (e.mono uX_d.2.1) (f.mono uM_d.2.1)⟩, hS', hF.cg (e.mono uX_d.2.2.1) (f.mono uM_d.2.2.1), hB', hP',
    fun p' hp' => (hL p' hp').cg (e.mono uX_d.2.2.2) (f.mono uM_d.2.2.2), fun c' hc' => ?_, hK', hD', hZ'⟩
  by_cases q : c' = c
  · subst q; exact hC'
  · refine (hC c' hc').cg1 ((e 12 c' rfl).2 0) (fun j => (e5 c' j q).1) (fun j => (e5 c' j q).2) ((e 4 0 rfl).2 _) (fun j _ => e15 _ j (by omega) (by omega)) (fun t ht => ?_) (fun j hj => f91 _ (by omega)) (fun t j ht => ?_) (fun k hk h2 => f102 k hk c' q h2) (by rw [(f 64 13 rfl).1]; exact Int.le_refl _)
    · rcases ht with rfl | ht | ht | ht | ht | ht | ht | ht | ht | ht | ht
      · exact (f 81 c' rfl).1 0
      all_goals exact fM _ (by simp [ht]) c' q
    · rcases ht with rfl | rfl | rfl <;> exact (f _ j rfl).1 0
theorem RZ.sB {t i : Nat} {g : Nat → Int} (hk : ∀ k, zZ P C t k = true → g k = 0) (h : RZ P C M) : RZ P C (sB M t i g) := by
  intro t' k' h'
  rw [gI_sB]
  by_cases c : t' = t ∧ 0 = i
  · rw [if_pos c]
    exact hk k' (c.1 ▸ h')
  · rw [if_neg c]
    exact h t' k' h'
/-- a clerk that has none of what changes -/
theorem RK.cg3 {k c : Nat} (h : RK C X M k) (hc : gI M 102 0 k ≠ c) (r13 : gR X' 13 0 k = gR X 13 0 k) (e3 : ∀ j, gI X' 3 k j = gI X 3 k j) (r3 : ∀ j, gR X' 3 k j = gR X 3 k j) (r5 : ∀ i, i ≠ c → gR X' 5 i 8 = gR X 5 i 8) (f1 : gI M' 101 0 k = gI M 101 0 k) (f2 : gI M' 102 0 k = gI M 102 0 k) (f3 : gI M' 103 0 k = gI M 103 0 k) (f82 : ∀ i, i ≠ c → gI M' 82 0 i = gI M 82 0 i) : RK C X' M' k :=
  h.cg2 hc r13 e3 r3 r5 (fun t ht => by rcases ht with rfl | rfl | rfl <;> assumption) f82
end GN
