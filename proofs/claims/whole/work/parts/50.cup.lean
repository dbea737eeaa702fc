/-! ===== one cup changes ===== -/
def tX (t k : Nat) : Bool := t != 5 && t != 15 && !(t == 0 && (k == 15 || k == 16))
def tM (t k : Nat) : Bool := !((Nat.ble 82 t && Nat.ble t 91) || t == 109 || (t == 64 && (k == 27 || k == 28)))
section CU
variable {P C K : Nat} {D : Int} {X M X' M' : zS}
theorem tX_of {S : Nat → Nat → Bool} (h5 : ∀ k, S 5 k = false) (h15 : ∀ k, S 15 k = false) (h0 : S 0 15 = false) (h1 : S 0 16 = false) : ∀ t k, S t k = true → tX t k = true := by
  intro t k hk
  by_cases e5 : t = 5
  · subst e5; rw [h5] at hk; cases hk
  by_cases e15 : t = 15
  · subst e15; rw [h15] at hk; cases hk
  by_cases e0 : t = 0 ∧ (k = 15 ∨ k = 16)
  · obtain ⟨rfl, rfl | rfl⟩ := e0
    · rw [h0] at hk; cases hk
    · rw [h1] at hk; cases hk
  · unfold tX
    simp only [e5, e15, bne_iff_ne, ne_eq, not_false_eq_true, Bool.and_eq_true, Bool.not_eq_true', Bool.and_eq_false_imp, beq_iff_eq, Bool.or_eq_false_iff, beq_eq_false_iff_ne, true_and]
    intro a
    constructor
    · intro b; exact e0 ⟨a, Or.inl b⟩
    · intro b; exact e0 ⟨a, Or.inr b⟩
theorem tM_of {S : Nat → Nat → Bool} (h : ∀ t k, 82 ≤ t ∧ t ≤ 91 ∨ t = 109 → S t k = false) (h0 : S 64 27 = false) (h1 : S 64 28 = false) : ∀ t k, S t k = true → tM t k = true := by
  intro t k hk
  by_cases e5 : 82 ≤ t ∧ t ≤ 91 ∨ t = 109
  · rw [h t k e5] at hk; cases hk
  by_cases e0 : t = 64 ∧ (k = 27 ∨ k = 28)
  · obtain ⟨rfl, rfl | rfl⟩ := e0
    · rw [h0] at hk; cases hk
    · rw [h1] at hk; cases hk
  · unfold tM
    have a1 : (Nat.ble 82 t && Nat.ble t 91) = false := by
      cases e : (Nat.ble 82 t && Nat.ble t 91)
      · rfl
      · rw [Bool.and_eq_true, Nat.ble_eq, Nat.ble_eq] at e; exact absurd (Or.inl e) e5
    have a2 : (t == 109) = false := by
      rw [beq_eq_false_iff_ne]; intro e; exact e5 (Or.inr e)
    have a3 : (t == 64 && (k == 27 || k == 28)) = false := by
      cases e : (t == 64 && (k == 27 || k == 28))
      · rfl
      · rw [Bool.and_eq_true, Bool.or_eq_true, beq_iff_eq, beq_iff_eq, beq_iff_eq] at e; exact absurd e e0
    rw [a1, a2, a3]; rfl
theorem nt {S : Nat → Nat → Bool} (h : ∀ k, S 82 k = false ∧ S 83 k = false ∧ S 84 k = false ∧ S 85 k = false ∧ S 86 k = false ∧ S 87 k = false ∧ S 88 k = false ∧ S 89 k = false ∧ S 90 k = false ∧ S 91 k = false ∧ S 109 k = false) : ∀ t k, 82 ≤ t ∧ t ≤ 91 ∨ t = 109 → S t k = false := by
  intro t k ht
  have q := h k
  have : t = 82 ∨ t = 83 ∨ t = 84 ∨ t = 85 ∨ t = 86 ∨ t = 87 ∨ t = 88 ∨ t = 89 ∨ t = 90 ∨ t = 91 ∨ t = 109 := by omega
  rcases this with rfl | rfl | rfl | rfl | rfl | rfl | rfl | rfl | rfl | rfl | rfl
  · exact q.1
  · exact q.2.1
  · exact q.2.2.1
  · exact q.2.2.2.1
  · exact q.2.2.2.2.1
  · exact q.2.2.2.2.2.1
  · exact q.2.2.2.2.2.2.1
  · exact q.2.2.2.2.2.2.2.1
  · exact q.2.2.2.2.2.2.2.2.1
  · exact q.2.2.2.2.2.2.2.2.2.1
  · exact q.2.2.2.2.2.2.2.2.2.2
theorem RK.cg2 {k c : Nat} (h : RK C X M k) (hc : gI M 102 0 k ≠ c) (r13 : gR X' 13 0 k = gR X 13 0 k) (e3 : ∀ j, gI X' 3 k j = gI X 3 k j) (r3 : ∀ j, gR X' 3 k j = gR X 3 k j) (r5 : ∀ i, i ≠ c → gR X' 5 i 8 = gR X 5 i 8) (f : ∀ t, t = 101 ∨ t = 102 ∨ t = 103 → gI M' t 0 k = gI M t 0 k) (f82 : ∀ i, i ≠ c → gI M' 82 0 i = gI M 82 0 i) : RK C X' M' k := by
  unfold RK at h ⊢
  rw [r13, e3, e3, r3, e3, f 101 (by simp), f 102 (by simp), f 103 (by simp)]
  refine ⟨h.1, h.2.1, h.2.2.1, fun q => ?_⟩
  obtain ⟨a, b, c', d⟩ := h.2.2.2 q
  have : (gI M 102 0 k).toNat ≠ c := by omega
  rw [f82 _ this, r5 _ this]
  exact ⟨a, b, c', d⟩
theorem RR.cup (hr : RR P C K D X M) {c : Nat} (hc : c < C) (n : ∀ t, gN X' t = gN X t) (n2 : ∀ t, gN M' t = gN M t) (e : eqS tX X' X) (e5 : ∀ i k, i ≠ c → gI X' 5 i k = gI X 5 i k ∧ gR X' 5 i k = gR X 5 i k) (e15 : ∀ i k, i ≠ c + 3 → gI X' 15 i k = gI X 15 i k)
    (f : eqS tM M' M) (fM : ∀ t, t = 82 ∨ t = 83 ∨ t = 84 ∨ t = 85 ∨ t = 86 ∨ t = 87 ∨ t = 88 ∨ t = 89 ∨ t = 90 ∨ t = 109 → ∀ i, i ≠ c → gI M' t 0 i = gI M t 0 i) (f91 : ∀ j, (j < 6 * c ∨ 6 * c + 6 ≤ j) → gI M' 91 0 j = gI M 91 0 j) (hS' : RS X' M') (hC' : RC P C K X' M' c) (hK' : ∀ k, k < K → gI M 102 0 k ≠ c) : RR P C K D X' M' := by
  obtain ⟨⟨hX, hM, hN⟩, hS, hF, hB, hP, hL, hC, hK, hD, hZ⟩ := hr
  refine ⟨⟨hX.cg (n 0) (e.mono (tX_of (fun _ => rfl) (fun _ => rfl) rfl rfl)), hM.cg (n2 64) (f.mono (tM_of (nt fun _ => ⟨rfl, rfl, rfl, rfl, rfl, rfl, rfl, rfl, rfl, rfl, rfl⟩) rfl rfl)), hN.cg n (e.mono (tX_of (fun _ => rfl) (fun _ => rfl) rfl rfl)) (f.mono (tM_of (nt fun _ => ⟨rfl, rfl, rfl, rfl, rfl, rfl, rfl, rfl, rfl, rfl, rfl⟩) rfl rfl))⟩, hS',
    hF.cg (e.mono (tX_of (fun _ => rfl) (fun _ => rfl) rfl rfl)) (f.mono (tM_of (nt fun _ => ⟨rfl, rfl, rfl, rfl, rfl, rfl, rfl, rfl, rfl, rfl, rfl⟩) rfl rfl)), hB.cg (e.mono (tX_of (fun _ => rfl) (fun _ => rfl) rfl rfl)) (f.mono (tM_of (nt fun _ => ⟨rfl, rfl, rfl, rfl, rfl, rfl, rfl, rfl, rfl, rfl, rfl⟩) rfl rfl)),
    fun p' hp' => (hP p' hp').cg (e.mono (tX_of (fun _ => rfl) (fun _ => rfl) rfl rfl)) (f.mono (tM_of (nt fun _ => ⟨rfl, rfl, rfl, rfl, rfl, rfl, rfl, rfl, rfl, rfl, rfl⟩) rfl rfl)), fun p' hp' => (hL p' hp').cg (e.mono (tX_of (fun _ => rfl) (fun _ => rfl) rfl rfl)) (f.mono (tM_of (nt fun _ => ⟨rfl, rfl, rfl, rfl, rfl, rfl, rfl, rfl, rfl, rfl, rfl⟩) rfl rfl)),
    fun c' hc' => ?_, fun k hk => (hK k hk).cg2 (hK' k hk) ((e 13 k rfl).2 0) (fun j => (e 3 j rfl).1 k) (fun j => (e 3 j rfl).2 k) (fun i hi => (e5 i 8 hi).2) (fun t ht => ?_) (fun i hi => fM 82 (by simp) i hi), hD.cg (f.mono (tM_of (nt fun _ => ⟨rfl, rfl, rfl, rfl, rfl, rfl, rfl, rfl, rfl, rfl, rfl⟩) rfl rfl)), ?_⟩
  · by_cases q : c' = c
    · subst q; exact hC'
    · refine (hC c' hc').cg1 ((e 12 c' rfl).2 0) (fun j => (e5 c' j q).1) (fun j => (e5 c' j q).2) ((e 4 0 rfl).2 _) (fun j _ => e15 _ j (by omega)) (fun t ht => ?_) (fun j hj => f91 _ (by omega)) (fun t j ht => ?_) (fun k hk h2 => by rw [(f 102 k rfl).1]; exact h2) (by rw [(f 64 13 rfl).1]; exact Int.le_refl _)
      · rcases ht with rfl | ht | ht | ht | ht | ht | ht | ht | ht | ht | ht
        · exact (f 81 c' rfl).1 0
        all_goals exact fM _ (by simp [ht]) c' q
      · rcases ht with rfl | rfl | rfl <;> exact (f _ j rfl).1 0
  · rcases ht with rfl | rfl | rfl <;> exact (f _ k rfl).1 0
  · intro t j hz
    have h0 := hZ t j hz
    by_cases q : t = 84 ∨ t = 85 ∨ t = 88 ∨ t = 89 ∨ t = 90 ∨ t = 109
    · rw [fM t (by omega) j, h0]
      rintro rfl
      rcases q with rfl | rfl | rfl | rfl | rfl | rfl <;> (simp [zZ] at hz; omega)
    by_cases q2 : t = 91
    · subst q2
      rw [f91 j, h0]
      simp [zZ] at hz
      omega
    · rw [(f t j ?_).1, h0]
      unfold zZ at hz
      split at hz <;> first | (cases hz; done) | rfl | (exfalso; omega)
end CU
