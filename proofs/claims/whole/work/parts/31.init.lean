def X9 : zS := ((fX10_init (sN z0 0) 0).getD ((), z0)).2
def M9 : zS := ((fX11_init (sN z0 64) 0).getD ((), z0)).2
theorem X9_eq : fX10_init (sN z0 0) 0 = some ((), X9) := rfl
theorem M9_eq : fX11_init (sN z0 64) 0 = some ((), M9) := rfl
theorem marr_lt {k : Nat} (h : marr k = true) : k < 59 := by
  unfold marr at h
  split at h <;> first | (cases h; done) | exact of_decide_eq_true h
set_option maxRecDepth 100000 in
theorem P_init : ∃ X' M', fX10_init (sN z0 0) 0 = some ((), X') ∧ fX11_init (sN z0 64) 0 = some ((), M') ∧ zR X' M' := by
  refine ⟨X9, M9, X9_eq, M9_eq, 1, 0, 0, ⟨⟨by decide +kernel, by decide +kernel, by decide +kernel, by decide +kernel, by decide +kernel, by decide +kernel, by decide +kernel, by decide +kernel⟩, ⟨by decide +kernel, ?_⟩, by unfold RN; decide +kernel⟩, ?_, ?_, ?_, ?_, ?_, ?_, ?_, ?_, ?_⟩
  · intro k hk
    have h : ∀ k, k < 59 → marr k = true → gR M9 64 0 k = some 0 := by decide +kernel
    exact h k (marr_lt hk) hk
  · unfold RS; decide +kernel
  · refine ⟨by decide +kernel, by decide +kernel, by decide +kernel, fun j hj => ?_⟩
    have : gI M9 64 0 39 = 0 := by decide +kernel
    omega
  · unfold RB; decide +kernel
  · intro p hp
    have : p = 0 := by omega
    subst this
    unfold RP; and_intros <;> decide +kernel
  · intro p hp
    have : p = 0 := by omega
    subst this
    unfold RLd; decide +kernel
  · intro c hc; omega
  · intro k hk; omega
  · unfold BD
    decide +kernel
  · intro t k h
    unfold zZ at h
    have q : ∀ t, t = 72 ∨ t = 73 ∨ t = 74 ∨ t = 75 ∨ t = 76 ∨ t = 95 ∨ t = 96 ∨ t = 98 ∨ t = 99 ∨ t = 84 ∨ t = 85 ∨ t = 88 ∨ t = 89 ∨ t = 90 ∨ t = 109 ∨ t = 124 ∨ t = 91 → ∀ k, k < 144 → gI M9 t 0 k = 0 := by
      intro t ht
      rcases ht with rfl | rfl | rfl | rfl | rfl | rfl | rfl | rfl | rfl | rfl | rfl | rfl | rfl | rfl | rfl | rfl | rfl <;> decide +kernel
    split at h <;> first | (cases h; done) | exact q _ (by decide) k (by have := of_decide_eq_true h; omega)
