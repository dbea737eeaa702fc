theorem i10 {c : Prop} [Decidable c] : ((if c then (1 : Int) else 0) = 0) = ¬ c := by by_cases h : c <;> simp [h]
theorem i01 {c : Prop} [Decidable c] : ((if c then (0 : Int) else 1) = 0) = c := by by_cases h : c <;> simp [h]
theorem g_t {α : Type} {c : Prop} {_i : Decidable c} (h : c) (o : Option α) : g_ c o = o := if_pos h
theorem zS_ext {σ τ : zS} (h1 : ∀ t, gN σ t = gN τ t) (h2 : ∀ t i k, gI σ t i k = gI τ t i k) (h3 : ∀ t i k, gR σ t i k = gR τ t i k) : σ = τ := by
  obtain ⟨a, b, c⟩ := σ
  obtain ⟨a', b', c'⟩ := τ
  have e1 : a = a' := funext h1
  have e2 : b = b' := by funext t i k; exact h2 t i k
  have e3 : c = c' := by funext t i k; exact h3 t i k
  rw [e1, e2, e3]
/-- a whole array -/
def sB (σ : zS) (t i : Nat) (f : Nat → Int) : zS := (σ.1, fun t' i' k' => if t' = t ∧ i' = i then f k' else σ.2.1 t' i' k', σ.2.2)
theorem gI_sB (σ : zS) (t i : Nat) (f : Nat → Int) (t' i' k' : Nat) : gI (sB σ t i f) t' i' k' = if t' = t ∧ i' = i then f k' else gI σ t' i' k' := rfl
theorem gR_sB (σ : zS) (t i : Nat) (f : Nat → Int) (t' i' k' : Nat) : gR (sB σ t i f) t' i' k' = gR σ t' i' k' := rfl
theorem gN_sB (σ : zS) (t i : Nat) (f : Nat → Int) (t' : Nat) : gN (sB σ t i f) t' = gN σ t' := rfl
theorem idx0 (x : Int) (P : Nat) : (x < 0 ∨ (P : Int) ≤ x) ∨ ∃ p : Nat, p < P ∧ x = p := by
  by_cases h : x < 0 ∨ (P : Int) ≤ x
  · exact Or.inl h
  · exact Or.inr ⟨x.toNat, by omega, by omega⟩
theorem idx1 (x : Int) (P : Nat) : (x < 1 ∨ (P : Int) ≤ x) ∨ ∃ p : Nat, 0 < p ∧ p < P ∧ x = p := by
  by_cases h : x < 1 ∨ (P : Int) ≤ x
  · exact Or.inl h
  · exact Or.inr ⟨x.toNat, by omega, by omega, by omega⟩
theorem within_eq (s : zS) (x a b : Int) : fX10_within s x a b = some ((if a ≤ x ∧ x ≤ b then 1 else 0), s) := by
  unfold fX10_within
  by_cases h1 : x < a
  · rw [if_pos h1, if_neg (by omega)]
  · rw [if_neg h1]
    by_cases h2 : b < x
    · rw [if_pos h2, if_neg (by omega)]
    · rw [if_neg h2, if_pos (by omega)]
theorem in_eq (s : zS) (x a b : Int) : fX11_in s x a b = some ((if a ≤ x ∧ x ≤ b then 1 else 0), s) := by
  unfold fX11_in
  by_cases h1 : x < a
  · rw [if_pos h1, if_neg (by omega)]
  · rw [if_neg h1]
    by_cases h2 : b < x
    · rw [if_pos h2, if_neg (by omega)]
    · rw [if_neg h2, if_pos (by omega)]
theorem b01i {c : Prop} [Decidable c] : (if c then (1 : Int) else 0) = 0 ∨ (if c then (1 : Int) else 0) = 1 := by split <;> simp
section B
variable {P C K : Nat} {D : Int} {X M : zS}
theorem isPost_eq (h : RR P C K D X M) (x : Int) : fX11_isPost M 0 x = some ((if 0 ≤ x ∧ x < P then 1 else 0), M) := by
  obtain ⟨⟨hX, hM, hN⟩, -⟩ := h
  unfold fX11_isPost
  rw [in_eq, cl_some, g_t b01i, hN.2.1.1, wr_id (by have := hN.1; unfold zin; omega)]
  by_cases h1 : 0 ≤ x ∧ x < P
  · rw [if_pos h1, if_pos (by omega)]
  · rw [if_neg h1, if_neg (by omega)]
theorem isWire_eq (h : RR P C K D X M) (x : Int) : fX11_isWire M 0 x = some ((if 1 ≤ x ∧ x < P then 1 else 0), M) := by
  obtain ⟨⟨hX, hM, hN⟩, -⟩ := h
  unfold fX11_isWire
  rw [in_eq, cl_some, g_t b01i, hN.2.1.1, wr_id (by have := hN.1; unfold zin; omega)]
  by_cases h1 : 1 ≤ x ∧ x < P
  · rw [if_pos h1, if_pos (by omega)]
  · rw [if_neg h1, if_neg (by omega)]
theorem isCup_eq (h : RR P C K D X M) (x : Int) : fX11_isCup M 0 x = some ((if 0 ≤ x ∧ x < C then 1 else 0), M) := by
  obtain ⟨⟨hX, hM, hN⟩, -⟩ := h
  unfold fX11_isCup
  rw [in_eq, cl_some, g_t b01i, hN.2.1.2.1, wr_id (by have := hN.1; unfold zin; omega)]
  by_cases h1 : 0 ≤ x ∧ x < C
  · rw [if_pos h1, if_pos (by omega)]
  · rw [if_neg h1, if_neg (by omega)]
theorem findPost_out (h : RR P C K D X M) {x : Int} (hx : x < 0 ∨ (P : Int) ≤ x) : fX10_findPost X 0 x = some (none, X) := by
  obtain ⟨⟨hX, hM, hN⟩, -⟩ := h
  unfold fX10_findPost
  by_cases h1 : x < 0
  · rw [if_pos h1]
  · rw [if_neg h1, hN.2.2.1.1, if_neg (by omega)]
theorem findPost_in (h : RR P C K D X M) {p : Nat} (hp : p < P) : fX10_findPost X 0 (p : Int) = some (some p, X) := by
  obtain ⟨⟨hX, hM, hN⟩, hS, hF, hB, hP, -⟩ := h
  unfold fX10_findPost
  rw [if_neg (by omega), hN.2.2.1.1, if_pos (by omega), nm_eq, hX.2.1 0 (by decide), ob_some, g_t (by have := hN.1; omega), nm_eq, Int.toNat_natCast, (hP p hp).1.1]
theorem findWire_out (h : RR P C K D X M) {x : Int} (hx : x < 1 ∨ (P : Int) ≤ x) : fX10_findWire X 0 x = some (none, X) := by
  obtain ⟨⟨hX, hM, hN⟩, -⟩ := h
  unfold fX10_findWire
  by_cases h1 : x < 1
  · rw [if_pos h1]
  · rw [if_neg h1, hN.2.2.1.1, if_neg (by omega)]
theorem findWire_in (h : RR P C K D X M) {p : Nat} (h0 : 0 < p) (hp : p < P) : fX10_findWire X 0 (p : Int) = some (some p, X) := by
  obtain ⟨⟨hX, hM, hN⟩, hS, hF, hB, hP, -⟩ := h
  unfold fX10_findWire
  rw [if_neg (by omega), hN.2.2.1.1, if_pos (by omega), nm_eq, hX.2.1 0 (by decide), ob_some, g_t (by have := hN.1; omega), nm_eq, Int.toNat_natCast, (hP p hp).1.1]
theorem findCup_out (h : RR P C K D X M) {x : Int} (hx : x < 0 ∨ (C : Int) ≤ x) : fX10_findCup X 0 x = some (none, X) := by
  obtain ⟨⟨hX, hM, hN⟩, -⟩ := h
  unfold fX10_findCup
  by_cases h1 : x < 0
  · rw [if_pos h1]
  · rw [if_neg h1, hN.2.2.1.2.1, if_neg (by omega)]
theorem findCup_in (h : RR P C K D X M) {p : Nat} (hp : p < C) : fX10_findCup X 0 (p : Int) = some (some p, X) := by
  obtain ⟨⟨hX, hM, hN⟩, hS, hF, hB, hP, hL, hC, -⟩ := h
  unfold fX10_findCup
  rw [if_neg (by omega), hN.2.2.1.2.1, if_pos (by omega), nm_eq, hX.2.1 1 (by decide), ob_some, g_t (by have := hN.1; omega), nm_eq, Int.toNat_natCast, (hC p hp).1.1]
end B
/-! frames: what a part of the relation reads -/
theorem nn {c : Prop} (h : c) : ¬ ¬ c := fun q => q h
/-- the same at what S tells: S t k, by tag and slot -/
def eqS (S : Nat → Nat → Bool) (σ τ : zS) : Prop := ∀ t k, S t k = true → (∀ i, gI σ t i k = gI τ t i k) ∧ ∀ i, gR σ t i k = gR τ t i k
theorem eqS.rf {S : Nat → Nat → Bool} {σ : zS} : eqS S σ σ := fun _ _ _ => ⟨fun _ => rfl, fun _ => rfl⟩
theorem eqS.tr {S : Nat → Nat → Bool} {σ τ υ : zS} (h : eqS S σ τ) (g : eqS S τ υ) : eqS S σ υ := fun t k hk => ⟨fun i => ((h t k hk).1 i).trans ((g t k hk).1 i), fun i => ((h t k hk).2 i).trans ((g t k hk).2 i)⟩
theorem eqS.sy {S : Nat → Nat → Bool} {σ τ : zS} (h : eqS S σ τ) : eqS S τ σ := fun t k hk => ⟨fun i => ((h t k hk).1 i).symm, fun i => ((h t k hk).2 i).symm⟩
theorem eqS_sI {S : Nat → Nat → Bool} {σ τ : zS} {t i k : Nat} {v : Int} (hk : S t k = false) (h : eqS S σ τ) : eqS S (sI σ t i k v) τ := by
  refine fun t' k' h' => ⟨fun i' => ?_, (h t' k' h').2⟩
  rw [gI_sI, if_neg]
  · exact (h t' k' h').1 i'
  · rintro ⟨rfl, -, rfl⟩
    rw [hk] at h'; cases h'
theorem eqS_sR {S : Nat → Nat → Bool} {σ τ : zS} {t i k : Nat} {v : Option Nat} (hk : S t k = false) (h : eqS S σ τ) : eqS S (sR σ t i k v) τ := by
  refine fun t' k' h' => ⟨(h t' k' h').1, fun i' => ?_⟩
  rw [gR_sR, if_neg]
  · exact (h t' k' h').2 i'
  · rintro ⟨rfl, -, rfl⟩
    rw [hk] at h'; cases h'
theorem eqS_sB {S : Nat → Nat → Bool} {σ τ : zS} {t i : Nat} {f : Nat → Int} (hk : ∀ k, S t k = false) (h : eqS S σ τ) : eqS S (sB σ t i f) τ := by
  refine fun t' k' h' => ⟨fun i' => ?_, (h t' k' h').2⟩
  rw [gI_sB, if_neg]
  · exact (h t' k' h').1 i'
  · rintro ⟨rfl, -⟩
    rw [hk] at h'; cases h'
theorem eqS_sN {S : Nat → Nat → Bool} {σ τ : zS} {t : Nat} (hk : ∀ k, S t k = false) (h : eqS S σ τ) : eqS S (sN σ t) τ := by
  refine fun t' k' h' => ⟨fun i' => ?_, fun i' => ?_⟩
  · rw [gI_sN, if_neg]
    · exact (h t' k' h').1 i'
    · rintro ⟨rfl, -⟩
      rw [hk] at h'; cases h'
  · rw [gR_sN, if_neg]
    · exact (h t' k' h').2 i'
    · rintro ⟨rfl, -⟩
      rw [hk] at h'; cases h'
