/-! ===== reading states ===== -/
theorem nm_eq {α β : Type} (v : α) (k : α → β) : nm_ v k = k v := Eq.trans (Eq.refl _) rfl
theorem up_eq {β : Type} (σ : zS) (k : zS → β) : up_ σ k = k σ := Eq.trans (Eq.refl _) rfl
theorem cl_some {α β : Type} (a : α) (s : zS) (k : α → zS → Option β) : cl_ (some (a, s)) k = k a s := Eq.trans (Eq.refl _) rfl
theorem gI_sI (σ : zS) (t i k : Nat) (v : Int) (t' i' k' : Nat) : gI (sI σ t i k v) t' i' k' = if t' = t ∧ i' = i ∧ k' = k then v else gI σ t' i' k' := Eq.trans (Eq.refl _) rfl
theorem gI_sR (σ : zS) (t i k : Nat) (v : Option Nat) (t' i' k' : Nat) : gI (sR σ t i k v) t' i' k' = gI σ t' i' k' := Eq.trans (Eq.refl _) rfl
theorem gI_sN (σ : zS) (t : Nat) (t' i' k' : Nat) : gI (sN σ t) t' i' k' = if t' = t ∧ i' = gN σ t then 0 else gI σ t' i' k' := Eq.trans (Eq.refl _) rfl
theorem gI_sCp (σ : zS) (t i sp u j dp n : Nat) (t' i' k' : Nat) : gI (sCp σ t i sp u j dp n) t' i' k' = if t' = u ∧ i' = j ∧ dp ≤ k' ∧ k' < dp + n then gI σ t i (sp + (k' - dp)) else gI σ t' i' k' := Eq.trans (Eq.refl _) rfl
theorem gR_sI (σ : zS) (t i k : Nat) (v : Int) (t' i' k' : Nat) : gR (sI σ t i k v) t' i' k' = gR σ t' i' k' := Eq.trans (Eq.refl _) rfl
theorem gR_sR (σ : zS) (t i k : Nat) (v : Option Nat) (t' i' k' : Nat) : gR (sR σ t i k v) t' i' k' = if t' = t ∧ i' = i ∧ k' = k then v else gR σ t' i' k' := Eq.trans (Eq.refl _) rfl
theorem gR_sN (σ : zS) (t : Nat) (t' i' k' : Nat) : gR (sN σ t) t' i' k' = if t' = t ∧ i' = gN σ t then none else gR σ t' i' k' := Eq.trans (Eq.refl _) rfl
theorem gR_sCp (σ : zS) (t i sp u j dp n : Nat) (t' i' k' : Nat) : gR (sCp σ t i sp u j dp n) t' i' k' = gR σ t' i' k' := Eq.trans (Eq.refl _) rfl
theorem gN_sI (σ : zS) (t i k : Nat) (v : Int) (t' : Nat) : gN (sI σ t i k v) t' = gN σ t' := Eq.trans (Eq.refl _) rfl
theorem gN_sR (σ : zS) (t i k : Nat) (v : Option Nat) (t' : Nat) : gN (sR σ t i k v) t' = gN σ t' := Eq.trans (Eq.refl _) rfl
theorem gN_sN (σ : zS) (t : Nat) (t' : Nat) : gN (sN σ t) t' = if t' = t then gN σ t + 1 else gN σ t' := Eq.trans (Eq.refl _) rfl
theorem gN_sCp (σ : zS) (t i sp u j dp n : Nat) (t' : Nat) : gN (sCp σ t i sp u j dp n) t' = gN σ t' := Eq.trans (Eq.refl _) rfl
theorem ob_some {α β : Type} (a : α) (f : α → Option β) : Option.bind (some a) f = f a := Eq.trans (Eq.refl _) rfl
theorem ob_none {α β : Type} (f : α → Option β) : Option.bind none f = none := Eq.trans (Eq.refl _) rfl
theorem oe_some {α β : Type} (a : α) (b : β) (f : α → β) : Option.elim (some a) b f = f a := Eq.trans (Eq.refl _) rfl
theorem oe_none {α β : Type} (b : β) (f : α → β) : Option.elim none b f = b := Eq.trans (Eq.refl _) rfl
/-- a reference told by a number: below 0, none -/
def ox (z : Int) : Option Nat := if z < 0 then none else some z.toNat
/-! ===== the relation ===== -/
/-- the model's fields that are arrays -/
def marr (k : Nat) : Bool := match k with
  | 0 => false | 13 => false | 14 => false | 27 => false | 28 => false | 34 => false | 38 => false | 39 => false | 46 => false | 47 => false | 48 => false | 52 => false | 54 => false | 55 => false | 57 => false
  | k => k < 59
def RM (M : zS) : Prop := gN M 64 = 1 ∧ ∀ k, marr k = true → gR M 64 0 k = some 0
def RX (X : zS) : Prop := gN X 0 = 1 ∧ (∀ k, k < 10 → gR X 0 0 k = some 0) ∧ (gR X 1 0 0 = some 0 ∧ gR X 1 0 1 = some 0) ∧ (gR X 2 0 0 = some 1 ∧ gR X 2 0 1 = some 2) ∧ gR X 4 0 0 = some 0 ∧ (gR X 6 0 0 = some 0 ∧ gR X 6 0 1 = some 0 ∧ gR X 6 0 2 = some 0) ∧
  (gR X 7 0 0 = some 0 ∧ gR X 7 0 1 = some 0 ∧ gR X 7 0 3 = some 0 ∧ gR X 7 0 5 = some 0 ∧ gR X 7 0 6 = some 0 ∧ gR X 7 0 7 = some 0 ∧ gR X 7 0 8 = some 0) ∧ ∀ k, k < 6 → gI X 28 0 k = 0
def RN (P C K : Nat) (X M : zS) : Prop := (1 ≤ P ∧ P ≤ 16 ∧ C ≤ 24 ∧ K ≤ 4) ∧ (gI M 64 0 0 = P ∧ gI M 64 0 14 = C ∧ gI M 64 0 34 = K) ∧ (gI X 0 0 10 = P ∧ gI X 0 0 11 = C ∧ gI X 0 0 12 = K) ∧ (gN X 8 = P ∧ gN X 10 = 2 * P ∧ gN X 16 = P ∧ gN X 9 = P) ∧ (gN X 5 = C ∧ gN X 4 = C + 1 ∧ gN X 15 = C + 3) ∧ gN X 3 = K
/-- scalars and the drawer -/
def RS (X M : zS) : Prop := (gI X 0 0 13 = gI M 64 0 13 ∧ 0 ≤ gI M 64 0 13 ∧ gI M 64 0 13 ≤ 20000) ∧ (gI X 0 0 14 = gI M 64 0 38 ∧ 0 ≤ gI M 64 0 38 ∧ gI M 64 0 38 ≤ 2) ∧ gI X 0 0 15 = gI M 64 0 27 ∧ gI X 0 0 16 = gI M 64 0 28 ∧ ∀ k, k < 6 → gI X 15 0 k = gI M 92 0 k ∧ 0 ≤ gI M 92 0 k
/-- coins that are fetched -/
def RF (X M : zS) : Prop := gI X 6 0 3 = gI M 64 0 39 ∧ 0 ≤ gI M 64 0 39 ∧ gI M 64 0 39 ≤ 20 ∧ ∀ j : Nat, (j : Int) < gI M 64 0 39 → (gI X 17 0 j = gI M 106 0 j ∧ 0 ≤ gI M 106 0 j ∧ gI M 106 0 j ≤ 5) ∧ (gI X 18 0 j = gI M 107 0 j ∧ 1 ≤ gI M 107 0 j ∧ gI M 107 0 j ≤ 100) ∧ gI X 19 0 j = gI M 108 0 j
/-- bells -/
def RB (X M : zS) : Prop := (gI X 1 0 2 = gI M 64 0 48 ∧ 0 ≤ gI M 64 0 48 ∧ gI M 64 0 48 < 300) ∧ (gI X 1 0 3 = gI M 64 0 47 ∧ 0 ≤ gI M 64 0 47 ∧ gI M 64 0 47 ≤ 300) ∧ (gI M 64 0 47 < 300 → gI M 64 0 48 = 0) ∧ ∀ j, j < 300 → gI X 20 0 j = gI M 115 0 j ∧ gI X 21 0 j = gI M 116 0 j
/-- a post -/
def RP (P : Nat) (X M : zS) (p : Nat) : Prop :=
  (gR X 11 0 p = some p ∧ gI X 8 p 0 = p ∧ gR X 8 p 7 = some (2 * p) ∧ gR X 8 p 8 = some (2 * p + 1) ∧ gR X 8 p 14 = some p ∧ gR X 8 p 15 = some p ∧ gR X 8 p 1 = ox (gI M 67 0 p)) ∧
  (p = 0 → gI M 67 0 p = -9 ∧ gI M 68 0 p = 0) ∧ (0 < p → (0 ≤ gI M 67 0 p ∧ gI M 67 0 p < p ∧ gI M 68 0 (gI M 67 0 p).toNat ≠ 2) ∧ (gI M 68 0 p = 1 ∨ gI M 68 0 p = 2) ∧ (1 ≤ gI M 69 0 p ∧ gI M 69 0 p ≤ 20) ∧ 1 ≤ gI M 70 0 p ∧ gI M 70 0 p ≤ 10) ∧
  (gI X 8 p 2 = gI M 68 0 p ∧ gI X 8 p 3 = gI M 69 0 p ∧ gI X 8 p 4 = gI M 70 0 p) ∧ (gI X 8 p 5 = gI M 71 0 p ∧ (gI M 71 0 p = 0 ∨ gI M 71 0 p = 1)) ∧ (gI X 8 p 6 = 1 - gI M 72 0 p ∧ (gI M 72 0 p = 0 ∨ gI M 72 0 p = 1)) ∧
  (gI X 8 p 9 = gI M 73 0 p ∧ 0 ≤ gI M 73 0 p ∧ gI M 73 0 p ≤ 2) ∧ (gI X 8 p 11 = gI M 74 0 p ∧ (gI M 74 0 p = 0 ∨ (2 ≤ gI M 74 0 p ∧ gI M 74 0 p ≤ 9)) ∧ 0 ≤ gI M 75 0 p ∧ (gI M 74 0 p ≠ 0 → gI X 8 p 12 = gI M 75 0 p % gI M 74 0 p)) ∧ (gI X 8 p 13 = gI M 76 0 p ∧ (gI M 76 0 p = 0 ∨ gI M 76 0 p = 1)) ∧
  (0 < p → (gI X 8 p 10 = (if gI M 77 0 p = -9 then 0 else gI M 77 0 p) ∧ (gI M 77 0 p = -9 ∨ (1 ≤ gI M 77 0 p ∧ gI M 77 0 p < P))) ∧ (gI X 10 (2 * p) 0 = (if gI M 78 0 (2 * p + 1) = -9 then -1000 else gI M 78 0 (2 * p + 1)) ∧ (gI M 78 0 (2 * p + 1) = -9 ∨ (0 ≤ gI M 78 0 (2 * p + 1) ∧ gI M 78 0 (2 * p + 1) ≤ 20000))) ∧ (gI X 10 (2 * p + 1) 0 = (if gI M 78 0 (2 * p) = -9 then -1000 else gI M 78 0 (2 * p)) ∧ (gI M 78 0 (2 * p) = -9 ∨ (0 ≤ gI M 78 0 (2 * p) ∧ gI M 78 0 (2 * p) ≤ 20000)))) ∧
  (gI X 9 p 0 = gI M 95 0 p ∧ 0 ≤ gI M 95 0 p) ∧ gI X 9 p 1 = gI M 96 0 p ∧ gI X 9 p 2 = (if gI M 95 0 p = 0 then -9 else gI M 97 0 p) ∧ (0 < gI M 95 0 p → 0 ≤ gI M 97 0 p) ∧ gI X 9 p 3 = gI M 98 0 p ∧ gI X 9 p 4 = gI M 99 0 p
/-- whether post q lies below post p, by at most n steps up -/
def below (M : zS) : Nat → Nat → Nat → Bool
  | 0, q, p => q == p
  | n + 1, q, p => q == p || (decide (0 < q) && below M n (gI M 67 0 q).toNat p)
/-- what the posts below n that lie below p send -/
def ldS (M : zS) (p h : Nat) : Nat → Int
  | 0 => 0
  | n + 1 => ldS M p h n + (if 0 < n ∧ below M 16 n p = true then gI M 124 0 (6 * n + h) else 0)
def RLd (P : Nat) (X M : zS) (p : Nat) : Prop := (∀ h, h < 6 → 0 ≤ gI M 124 0 (6 * p + h) ∧ gI M 124 0 (6 * p + h) ≤ 300) ∧ (gI M 68 0 p ≠ 2 → ∀ h, h < 6 → gI M 124 0 (6 * p + h) = 0) ∧ ∀ h, h < 6 → gI X 16 p h = ldS M p h P
/-- what a cup's coins are worth, wrapped as both sides do -/
def wS (a : Nat → Int) : Nat → Int
  | 0 => 0
  | n + 1 => wr (wS a n + wr (a n * zWt n))
/-- a cup -/
def RC (P C K : Nat) (X M : zS) (c : Nat) : Prop :=
  (gR X 12 0 c = some c ∧ gI X 5 c 0 = c ∧ gR X 5 c 2 = some (c + 1) ∧ gR X 4 (c + 1) 0 = some (c + 3)) ∧
  (gR X 5 c 1 = some (gI M 81 0 c).toNat ∧ 0 < gI M 81 0 c ∧ gI M 81 0 c < P ∧ gI M 68 0 (gI M 81 0 c).toNat = 2) ∧
  (gI X 5 c 3 = gI M 82 0 c ∧ 0 ≤ gI M 82 0 c ∧ gI M 82 0 c ≤ 6) ∧
  (gI M 82 0 c = 0 → gR X 5 c 4 = some (gI M 81 0 c).toNat ∧ ∀ k, k < 6 → gI M 91 0 (6 * c + k) = 0) ∧
  (gI M 82 0 c = 1 ∨ gI M 82 0 c = 2 ∨ gI M 82 0 c = 5 → gR X 5 c 4 = some (gI M 83 0 c).toNat ∧ 0 ≤ gI M 83 0 c ∧ gI M 83 0 c < P) ∧
  (gI M 82 0 c = 3 ∨ gI M 82 0 c = 4 ∨ gI M 82 0 c = 6 → gR X 5 c 4 = none) ∧
  (gI X 5 c 5 = gI M 85 0 c ∧ (gI M 85 0 c = 0 ∨ gI M 85 0 c = 1)) ∧
  (gI M 82 0 c = 1 ∧ gI M 85 0 c = 1 → 0 < gI M 83 0 c) ∧
  (gI M 82 0 c = 1 ∧ gI M 85 0 c = 1 ∧ gI M 68 0 (gI M 83 0 c).toNat = 1 → gR X 5 c 6 = some (gI M 87 0 c).toNat ∧ 0 < gI M 87 0 c ∧ gI M 87 0 c < P ∧ gI M 67 0 (gI M 87 0 c).toNat = gI M 83 0 c) ∧
  (¬ (gI M 82 0 c = 1 ∧ gI M 85 0 c = 1 ∧ gI M 68 0 (gI M 83 0 c).toNat = 1) → gR X 5 c 6 = none) ∧
  (gI M 82 0 c = 1 ∧ gI M 85 0 c = 0 → gR X 5 c 7 = ox (gI M 86 0 c) ∧ (gI M 86 0 c = -9 ∨ (0 < gI M 86 0 c ∧ gI M 86 0 c < P ∧ gI M 67 0 (gI M 86 0 c).toNat = gI M 83 0 c)) ∧ gI M 68 0 (gI M 83 0 c).toNat ≠ 2) ∧
  (¬ (gI M 82 0 c = 1 ∧ gI M 85 0 c = 0) → gR X 5 c 7 = none) ∧
  (gI M 82 0 c = 4 → ∃ k, k < K ∧ gR X 5 c 8 = some k ∧ gI M 102 0 k = c) ∧ (gI M 82 0 c ≠ 4 → gR X 5 c 8 = none) ∧
  gI X 5 c 9 = gI M 109 0 c ∧ (gI M 82 0 c = 2 → 0 < gI M 83 0 c ∧ 0 ≤ gI M 109 0 c ∧ gI M 109 0 c < gI M 69 0 (gI M 83 0 c).toNat) ∧
  (gI M 82 0 c = 1 ∨ gI M 82 0 c = 3 → gI X 5 c 10 = gI M 84 0 c) ∧ (gI M 82 0 c = 6 → gI X 5 c 11 = gI M 84 0 c) ∧ (0 ≤ gI M 84 0 c ∧ gI M 84 0 c ≤ 30000) ∧
  (gI X 5 c 12 = gI M 88 0 c ∧ 0 ≤ gI M 88 0 c ∧ gI M 88 0 c ≤ 3) ∧ gI X 5 c 13 = gI M 89 0 c ∧ (gI X 5 c 14 = gI M 90 0 c ∧ 0 ≤ gI M 90 0 c ∧ gI M 90 0 c ≤ gI M 64 0 13) ∧
  (∀ k, k < 6 → gI X 15 (c + 3) k = gI M 91 0 (6 * c + k) ∧ 0 ≤ gI M 91 0 (6 * c + k) ∧ gI M 91 0 (6 * c + k) ≤ 3000) ∧
  (gI M 88 0 c = 1 → (∀ k, k < 6 → gI M 91 0 (6 * c + k) ≤ 50) ∧ 1 ≤ gI M 89 0 c ∧ gI M 89 0 c ≤ wS (fun k => gI M 91 0 (6 * c + k)) 6 ∧ wS (fun k => gI M 91 0 (6 * c + k)) 6 ≤ 3000) ∧
  (gI M 82 0 c = 5 → gI M 68 0 (gI M 83 0 c).toNat = 2)
/-- a clerk -/
def RK (C : Nat) (X M : zS) (k : Nat) : Prop :=
  (gR X 13 0 k = some k ∧ gI X 3 k 0 = k ∧ gI X 3 k 1 = gI M 101 0 k ∧ 1 ≤ gI M 101 0 k ∧ gI M 101 0 k ≤ 30) ∧ gR X 3 k 2 = ox (gI M 102 0 k) ∧ (gI M 102 0 k = -9 → gI X 3 k 3 = 0) ∧
  (gI M 102 0 k ≠ -9 → (0 ≤ gI M 102 0 k ∧ gI M 102 0 k < C) ∧ (gI X 3 k 3 = gI M 103 0 k ∧ 1 ≤ gI M 103 0 k ∧ gI M 103 0 k ≤ 30) ∧ gI M 82 0 (gI M 102 0 k).toNat = 4 ∧ gR X 5 (gI M 102 0 k).toNat 8 = some k)
/-- how far what is counted may have come -/
def BD (D : Int) (P : Nat) (M : zS) : Prop := (∀ p, p < P → gI M 95 0 p ≤ D ∧ gI M 75 0 p ≤ D) ∧ ∀ k, k < 6 → gI M 92 0 k ≤ D
/-- slots of the model that no post, no cup has used yet -/
def zZ (P C t k : Nat) : Bool := match t with
  | 72 | 73 | 74 | 75 | 76 | 95 | 96 | 98 | 99 => decide (P ≤ k ∧ k < 16)
  | 84 | 85 | 88 | 89 | 90 | 109 => decide (C ≤ k ∧ k < 24)
  | 124 => decide (6 * P ≤ k ∧ k < 96)
  | 91 => decide (6 * C ≤ k ∧ k < 144)
  | _ => false
def RZ (P C : Nat) (M : zS) : Prop := ∀ t k, zZ P C t k = true → gI M t 0 k = 0
theorem RZ.sI {P C : Nat} {M : zS} {t i k : Nat} {v : Int} (hk : zZ P C t k = false) (h : RZ P C M) : RZ P C (sI M t i k v) := by
  intro t' k' h'
  rw [gI_sI, if_neg]
  · exact h t' k' h'
  · rintro ⟨rfl, -, rfl⟩
    rw [hk] at h'; cases h'
theorem RZ.sR {P C : Nat} {M : zS} {t i k : Nat} {v : Option Nat} (h : RZ P C M) : RZ P C (sR M t i k v) := h
def RR (P C K : Nat) (D : Int) (X M : zS) : Prop := (RX X ∧ RM M ∧ RN P C K X M) ∧ RS X M ∧ RF X M ∧ RB X M ∧ (∀ p, p < P → RP P X M p) ∧ (∀ p, p < P → RLd P X M p) ∧ (∀ c, c < C → RC P C K X M c) ∧ (∀ k, k < K → RK C X M k) ∧ BD D P M ∧ RZ P C M
def zR (X M : zS) : Prop := ∃ P C K, RR P C K (1000 + 2300 * gI M 64 0 13) X M
theorem zR_n {X M : zS} (h : zR X M) : 0 < X.1 0 ∧ 0 < M.1 64 := by
  obtain ⟨P, C, K, ⟨⟨hx, -⟩, ⟨hm, -⟩, -⟩, -⟩ := h
  have hx : X.1 0 = 1 := hx
  have hm : M.1 64 = 1 := hm
  omega
def z0 : zS := (fun _ => 0, fun _ _ _ => 0, fun _ _ _ => none)
