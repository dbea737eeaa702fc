/-! ===== the porter's way ===== -/
def upN (M : zS) (q : Nat) : Nat := (gI M 67 0 q).toNat
/-- length up from a to its ancestor b -/
def cl (M : zS) : Nat → Nat → Nat → Int
  | 0, _, _ => 0
  | n + 1, a, b => if a = b ∨ a = 0 then 0 else gI M 69 0 a + cl M n (upN M a) b
/-- the first of b and those above it that a lies below -/
def top (M : zS) (a : Nat) : Nat → Nat → Nat
  | 0, b => b
  | n + 1, b => if below M 16 a b = true then b else top M a n (upN M b)
section PW
variable {P C K : Nat} {D : Int} {X M : zS}
theorem upN_lt (hr : RR P C K D X M) {q : Nat} (h0 : 0 < q) (hq : q < P) : upN M q < q ∧ gI M 67 0 q = upN M q := by
  obtain ⟨r, r1, r2, -⟩ := par hr h0 hq
  unfold upN
  rw [r2]; simp; omega
theorem len_b (hr : RR P C K D X M) {q : Nat} (h0 : 0 < q) (hq : q < P) : 1 ≤ gI M 69 0 q ∧ gI M 69 0 q ≤ 20 := ((hr.2.2.2.2.1 q hq).2.2.1 h0).2.2.1
theorem below_f (hr : RR P C K D X M) (b : Nat) : ∀ n m a, a < P → a ≤ n → a ≤ m → below M n a b = below M m a b := by
  intro n
  induction n with
  | zero =>
    intro m a ha hn hm
    have : a = 0 := by omega
    subst this
    rw [below_0, below_0]
  | succ n ih =>
    intro m a ha hn hm
    by_cases h0 : a = 0
    · subst h0; rw [below_0, below_0]
    obtain ⟨m, rfl⟩ : ∃ j, m = j + 1 := ⟨m - 1, by omega⟩
    have u := upN_lt hr (by omega) ha
    by_cases e : a = b
    · subst e; rw [below_rf, below_rf]
    · rw [below_s M n a b (by omega) e, below_s M m a b (by omega) e]
      exact ih m (upN M a) (by omega) (by omega) (by omega)
theorem below_16 (hr : RR P C K D X M) {a b : Nat} (h0 : 0 < a) (ha : a < P) (e : ¬ a = b) : below M 16 a b = below M 16 (upN M a) b := by
  have h16 := hr.1.2.2.1
  have u := upN_lt hr h0 ha
  rw [below_s M 15 a b h0 e]
  exact below_f hr b 15 16 (upN M a) (by omega) (by omega) (by omega)
theorem below_z (hr : RR P C K D X M) : ∀ n a, a < P → a ≤ n → below M n a 0 = true
  | 0, a, _, h => by have : a = 0 := by omega
                     subst this; rfl
  | n + 1, a, ha, h => by
    by_cases h0 : a = 0
    · subst h0; rw [below_0]; rfl
    · have u := upN_lt hr (by omega) ha
      rw [below_s M n a 0 (by omega) h0]
      exact below_z hr n (upN M a) (by omega) (by omega)
theorem cl_f (hr : RR P C K D X M) (b : Nat) : ∀ n m a, a < P → a ≤ n → a ≤ m → cl M n a b = cl M m a b := by
  intro n
  induction n with
  | zero =>
    intro m a ha hn hm
    have : a = 0 := by omega
    subst this
    cases m <;> simp [cl]
  | succ n ih =>
    intro m a ha hn hm
    by_cases h0 : a = 0
    · subst h0; cases m <;> simp [cl]
    obtain ⟨m, rfl⟩ : ∃ j, m = j + 1 := ⟨m - 1, by omega⟩
    have u := upN_lt hr (by omega) ha
    unfold cl
    rw [ih m (upN M a) (by omega) (by omega) (by omega)]
theorem cl_s (hr : RR P C K D X M) {a b : Nat} (h0 : 0 < a) (ha : a < P) (e : ¬ a = b) : cl M 16 a b = gI M 69 0 a + cl M 16 (upN M a) b := by
  have h16 := hr.1.2.2.1
  have u := upN_lt hr h0 ha
  conv => lhs; unfold cl
  rw [if_neg (by omega), cl_f hr b 15 16 (upN M a) (by omega) (by omega) (by omega)]
theorem cl_e (M : zS) (n a : Nat) : cl M n a a = 0 := by cases n <;> simp [cl]
theorem cl_b (hr : RR P C K D X M) (b : Nat) : ∀ n a, a < P → 0 ≤ cl M n a b ∧ cl M n a b ≤ 20 * a
  | 0, a, _ => by unfold cl; omega
  | n + 1, a, ha => by
    unfold cl
    by_cases e : a = b ∨ a = 0
    · rw [if_pos e]; omega
    · rw [if_neg e]
      have u := upN_lt hr (q := a) (by omega) ha
      have l := len_b hr (q := a) (by omega) ha
      have ih := cl_b hr b n (upN M a) (by omega)
      omega
theorem top_f (hr : RR P C K D X M) {a : Nat} (ha : a < P) : ∀ n m b, b < P → b ≤ n → b ≤ m → top M a n b = top M a m b := by
  have h16 := hr.1.2.2.1
  have z : below M 16 a 0 = true := below_z hr 16 a ha (by omega)
  intro n
  induction n with
  | zero =>
    intro m b hb hn hm
    have : b = 0 := by omega
    subst this
    cases m <;> simp [top, z]
  | succ n ih =>
    intro m b hb hn hm
    by_cases h0 : b = 0
    · subst h0; cases m <;> simp [top, z]
    obtain ⟨m, rfl⟩ : ∃ j, m = j + 1 := ⟨m - 1, by omega⟩
    have u := upN_lt hr (q := b) (by omega) hb
    unfold top
    rw [ih m (upN M b) (by omega) (by omega) (by omega)]
theorem top_y (M : zS) {a b n : Nat} (h : below M 16 a b = true) : top M a n b = b := by cases n <;> simp [top, h]
theorem top_n (hr : RR P C K D X M) {a b : Nat} (ha : a < P) (hb : b < P) (h : below M 16 a b = false) : top M a 16 b = top M a 16 (upN M b) ∧ 0 < b := by
  have h16 := hr.1.2.2.1
  have h0 : 0 < b := by
    rcases Nat.eq_zero_or_pos b with e | e
    · subst e; rw [below_z hr 16 a ha (by omega)] at h; cases h
    · exact e
  have u := upN_lt hr h0 hb
  refine ⟨?_, h0⟩
  conv => lhs; unfold top
  rw [if_neg (by rw [h]; decide)]
  exact top_f hr ha 15 16 (upN M b) (by omega) (by omega) (by omega)
theorem top_le (hr : RR P C K D X M) {a : Nat} (ha : a < P) : ∀ b, b < P → top M a 16 b ≤ b ∧ below M 16 a (top M a 16 b) = true := by
  intro b
  induction b using Nat.strongRecOn with
  | _ b ih =>
    intro hb
    by_cases h : below M 16 a b = true
    · rw [top_y M h]; exact ⟨Nat.le_refl b, h⟩
    · have h : below M 16 a b = false := by simpa using h
      obtain ⟨e, h0⟩ := top_n hr ha hb h
      have u := upN_lt hr h0 hb
      have := ih (upN M b) u.1 (by omega)
      rw [e]
      exact ⟨by omega, this.2⟩
theorem top_up (hr : RR P C K D X M) {b : Nat} (h0 : 0 < b) (hb : b < P) : ∀ a, a < b → top M b 16 a = top M (upN M b) 16 a := by
  intro a
  induction a using Nat.strongRecOn with
  | _ a ih =>
    intro ha
    have u := upN_lt hr h0 hb
    have e := below_16 hr (b := a) h0 hb (by omega)
    by_cases h : below M 16 b a = true
    · rw [top_y M h, top_y M (by rw [← e]; exact h)]
    · have h : below M 16 b a = false := by simpa using h
      obtain ⟨e1, h1⟩ := top_n hr hb (by omega) h
      obtain ⟨e2, -⟩ := top_n hr (a := upN M b) (b := a) (by omega) (by omega) (by rw [← e]; exact h)
      have u1 := upN_lt hr h1 (by omega)
      rw [e1, e2, ih (upN M a) u1.1 (by omega)]
theorem wayL (hr : RR P C K D X M) : ∀ (n a b : Nat) (x : Int), a < P → b < P → a + b < n → 0 ≤ x → x + 20 * (a + b) ≤ 100000 → fX10_way_L7 n X x (some a) (some b) = some (x + cl M 16 a (top M b 16 a) + cl M 16 b (top M b 16 a), X)
  | 0, _, _, _, _, _, h, _, _ => by omega
  | n + 1, a, b, x, ha, hb, hn, hx, hx2 => by
    have hr' := hr
    obtain ⟨-, -, -, -, hP, -⟩ := hr
    unfold fX10_way_L7
    simp only [nm_eq, up_eq, cl_some, ob_some, oe_some, oe_none, ob_none, (hP a ha).1.2.1, (hP b hb).1.2.1, (hP a ha).2.2.2.1.2.1, (hP b hb).2.2.2.1.2.1]
    by_cases e : a = b
    · subst e
      rw [if_pos rfl, top_y M (below_rf M 16 a), cl_e]
      simp
    · rw [if_neg (by intro q; exact e (Option.some.inj q))]
      by_cases lt : b < a
      · rw [if_pos (by omega)]
        have u := upN_lt hr' (q := a) (by omega) ha
        have l := len_b hr' (q := a) (by omega) ha
        have eu : gR X 8 a 1 = some (upN M a) := by rw [(hP a ha).1.2.2.2.2.2.2, u.2]; unfold ox; rw [if_neg (by omega), Int.toNat_natCast]
        obtain ⟨t1, -⟩ := top_n hr' hb ha (below_lt hr' 16 b hb lt)
        have tl := (top_le hr' hb (upN M a) (by omega)).1
        rw [eu, wr_id (by unfold zin; omega), wayL hr' n (upN M a) b _ (by omega) hb (by omega) (by omega) (by omega), t1, cl_s hr' (a := a) (by omega) ha (by omega)]
        congr 2
        omega
      · rw [if_neg (by omega)]
        have u := upN_lt hr' (q := b) (by omega) hb
        have l := len_b hr' (q := b) (by omega) hb
        have eu : gR X 8 b 1 = some (upN M b) := by rw [(hP b hb).1.2.2.2.2.2.2, u.2]; unfold ox; rw [if_neg (by omega), Int.toNat_natCast]
        have tl := (top_le hr' (a := upN M b) (by omega) a ha).1
        rw [eu, wr_id (by unfold zin; omega), wayL hr' n a (upN M b) _ ha (by omega) (by omega) (by omega) (by omega), top_up hr' (by omega) hb a (by omega), cl_s hr' (a := b) (by omega) hb (by omega)]
        congr 2
        omega
theorem betL5 (hr : RR P C K D X M) {nf : Nat} (hnf : 1000 ≤ nf) (κ : zS → Int → Int → Option (Int × zS)) {b : Nat} (hb : b < P) : ∀ (n a : Nat) (x : Int), a < P → a < n → 0 ≤ x → x + 20 * a ≤ 100000 → fX11_between_L5 κ 0 b nf n M x a = κ M (x + cl M 16 a (top M b 16 a)) (top M b 16 a)
  | 0, _, _, _, h, _, _ => by omega
  | n + 1, a, x, ha, hn, hx, hx2 => by
    have hr' := hr
    obtain ⟨⟨hX, hM, hN⟩, -⟩ := hr
    have h16 := hN.1
    unfold fX11_between_L5
    rw [lies_eq hr' hnf hb, cl_some]
    by_cases h : below M 16 b a = true
    · rw [if_pos h, if_neg (by decide), top_y M h, cl_e, Int.add_zero]
    · rw [if_neg h, if_pos rfl]
      have h : below M 16 b a = false := by simpa using h
      obtain ⟨t1, h0⟩ := top_n hr' hb ha h
      have u := upN_lt hr' h0 ha
      have l := len_b hr' h0 ha
      have tl := (top_le hr' hb (upN M a) (by omega)).1
      simp only [nm_eq, up_eq, cl_some, ob_some, oe_some, oe_none, ob_none, hM.2 3 rfl, hM.2 1 rfl, g_t (show (0 : Int) ≤ (a : Int) ∧ (a : Int) < 16 by omega), Int.toNat_natCast, u.2]
      rw [wr_id (by unfold zin; omega), betL5 hr' hnf κ hb n (upN M a) _ (by omega) (by omega) (by omega) (by omega), t1, cl_s hr' h0 ha (by omega)]
      congr 1
      omega
theorem betL40 (hr : RR P C K D X M) {nf : Nat} {b : Nat} : ∀ (n a : Nat) (x : Int), a < P → a < n → below M 16 a b = true → 0 ≤ x → x + 20 * a ≤ 100000 → fX11_between_L40 0 b nf n M x a = some (x + cl M 16 a b, M)
  | 0, _, _, _, h, _, _, _ => by omega
  | n + 1, a, x, ha, hn, hbl, hx, hx2 => by
    have hr' := hr
    obtain ⟨⟨hX, hM, hN⟩, -⟩ := hr
    have h16 := hN.1
    unfold fX11_between_L40
    by_cases e : a = b
    · subst e
      rw [if_pos rfl, cl_e, Int.add_zero]
    · rw [if_neg (by omega)]
      have h0 : 0 < a := by
        rcases Nat.eq_zero_or_pos a with q | q
        · subst q; rw [below_0] at hbl; exact absurd (by simpa using hbl) e
        · exact q
      have u := upN_lt hr' h0 ha
      have l := len_b hr' h0 ha
      simp only [nm_eq, up_eq, cl_some, ob_some, oe_some, oe_none, ob_none, hM.2 3 rfl, hM.2 1 rfl, g_t (show (0 : Int) ≤ (a : Int) ∧ (a : Int) < 16 by omega), Int.toNat_natCast, u.2]
      rw [wr_id (by unfold zin; omega), betL40 hr' n (upN M a) _ (by omega) (by omega) (by rw [← below_16 hr' h0 ha e]; exact hbl) (by omega) (by omega), cl_s hr' h0 ha e]
      congr 2
      omega
theorem way_eq (hr : RR P C K D X M) {nf : Nat} (hnf : 1000 ≤ nf) {a b : Nat} (ha : a < P) (hb : b < P) : ∃ w : Int, (0 ≤ w ∧ w ≤ 700) ∧ fX10_way nf X (some a) (some b) = some (w, X) ∧ fX11_between nf M 0 a b = some (w, M) := by
  have h16 := hr.1.2.2.1
  have t := top_le hr hb a ha
  have c1 := cl_b hr (top M b 16 a) 16 a ha
  have c2 := cl_b hr (top M b 16 a) 16 b hb
  refine ⟨cl M 16 a (top M b 16 a) + cl M 16 b (top M b 16 a), by omega, ?_, ?_⟩
  · unfold fX10_way
    rw [wayL hr nf a b 0 ha hb (by omega) (by omega) (by omega), Int.zero_add]
  · unfold fX11_between
    rw [betL5 hr hnf _ hb nf a 0 ha (by omega) (by omega) (by omega)]
    rw [Int.zero_add]
    exact betL40 hr nf b _ hb (by omega) t.2 (by omega) (by omega)
end PW
