/-! ===== the model's view of a wire ===== -/
/-- cup r is before cup c -/
def er (M : zS) (r c : Nat) : Prop := gI M 84 0 r < gI M 84 0 c ∨ (gI M 84 0 r = gI M 84 0 c ∧ r < c)
/-- f is the first of the first k cups that S holds -/
def FS (M : zS) (S : Nat → Prop) (k : Nat) (f : Int) : Prop := (f = -9 ∧ ∀ c, c < k → ¬ S c) ∨ ∃ r : Nat, r < k ∧ f = r ∧ S r ∧ ∀ c, c < k → S c → c = r ∨ er M r c
theorem FS_skip {M : zS} {S : Nat → Prop} {k : Nat} {f : Int} (h : FS M S k f) (n : ¬ S k) : FS M S (k + 1) f := by
  rcases h with ⟨h1, h2⟩ | ⟨r, r1, r2, r3, r4⟩
  · refine Or.inl ⟨h1, fun c hc => ?_⟩
    by_cases e : c = k
    · subst e; exact n
    · exact h2 c (by omega)
  · refine Or.inr ⟨r, by omega, r2, r3, fun c hc hs => ?_⟩
    by_cases e : c = k
    · subst e; exact absurd hs n
    · exact r4 c (by omega) hs
theorem FS_take {M : zS} {S : Nat → Prop} {k : Nat} {f : Int} (h : FS M S k f) (s : S k) (y : f = -9 ∨ ∃ r : Nat, f = r ∧ er M k r) : FS M S (k + 1) k := by
  refine Or.inr ⟨k, by omega, rfl, s, fun c hc hs => ?_⟩
  by_cases e : c = k
  · exact Or.inl e
  · right
    rcases h with ⟨h1, h2⟩ | ⟨r, r1, r2, r3, r4⟩
    · exact absurd hs (h2 c (by omega))
    · rcases y with y | ⟨r', y1, y2⟩
      · omega
      · have : r' = r := by omega
        subst this
        rcases r4 c (by omega) hs with q | q
        · subst q; exact y2
        · unfold er at y2 q ⊢; omega
theorem FS_keep {M : zS} {S : Nat → Prop} {k : Nat} {f : Int} (h : FS M S k f) (y : ¬ (f = -9 ∨ ∃ r : Nat, f = r ∧ er M k r)) : FS M S (k + 1) f := by
  rcases h with ⟨h1, h2⟩ | ⟨r, r1, r2, r3, r4⟩
  · exact absurd (Or.inl h1) y
  · refine Or.inr ⟨r, by omega, r2, r3, fun c hc hs => ?_⟩
    by_cases e : c = k
    · subst e
      right
      have : ¬ er M c r := fun q => y (Or.inr ⟨r, r2, q⟩)
      unfold er at this ⊢; omega
    · exact r4 c (by omega) hs
theorem FS_un {M : zS} {S : Nat → Prop} {k : Nat} {f g : Int} (h : FS M S k f) (h' : FS M S k g) : f = g := by
  rcases h with ⟨h1, h2⟩ | ⟨r, r1, r2, r3, r4⟩ <;> rcases h' with ⟨g1, g2⟩ | ⟨s, s1, s2, s3, s4⟩
  · omega
  · exact absurd s3 (h2 s s1)
  · exact absurd r3 (g2 r r1)
  · rcases r4 s s1 s3 with e | e
    · omega
    · rcases s4 r r1 r3 with e' | e'
      · omega
      · unfold er at e e'; omega
theorem FS_cg {M : zS} {S S' : Nat → Prop} {k : Nat} {f : Int} (h : FS M S k f) (e : ∀ c, c < k → (S c ↔ S' c)) : FS M S' k f := by
  rcases h with ⟨h1, h2⟩ | ⟨r, r1, r2, r3, r4⟩
  · exact Or.inl ⟨h1, fun c hc q => h2 c hc ((e c hc).2 q)⟩
  · exact Or.inr ⟨r, r1, r2, (e r r1).1 r3, fun c hc q => r4 c hc ((e c hc).2 q)⟩
section WY
variable {P C K : Nat} {D : Int} {X M : zS}
theorem earlier_eq (hr : RR P C K D X M) {k : Nat} {f : Int} (hk : k < C) (hf : f = -9 ∨ ∃ r : Nat, r < C ∧ f = r) : ∃ v, fX11_isEarlier M 0 k f = some (v, M) ∧ (¬ v = 0 ↔ (f = -9 ∨ ∃ r : Nat, f = r ∧ er M k r)) := by
  have hM := hr.1.2.1
  have h16 := hr.1.2.2.1
  have gk : (0 : Int) ≤ (k : Int) ∧ (k : Int) < 24 := by omega
  unfold fX11_isEarlier
  rcases hf with hf | ⟨r, hr1, hf⟩
  · rw [if_pos hf]
    exact ⟨_, rfl, by omega⟩
  · have gr : (0 : Int) ≤ (r : Int) ∧ (r : Int) < 24 := by omega
    subst hf
    have iff' : ((r : Int) = -9 ∨ ∃ r' : Nat, (r : Int) = r' ∧ er M k r') ↔ er M k r := by
      constructor
      · rintro (h | ⟨r', h1, h2⟩)
        · omega
        · have : r' = r := by omega
          subst this; exact h2
      · intro h
        exact Or.inr ⟨r, rfl, h⟩
    rw [if_neg (by omega), iff']
    simp only [nm_eq, up_eq, cl_some, ob_some, oe_some, oe_none, ob_none, hM.2 18 rfl, g_t gk, g_t gr, Int.toNat_natCast]
    unfold er
    by_cases a : gI M 84 0 k < gI M 84 0 r
    · rw [if_pos a]; exact ⟨_, rfl, by omega⟩
    · rw [if_neg a]
      by_cases b : gI M 84 0 k = gI M 84 0 r
      · rw [if_pos b]
        by_cases l : (k : Int) < (r : Int)
        · rw [if_pos l]; exact ⟨_, rfl, by omega⟩
        · rw [if_neg l]; exact ⟨_, rfl, by omega⟩
      · rw [if_neg b]; exact ⟨_, rfl, by omega⟩
theorem FS_b {S : Nat → Prop} {k : Nat} {f : Int} (h : FS M S k f) (hk : k ≤ C) : f = -9 ∨ ∃ r : Nat, r < C ∧ f = r := by
  rcases h with ⟨h1, h2⟩ | ⟨r, r1, r2, r3, r4⟩
  · exact Or.inl h1
  · exact Or.inr ⟨r, by omega, r2⟩
/-- those that wait at post p to go up, having come from q (any: -9) -/
abbrev uS (M : zS) (p : Nat) (q : Int) (c : Nat) : Prop := gI M 82 0 c = 1 ∧ gI M 83 0 c = p ∧ gI M 85 0 c = 1 ∧ (q = -9 ∨ gI M 87 0 c = q)
theorem waitsUp_eq (hr : RR P C K D X M) {p k : Nat} (q : Int) (hk : k < C) : fX11_waitsUp M 0 k p q = some ((if uS M p q k then 1 else 0), M) := by
  have hM := hr.1.2.1
  have h16 := hr.1.2.2.1
  have gk : (0 : Int) ≤ (k : Int) ∧ (k : Int) < 24 := by omega
  have d7 := (hr.2.2.2.2.2.2.1 k hk).2.2.2.2.2.2.1.2
  unfold fX11_waitsUp
  simp only [nm_eq, up_eq, cl_some, ob_some, oe_some, oe_none, ob_none, hM.2 16 rfl, hM.2 17 rfl, hM.2 19 rfl, hM.2 21 rfl, g_t gk, Int.toNat_natCast]
  by_cases a : gI M 82 0 k = 1
  · rw [if_pos a]
    by_cases b : gI M 83 0 k = p
    · rw [if_pos b]
      by_cases c : gI M 85 0 k = 0
      · rw [if_pos c, if_neg (fun z => by have := z.2.2.1; omega)]
      · rw [if_neg c]
        by_cases d : q = -9
        · rw [if_pos d, if_pos ⟨a, b, by omega, Or.inl d⟩]
        · rw [if_neg d]
          by_cases e : gI M 87 0 k = q
          · rw [if_pos e, if_pos ⟨a, b, by omega, Or.inr e⟩]
          · rw [if_neg e, if_neg (fun z => by rcases z.2.2.2 with z | z; exact d z; exact e z)]
    · rw [if_neg b, if_neg (fun z => b z.2.1)]
  · rw [if_neg a, if_neg (fun z => a z.1)]
theorem firstUpL (hr : RR P C K D X M) {p : Nat} (q : Int) : ∀ (m n k : Nat) (f : Int), k + m = C → m < n → FS M (uS M p q) k f → ∃ f', fX11_firstUp_L6 0 p q n M f (k : Int) = some (f', M) ∧ FS M (uS M p q) C f'
  | 0, n + 1, k, f, hk, _, hf => by
    have hN := hr.1.2.2
    have e : k = C := by omega
    refine ⟨f, ?_, e ▸ hf⟩
    unfold fX11_firstUp_L6
    rw [if_neg (by rw [hN.2.1.2.1]; omega)]
  | m + 1, n + 1, k, f, hk, hn, hf => by
    have hN := hr.1.2.2
    have h16 := hN.1
    obtain ⟨v, v1, v2⟩ := earlier_eq hr (k := k) (by omega) (FS_b hf (by omega))
    have eq1 : fX11_firstUp_L6 0 p q (n + 1) M f (k : Int) = fX11_firstUp_L6 0 p q n M (if uS M p q k then (if v = 0 then f else (k : Int)) else f) ((k + 1 : Nat) : Int) := by
      conv => lhs; unfold fX11_firstUp_L6
      rw [if_pos (by rw [hN.2.1.2.1]; omega), waitsUp_eq hr q (by omega)]
      simp only [nm_eq, up_eq, cl_some, ob_some, oe_some, oe_none, ob_none, v1, nat_wr k (by omega)]
      by_cases s : uS M p q k
      · rw [if_pos s, if_neg (by decide), if_pos s]
        by_cases z : v = 0
        · rw [if_pos z, if_pos z]
        · rw [if_neg z, if_neg z]
      · rw [if_neg s, if_pos rfl, if_neg s]
    rw [eq1]
    refine firstUpL hr q m n (k + 1) _ (by omega) (by omega) ?_
    by_cases s : uS M p q k
    · rw [if_pos s]
      by_cases z : v = 0
      · rw [if_pos z]; exact FS_keep hf (fun y => (v2.2 y) z)
      · rw [if_neg z]; exact FS_take hf s (v2.1 z)
    · rw [if_neg s]; exact FS_skip hf s
theorem firstUp_eq (hr : RR P C K D X M) {nf : Nat} (hnf : 1000 ≤ nf) (p : Nat) (q : Int) : ∃ f, fX11_firstUp nf M 0 p q = some (f, M) ∧ FS M (uS M p q) C f := by
  have h16 := hr.1.2.2.1
  exact firstUpL hr q C nf 0 (-9) (by omega) (by omega) (Or.inl ⟨rfl, fun c hc => by omega⟩)
/-- those that wait to go down to p -/
abbrev dS (M : zS) (p : Nat) (c : Nat) : Prop := gI M 82 0 c = 1 ∧ gI M 83 0 c = gI M 67 0 p ∧ gI M 85 0 c = 0 ∧ gI M 86 0 c = p
theorem downL (hr : RR P C K D X M) {p : Nat} (hp : p < P) : ∀ (m n k : Nat) (f : Int), k + m = C → m < n → FS M (dS M p) k f → ∃ f', fX11_downOf_L5 0 p n M f (k : Int) = some (f', M) ∧ FS M (dS M p) C f'
  | 0, n + 1, k, f, hk, _, hf => by
    have hN := hr.1.2.2
    have e : k = C := by omega
    refine ⟨f, ?_, e ▸ hf⟩
    unfold fX11_downOf_L5
    rw [if_neg (by rw [hN.2.1.2.1]; omega)]
  | m + 1, n + 1, k, f, hk, hn, hf => by
    have hM := hr.1.2.1
    have hN := hr.1.2.2
    have h16 := hN.1
    have gk : (0 : Int) ≤ (k : Int) ∧ (k : Int) < 24 := by omega
    have gp : (0 : Int) ≤ (p : Int) ∧ (p : Int) < 16 := by omega
    obtain ⟨v, v1, v2⟩ := earlier_eq hr (k := k) (by omega) (FS_b hf (by omega))
    have eq1 : fX11_downOf_L5 0 p (n + 1) M f (k : Int) = fX11_downOf_L5 0 p n M (if dS M p k then (if v = 0 then f else (k : Int)) else f) ((k + 1 : Nat) : Int) := by
      conv => lhs; unfold fX11_downOf_L5
      rw [if_pos (by rw [hN.2.1.2.1]; omega)]
      simp only [nm_eq, up_eq, cl_some, ob_some, oe_some, oe_none, ob_none, hM.2 16 rfl, hM.2 17 rfl, hM.2 1 rfl, hM.2 19 rfl, hM.2 20 rfl, g_t gk, g_t gp, Int.toNat_natCast, v1, nat_wr k (by omega)]
      by_cases a : gI M 82 0 k = 1
      · by_cases b : gI M 83 0 k = gI M 67 0 p
        · by_cases c : gI M 85 0 k = 0
          · by_cases d : gI M 86 0 k = p
            · have s : dS M p k := ⟨a, b, c, d⟩
              rw [if_pos a, if_pos b, if_pos c, if_pos d, if_pos s, if_neg (by decide)]
              by_cases z : v = 0
              · rw [if_pos z, if_pos z]
              · rw [if_neg z, if_neg z]
            · rw [if_pos a, if_pos b, if_pos c, if_neg d, if_pos trivial, if_neg (show ¬ dS M p k from fun z => d z.2.2.2)]
          · rw [if_pos a, if_pos b, if_neg c, if_pos trivial, if_neg (show ¬ dS M p k from fun z => c z.2.2.1)]
        · rw [if_pos a, if_neg b, if_pos trivial, if_neg (show ¬ dS M p k from fun z => b z.2.1)]
      · rw [if_neg a, if_pos trivial, if_neg (show ¬ dS M p k from fun z => a z.1)]
    rw [eq1]
    refine downL hr hp m n (k + 1) _ (by omega) (by omega) ?_
    by_cases s : dS M p k
    · rw [if_pos s]
      by_cases z : v = 0
      · rw [if_pos z]; exact FS_keep hf (fun y => (v2.2 y) z)
      · rw [if_neg z]; exact FS_take hf s (v2.1 z)
    · rw [if_neg s]; exact FS_skip hf s
theorem downOf_eq (hr : RR P C K D X M) {nf : Nat} (hnf : 1000 ≤ nf) {p : Nat} (hp : p < P) : ∃ f, fX11_downOf nf M 0 p = some (f, M) ∧ FS M (dS M p) C f := by
  have h16 := hr.1.2.2.1
  exact downL hr hp C nf 0 (-9) (by omega) (by omega) (Or.inl ⟨rfl, fun c hc => by omega⟩)
/-- down: what the class was told is what the model finds -/
theorem down_told (hr : RR P C K D X M) {nf : Nat} (hnf : 1000 ≤ nf) {p : Nat} (h0 : 0 < p) (hp : p < P) (hn : fW M X C p 0) : fX11_downOf nf M 0 p = some (oi (gR X 10 (2 * p + 1) 3), M) := by
  obtain ⟨f, f1, f2⟩ := downOf_eq hr hnf hp
  have eqv : ∀ c, c < C → (dS M p c ↔ wW M p 0 c) := fun c hc => by
    have d11 := (hr.2.2.2.2.2.2.1 c hc).2.2.2.2.2.2.2.2.2.2.1
    constructor
    · rintro ⟨a, b, d, e⟩
      exact ⟨a, d, by rw [if_neg (by decide)]; exact e⟩
    · rintro ⟨a, b, d⟩
      rw [if_neg (by decide)] at d
      have q := (d11 ⟨a, b⟩).2.1
      refine ⟨a, ?_, b, d⟩
      rw [d, Int.toNat_natCast] at q
      omega
  have f2 := FS_cg f2 eqv
  rw [f1]
  have : FS M (wW M p 0) C (oi (gR X 10 (2 * p + 1) 3)) := by
    rcases hn with ⟨h1, h2⟩ | ⟨r, r1, r2, r3, r4, r5⟩
    · rw [wI_0] at h1
      rw [h1]
      exact Or.inl ⟨rfl, h2⟩
    · rw [wI_0] at r2
      rw [r2]
      refine Or.inr ⟨r, r1, rfl, r4, fun c hc hs => ?_⟩
      rcases r5 c hc hs with e | e
      · exact Or.inl e
      · right
        have z : ∀ c, rk M p 0 c = 0 := fun c => by unfold rk; rw [if_neg (by omega)]
        unfold lx at e
        rw [z, z] at e
        unfold er; omega
  rw [FS_un f2 this]
/-- near: what the class was told -/
theorem nearL (hr : RR P C K D X M) {p : Nat} (hp : p < P) (h0 : 0 < p) (d : Int) : ∀ (m n k : Nat), k + m = C → m < n → fX11_isNear_L5 0 p d n M (if nrS M p d k < gI M 70 0 p then 1 else 0) (k : Int) = some ((if nrS M p d C < gI M 70 0 p then 1 else 0), M)
  | 0, n + 1, k, hk, _ => by
    have hN := hr.1.2.2
    have e : k = C := by omega
    unfold fX11_isNear_L5
    rw [if_neg (by rw [hN.2.1.2.1]; omega), g_t b01i, e]
  | m + 1, n + 1, k, hk, hn => by
    have hM := hr.1.2.1
    have hN := hr.1.2.2
    have h16 := hN.1
    have gk : (0 : Int) ≤ (k : Int) ∧ (k : Int) < 24 := by omega
    have gp : (0 : Int) ≤ (p : Int) ∧ (p : Int) < 16 := by omega
    have ih := nearL hr hp h0 d m n (k + 1) (by omega) (by omega)
    rw [nrS_s] at ih
    conv => lhs; unfold fX11_isNear_L5
    rw [if_pos (by rw [hN.2.1.2.1]; omega)]
    simp only [nm_eq, up_eq, cl_some, ob_some, oe_some, oe_none, ob_none, hM.2 16 rfl, hM.2 17 rfl, hM.2 19 rfl, hM.2 43 rfl, hM.2 4 rfl, g_t gk, g_t gp, Int.toNat_natCast, nat_wr k (by omega)]
    by_cases z : nrS M p d k < gI M 70 0 p
    · rw [if_pos z, if_neg (by decide)]
      rw [if_pos (show (if gI M 82 0 k = 2 ∧ gI M 83 0 k = p ∧ gI M 85 0 k = d then imin (nrS M p d k) (gI M 109 0 k) else nrS M p d k) < gI M 70 0 p by unfold imin; split <;> (try split) <;> omega)] at ih
      exact ih
    · rw [if_neg z, if_pos rfl]
      by_cases a : gI M 82 0 k = 2
      · rw [if_pos a]
        by_cases b : gI M 83 0 k = p
        · rw [if_pos b]
          by_cases c : gI M 85 0 k = d
          · rw [if_pos c]
            rw [if_pos (show gI M 82 0 k = 2 ∧ gI M 83 0 k = p ∧ gI M 85 0 k = d from ⟨a, b, c⟩)] at ih
            by_cases e : gI M 109 0 k < gI M 70 0 p
            · rw [if_pos e]
              rw [if_pos (show imin (nrS M p d k) (gI M 109 0 k) < gI M 70 0 p by unfold imin; split <;> omega)] at ih
              exact ih
            · rw [if_neg e]
              rw [if_neg (show ¬ imin (nrS M p d k) (gI M 109 0 k) < gI M 70 0 p by unfold imin; split <;> omega)] at ih
              exact ih
          · rw [if_neg c]
            rw [if_neg (show ¬ (gI M 82 0 k = 2 ∧ gI M 83 0 k = p ∧ gI M 85 0 k = d) from fun q => c q.2.2), if_neg z] at ih
            exact ih
        · rw [if_neg b]
          rw [if_neg (show ¬ (gI M 82 0 k = 2 ∧ gI M 83 0 k = p ∧ gI M 85 0 k = d) from fun q => b q.2.1), if_neg z] at ih
          exact ih
      · rw [if_neg a]
        rw [if_neg (show ¬ (gI M 82 0 k = 2 ∧ gI M 83 0 k = p ∧ gI M 85 0 k = d) from fun q => a q.1), if_neg z] at ih
        exact ih
theorem near_eq (hr : RR P C K D X M) {nf : Nat} (hnf : 1000 ≤ nf) {p : Nat} (hp : p < P) (h0 : 0 < p) (d : Int) : fX11_isNear nf M 0 p d = some ((if nrS M p d C < gI M 70 0 p then 1 else 0), M) := by
  have h16 := hr.1.2.2.1
  have g := ((hr.2.2.2.2.1 p hp).2.2.1 h0).2.2.2
  have := nearL hr hp h0 d C nf 0 (by omega) (by omega)
  rw [if_neg (show ¬ nrS M p d 0 < gI M 70 0 p by unfold nrS; omega)] at this
  exact this
/-- the tick at which a cup went on last -/
def lsM (M : zS) (p : Nat) (d : Int) : Int := if gI M 78 0 (if d = 1 then 2 * p + 1 else 2 * p) = -9 then -1000 else gI M 78 0 (if d = 1 then 2 * p + 1 else 2 * p)
theorem clear_eq (hr : RR P C K D X M) {p : Nat} (hp : p < P) (h0 : 0 < p) {d : Int} (hd : d = 0 ∨ d = 1) : fX11_isClear M 0 p d = some ((if gI M 64 0 13 - lsM M p d < gI M 70 0 p then 0 else 1), M) := by
  have hM := hr.1.2.1
  have h16 := hr.1.2.2.1
  have hs := hr.2.1.1
  have gp : (0 : Int) ≤ (p : Int) ∧ (p : Int) < 16 := by omega
  obtain ⟨-, -, g, -, -, -, -, -, -, e10, -⟩ := hr.2.2.2.2.1 p hp
  have g := (g h0).2.2.2
  have e10 := (e10 h0).2
  unfold fX11_isClear lsM
  rcases hd with rfl | rfl
  · have w := wr2 p (by omega)
    have gw : (0 : Int) ≤ ((2 * p : Nat) : Int) ∧ ((2 * p : Nat) : Int) < 32 := by clear w; omega
    have w' : wr (((2 * p : Nat) : Int) + 0) = ((2 * p : Nat) : Int) := by clear w; rw [Int.add_zero]; exact wr_id (by unfold zin; omega)
    simp only [nm_eq, up_eq, cl_some, ob_some, oe_some, oe_none, ob_none, hM.2 12 rfl, hM.2 4 rfl, g_t gp, Int.toNat_natCast, Int.reduceEq, ↓reduceIte, w, w', g_t gw]
    clear w w'
    by_cases e : gI M 78 0 (2 * p) = -9
    · rw [if_pos e, if_pos e, if_neg (by omega)]
    · rw [if_neg e, if_neg e, wr_id (by unfold zin; omega)]
      by_cases l : gI M 64 0 13 - gI M 78 0 (2 * p) < gI M 70 0 p
      · rw [if_pos l, if_pos l]
      · rw [if_neg l, if_neg l]
  · have w := wr21 p (by omega)
    have gw : (0 : Int) ≤ ((2 * p + 1 : Nat) : Int) ∧ ((2 * p + 1 : Nat) : Int) < 32 := by clear w; omega
    simp only [nm_eq, up_eq, cl_some, ob_some, oe_some, oe_none, ob_none, hM.2 12 rfl, hM.2 4 rfl, g_t gp, Int.toNat_natCast, Int.reduceEq, ↓reduceIte, w, g_t gw]
    clear w
    by_cases e : gI M 78 0 (2 * p + 1) = -9
    · rw [if_pos e, if_pos e, if_neg (by omega)]
    · rw [if_neg e, if_neg e, wr_id (by unfold zin; omega)]
      by_cases l : gI M 64 0 13 - gI M 78 0 (2 * p + 1) < gI M 70 0 p
      · rw [if_pos l, if_pos l]
      · rw [if_neg l, if_neg l]
end WY
