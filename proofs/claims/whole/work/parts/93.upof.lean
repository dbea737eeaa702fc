/-! ===== which cup may go up ===== -/
section UO
variable {P C K : Nat} {D : Int} {X M : zS}
/-- what the model finds of those that came from child q -/
def gq (nf : Nat) (M : zS) (p q : Nat) : Int := if gI M 67 0 q = p then (fX11_firstUp nf M 0 p q).elim (-9) (fun x => x.1) else -9
theorem gq_f (hr : RR P C K D X M) {nf : Nat} (hnf : 1000 ≤ nf) {p q : Nat} (h : gI M 67 0 q = p) : fX11_firstUp nf M 0 p q = some (gq nf M p q, M) ∧ FS M (uS M p q) C (gq nf M p q) := by
  obtain ⟨f, f1, f2⟩ := firstUp_eq hr hnf p q
  have : gq nf M p q = f := by
    unfold gq
    rw [if_pos h, f1]
    rfl
  rw [this]
  exact ⟨f1, f2⟩
theorem upStep (hr : RR P C K D X M) {nf : Nat} (hnf : 1000 ≤ nf) {p : Nat} (q i n : Nat) (hP2 : 2 ≤ P) (hq : q < P) (hi : i < P) : fX11_upOf_L61 0 p nf (n + 1) M (q : Int) (i : Int) = if gq nf M p (if q + 1 < P then q + 1 else 1) = -9 then fX11_upOf_L61 0 p nf n M ((if q + 1 < P then q + 1 else 1 : Nat) : Int) ((i + 1 : Nat) : Int) else some (gq nf M p (if q + 1 < P then q + 1 else 1), M) := by
  have hM := hr.1.2.1
  have hN := hr.1.2.2
  have h16 := hN.1
  have hN0 : gI M 64 0 0 = P := hN.2.1.1
  conv => lhs; unfold fX11_upOf_L61
  rw [if_pos (by rw [hN0]; omega)]
  simp only [nm_eq, nat_wr q (by omega), nat_wr i (by omega), hN0]
  have go : ∀ x : Nat, x < 16 → (Option.bind (gR M 64 0 1) fun i_20 => g_ ((0 : Int) ≤ (x : Int) ∧ (x : Int) < 16) (if gI M 67 i_20 (Int.toNat (x : Int)) = (p : Int) then cl_ (fX11_firstUp nf M 0 p (x : Int)) fun (x_27 : Int) (s_26 : zS) => if x_27 = -9 then fX11_upOf_L61 0 p nf n s_26 (x : Int) ((i + 1 : Nat) : Int) else some (x_27, s_26) else if (-9 : Int) = -9 then fX11_upOf_L61 0 p nf n M (x : Int) ((i + 1 : Nat) : Int) else some ((-9 : Int), M))) = if gq nf M p x = -9 then fX11_upOf_L61 0 p nf n M (x : Int) ((i + 1 : Nat) : Int) else some (gq nf M p x, M) := by
    intro x hx
    rw [hM.2 1 rfl, ob_some, g_t (by omega), Int.toNat_natCast]
    by_cases c : gI M 67 0 x = p
    · rw [if_pos c, (gq_f hr hnf c).1, cl_some]
    · have : gq nf M p x = -9 := by unfold gq; rw [if_neg c]
      rw [if_neg c, if_pos rfl, this, if_pos rfl]
  by_cases c : q + 1 < P
  · rw [if_pos (by omega), if_pos c]
    exact go (q + 1) (by omega)
  · rw [if_neg (by omega), if_neg c]
    exact go 1 (by omega)
theorem upS (hr : RR P C K D X M) {nf : Nat} (hnf : 1000 ≤ nf) {p g : Nat} (hg : g < P) (h9 : gq nf M p g ≠ -9) : ∀ (d q i n : Nat), q + 1 + d = g → i + d < P → d < n → (∀ q', q < q' → q' < g → gq nf M p q' = -9) → fX11_upOf_L61 0 p nf n M (q : Int) (i : Int) = some (gq nf M p g, M)
  | _, _, _, 0, _, _, h, _ => by omega
  | 0, q, i, n + 1, hq, hi, _, hc => by
    rw [upStep hr hnf q i n (by omega) (by omega) (by omega), if_pos (show q + 1 < P by omega), show q + 1 = g by omega, if_neg h9]
  | d + 1, q, i, n + 1, hq, hi, hn, hc => by
    rw [upStep hr hnf q i n (by omega) (by omega) (by omega), if_pos (show q + 1 < P by omega), if_pos (hc (q + 1) (by omega) (by omega))]
    exact upS hr hnf hg h9 d (q + 1) (i + 1) n (by omega) (by omega) (by omega) (fun q' h1 h2 => hc q' (by omega) h2)
theorem upW (hr : RR P C K D X M) {nf : Nat} (hnf : 1000 ≤ nf) {p g : Nat} (hg0 : 0 < g) (hg : g < P) (h9 : gq nf M p g ≠ -9) (hl : ∀ q, 0 < q → q < g → gq nf M p q = -9) : ∀ (e q i n : Nat), q + 1 + e = P → i + e + g ≤ P → e + g < n → (∀ q', q < q' → q' < P → gq nf M p q' = -9) → fX11_upOf_L61 0 p nf n M (q : Int) (i : Int) = some (gq nf M p g, M)
  | _, _, _, 0, _, _, h, _ => by omega
  | 0, q, i, n + 1, hq, hi, hn, hc => by
    have s0 := upS hr hnf hg h9 (g - 1) 0 i (n + 1) (by omega) (by omega) (by omega) (fun q' h1 h2 => hl q' h1 h2)
    rw [upStep hr hnf 0 i n (by omega) (by omega) (by omega), if_pos (show 0 + 1 < P by omega)] at s0
    rw [upStep hr hnf q i n (by omega) (by omega) (by omega), if_neg (show ¬ q + 1 < P by omega)]
    exact s0
  | e + 1, q, i, n + 1, hq, hi, hn, hc => by
    rw [upStep hr hnf q i n (by omega) (by omega) (by omega), if_pos (show q + 1 < P by omega), if_pos (hc (q + 1) (by omega) (by omega))]
    exact upW hr hnf hg0 hg h9 hl e (q + 1) (i + 1) n (by omega) (by omega) (by omega) (fun q' h1 h2 => hc q' (by omega) h2)
theorem upNone (hr : RR P C K D X M) {nf : Nat} (hnf : 1000 ≤ nf) {p : Nat} (hP2 : 2 ≤ P) (hc : ∀ q, 0 < q → q < P → gq nf M p q = -9) : ∀ (m q i n : Nat), i + m = P → m < n → q < P → fX11_upOf_L61 0 p nf n M (q : Int) (i : Int) = some (-9, M)
  | _, _, _, 0, _, h, _ => by omega
  | 0, q, i, n + 1, hi, _, hq => by
    have hN0 : gI M 64 0 0 = P := hr.1.2.2.2.1.1
    unfold fX11_upOf_L61
    rw [if_neg (by rw [hN0]; omega)]
  | m + 1, q, i, n + 1, hi, hn, hq => by
    rw [upStep hr hnf q i n hP2 hq (by omega)]
    by_cases c : q + 1 < P
    · rw [if_pos c, if_pos (hc (q + 1) (by omega) c)]
      exact upNone hr hnf hP2 hc m (q + 1) (i + 1) n (by omega) (by omega) c
    · rw [if_neg c, if_pos (hc 1 (by omega) (by omega))]
      exact upNone hr hnf hP2 hc m 1 (i + 1) n (by omega) (by omega) (by omega)
/-- up: what the class was told is what the model finds -/
theorem up_told (hr : RR P C K D X M) {nf : Nat} (hnf : 1000 ≤ nf) {p : Nat} (h0 : 0 < p) (hp : p < P) (hn : fW M X C p 1) : fX11_upOf nf M 0 p = some (oi (gR X 10 (2 * p) 3), M) := by
  have hM := hr.1.2.1
  have h16 := hr.1.2.2.1
  have gp : (0 : Int) ≤ (p : Int) ∧ (p : Int) < 16 := by omega
  have hC := hr.2.2.2.2.2.2.1
  obtain ⟨-, -, e3, -, -, -, e7, -, -, e10, -⟩ := hr.2.2.2.2.1 p hp
  have e3 := (e3 h0).2.1
  have e10 := (e10 h0).1.2
  have wu : ∀ c, wW M p 1 c ↔ gI M 82 0 c = 1 ∧ gI M 83 0 c = p ∧ gI M 85 0 c = 1 := fun c => by
    constructor
    · rintro ⟨a, b, d⟩
      rw [if_pos rfl] at d
      exact ⟨a, d, b⟩
    · rintro ⟨a, b, d⟩
      exact ⟨a, d, by rw [if_pos rfl]; exact b⟩
  by_cases plain : gI M 68 0 p = 2 ∨ gI M 73 0 p = 0
  · obtain ⟨f, f1, f2⟩ := firstUp_eq hr hnf p (-9)
    have eM : fX11_upOf nf M 0 p = some (f, M) := by
      unfold fX11_upOf
      simp only [nm_eq, up_eq, cl_some, ob_some, oe_some, oe_none, ob_none, hM.2 2 rfl, hM.2 7 rfl, g_t gp, Int.toNat_natCast, f1]
      by_cases s : gI M 68 0 p = 2
      · rw [if_pos s]
      · rw [if_neg s, if_pos (by omega)]
    have f2 := FS_cg f2 (fun c hc => show uS M p (-9) c ↔ wW M p 1 c from by
      rw [wu c]
      constructor
      · rintro ⟨a, b, d, -⟩; exact ⟨a, b, d⟩
      · rintro ⟨a, b, d⟩; exact ⟨a, b, d, Or.inl rfl⟩)
    have : FS M (wW M p 1) C (oi (gR X 10 (2 * p) 3)) := by
      rcases hn with ⟨h1, h2⟩ | ⟨r, r1, r2, r3, r4, r5⟩
      · rw [wI_1] at h1
        rw [h1]
        exact Or.inl ⟨rfl, h2⟩
      · rw [wI_1] at r2
        rw [r2]
        refine Or.inr ⟨r, r1, rfl, r4, fun c hc hs => ?_⟩
        rcases r5 c hc hs with e | e
        · exact Or.inl e
        · right
          have z : ∀ c, rk M p 1 c = 0 := fun c => by unfold rk; rw [if_neg (by omega)]
          unfold lx at e
          rw [z, z] at e
          unfold er; omega
    rw [eM, FS_un f2 this]
  · have s1 : gI M 68 0 p = 1 := by omega
    have s7 : gI M 73 0 p = 1 ∨ gI M 73 0 p = 2 := by omega
    have hP2 : 2 ≤ P := by omega
    -- where the round begins
    obtain ⟨q0, hq0, hq1, hq2⟩ : ∃ q0 : Nat, (q0 : Int) = (if gI M 73 0 p = 2 then tn M p else 0) ∧ q0 < P ∧ fX11_upOf nf M 0 p = fX11_upOf_L61 0 p nf nf M (q0 : Int) 0 := by
      have tb : 0 ≤ tn M p ∧ tn M p < P := by unfold tn; split <;> omega
      refine ⟨(if gI M 73 0 p = 2 then tn M p else 0).toNat, ?_, ?_, ?_⟩
      · split <;> omega
      · split <;> omega
      · unfold fX11_upOf
        simp only [nm_eq, up_eq, cl_some, ob_some, oe_some, oe_none, ob_none, hM.2 2 rfl, hM.2 7 rfl, hM.2 11 rfl, g_t gp, Int.toNat_natCast]
        rw [if_neg (show ¬ gI M 68 0 p = 2 by omega), if_neg (show ¬ gI M 73 0 p = 0 by omega)]
        by_cases s2 : gI M 73 0 p = 2
        · rw [if_pos s2, if_pos s2]
          unfold tn
          by_cases t9 : gI M 77 0 p = -9
          · rw [if_pos t9, if_pos t9]; rfl
          · rw [if_neg t9, if_neg t9]
            rw [show ((gI M 77 0 p).toNat : Int) = gI M 77 0 p by omega]
        · rw [if_neg s2, if_neg s2]; rfl
    have rke : ∀ c, rk M p 1 c = if gI M 87 0 c ≤ q0 ∧ gI M 73 0 p = 2 then gI M 87 0 c + 16 else gI M 87 0 c := fun c => by
      unfold rk
      rw [if_pos (show ((1 : Int) = 1 ∧ gI M 68 0 p = 1 ∧ gI M 73 0 p ≠ 0) from ⟨rfl, s1, by omega⟩), hq0]
      by_cases s2 : gI M 73 0 p = 2
      · rw [if_pos s2]
        by_cases l : gI M 87 0 c ≤ tn M p
        · rw [if_pos ⟨s2, l⟩, if_pos ⟨l, s2⟩]
        · rw [if_neg (fun q => l q.2), if_neg (fun q => l q.1)]
      · rw [if_neg (fun q => s2 q.1), if_neg (fun q => s2 q.2)]
    have kid : ∀ c, c < C → wW M p 1 c → 0 < gI M 87 0 c ∧ gI M 87 0 c < P ∧ gI M 67 0 (gI M 87 0 c).toNat = p := fun c hc hw => by
      have w := (wu c).1 hw
      have d9 := (hC c hc).2.2.2.2.2.2.2.2.1
      rw [w.2.1, Int.toNat_natCast] at d9
      exact (d9 ⟨w.1, w.2.2, s1⟩).2
    -- no one came from a child: the model finds none there
    have emp : ∀ q : Nat, (∀ c, c < C → wW M p 1 c → gI M 87 0 c ≠ q) → gq nf M p q = -9 := fun q h => by
      by_cases e : gI M 67 0 q = p
      · rcases (gq_f hr hnf e).2 with ⟨h1, -⟩ | ⟨r, r1, r2, r3, -⟩
        · exact h1
        · exact absurd (by have := r3.2.2.2; omega) (h r r1 ((wu r).2 ⟨r3.1, r3.2.1, r3.2.2.1⟩))
      · unfold gq; rw [if_neg e]
    rw [hq2]
    rcases hn with ⟨h1, h2⟩ | ⟨r, r1, r2, r3, r4, r5⟩
    · rw [wI_1] at h1
      rw [h1]
      exact upNone hr hnf hP2 (fun q _ _ => emp q (fun c hc hw => absurd hw (h2 c hc))) P q0 0 nf (by omega) (by omega) hq1
    · rw [wI_1] at r2
      rw [r2]
      obtain ⟨k1, k2, k3⟩ := kid r r1 r4
      obtain ⟨g, eg⟩ : ∃ g : Nat, gI M 87 0 r = g := ⟨(gI M 87 0 r).toNat, by omega⟩
      rw [eg] at k1 k2 k3
      simp only [Int.toNat_natCast] at k3
      have w := (wu r).1 r4
      have hgr : gq nf M p g = r := by
        have : FS M (uS M p g) C (r : Int) := Or.inr ⟨r, r1, rfl, ⟨w.1, w.2.1, w.2.2, Or.inr eg⟩, fun c hc hs => by
          have hw := (wu c).2 ⟨hs.1, hs.2.1, hs.2.2.1⟩
          rcases r5 c hc hw with e | e
          · exact Or.inl e
          · right
            have ec : gI M 87 0 c = g := by have := hs.2.2.2; omega
            unfold lx at e
            rw [rke, rke, eg, ec] at e
            unfold er; omega⟩
        exact FS_un (gq_f hr hnf k3).2 this
      have h9 : gq nf M p g ≠ -9 := by rw [hgr]; omega
      -- who came from elsewhere is behind
      have beh : ∀ c, c < C → wW M p 1 c → (if (g : Int) ≤ q0 ∧ gI M 73 0 p = 2 then (g : Int) + 16 else g) ≤ (if gI M 87 0 c ≤ q0 ∧ gI M 73 0 p = 2 then gI M 87 0 c + 16 else gI M 87 0 c) := fun c hc hw => by
        rcases r5 c hc hw with e | e
        · subst e; rw [eg]; exact Int.le_refl _
        · unfold lx at e
          rw [rke, rke, eg] at e
          omega
      have q0z : gI M 73 0 p = 1 → q0 = 0 := fun h => by
        rw [if_neg (by omega)] at hq0
        omega
      show fX11_upOf_L61 0 p nf nf M (q0 : Int) 0 = some ((r : Int), M)
      rw [← hgr]
      by_cases lt : q0 < g
      · refine upS hr hnf (by omega) h9 (g - q0 - 1) q0 0 nf (by omega) (by omega) (by omega) (fun q' h1 h2 => emp q' fun c hc hw hq => ?_)
        have b := beh c hc hw
        rw [if_neg (by omega), if_neg (by omega)] at b
        omega
      · have s2 : gI M 73 0 p = 2 := by
          rcases s7 with s | s
          · have := q0z s; omega
          · exact s
        refine upW hr hnf (by omega) (by omega) h9 (fun q' h1 h2 => emp q' fun c hc hw hq => ?_) (P - 1 - q0) q0 0 nf (by omega) (by omega) (by omega) (fun q' h1 h2 => emp q' fun c hc hw hq => ?_)
        · have b := beh c hc hw
          rw [if_pos ⟨by omega, s2⟩, if_pos ⟨by omega, s2⟩] at b
          omega
        · have b := beh c hc hw
          rw [if_pos ⟨by omega, s2⟩, if_neg (by omega)] at b
          omega
end UO
