/-! ===== children ===== -/
theorem ox_eq {z : Int} {a : Nat} : (ox z = some a) = (z = a) := by
  unfold ox
  by_cases c : z < 0
  · rw [if_pos c]
    exact propext ⟨fun h => (by cases h), fun h => (by omega)⟩
  · rw [if_neg c]
    exact propext ⟨fun h => by have := Option.some.inj h; omega, fun h => by rw [h, Int.toNat_natCast]⟩
/-- a reference as a number -/
def oi (o : Option Nat) : Int := o.elim (-9) fun r => (r : Int)
theorem ox_oi (o : Option Nat) : ox (oi o) = o := by
  cases o with
  | none => rfl
  | some r => rw [ox_eq]; rfl
/-- the posts as the class holds them -/
def PX (P : Nat) (M Y : zS) : Prop := gI Y 0 0 10 = P ∧ gR Y 0 0 0 = some 0 ∧ ∀ i, i < P → gR Y 11 0 i = some i ∧ gI Y 8 i 0 = i ∧ gR Y 8 i 1 = ox (gI M 67 0 i)
def PM (P : Nat) (M N : zS) : Prop := gI N 64 0 0 = P ∧ gR N 64 0 1 = some 0 ∧ ∀ i, gI N 67 0 i = gI M 67 0 i
/-- the child behind x, round -/
def CB (P : Nat) (M : zS) (a x : Nat) (res : Option Nat) : Prop := (∃ r, res = some r ∧ 0 < r ∧ r < P ∧ gI M 67 0 r = a ∧ ((x < r ∧ ∀ q, x < q → q < r → gI M 67 0 q ≠ a) ∨ (r ≤ x ∧ (∀ q, x < q → q < P → gI M 67 0 q ≠ a) ∧ ∀ q, 0 < q → q < r → gI M 67 0 q ≠ a))) ∨ (res = none ∧ ∀ q, 0 < q → q < P → gI M 67 0 q ≠ a)
section KD
variable {P C K : Nat} {D : Int} {X M Y N : zS}
theorem PX.of (hr : RR P C K D X M) : PX P M X := ⟨hr.1.2.2.2.2.1.1, hr.1.1.2.1 0 (by decide), fun i hi => ⟨(hr.2.2.2.2.1 i hi).1.1, (hr.2.2.2.2.1 i hi).1.2.1, (hr.2.2.2.2.1 i hi).1.2.2.2.2.2.2⟩⟩
theorem PM.of (hr : RR P C K D X M) : PM P M M := ⟨hr.1.2.2.2.1.1, hr.1.2.1.2 1 rfl, fun _ => rfl⟩
theorem rcX' (hr : RR P C K D X M) (hp : PX P M Y) {a : Nat} : ∀ n b, b < P → b < n → below M 16 b a = true → ¬ b = a → ∃ r, fX10_rightChild_L2 (some a) n Y (some b) = some (some r, Y) ∧ (0 < r ∧ r < P) ∧ gI M 67 0 r = a ∧ below M 16 b r = true
  | 0, _, _, h, _, _ => by omega
  | n + 1, b, hb, hn, h, e => by
    have h0 : 0 < b := by
      rcases Nat.eq_zero_or_pos b with q | q
      · subst q; rw [below_0] at h; exact absurd (by simpa using h) e
      · exact q
    have u := upN_lt hr h0 hb
    have eu : gR Y 8 b 1 = some (upN M b) := by rw [(hp.2.2 b hb).2.2, u.2, ox_eq]
    unfold fX10_rightChild_L2
    simp only [nm_eq, up_eq, cl_some, ob_some, oe_some, oe_none, ob_none, eu]
    by_cases c : upN M b = a
    · rw [if_pos (by rw [c])]
      exact ⟨b, rfl, ⟨h0, hb⟩, by rw [u.2, c], below_rf M 16 b⟩
    · rw [if_neg (fun q => c (Option.some.inj q))]
      rw [below_16 hr h0 hb e] at h
      obtain ⟨r, f1, f2, f3, f4⟩ := rcX' hr hp n (upN M b) (by omega) (by omega) h c
      have ne : ¬ b = r := by
        intro q
        rw [← q, below_lt hr 16 (upN M b) (by omega) u.1] at f4
        cases f4
      exact ⟨r, f1, f2, f3, by rw [below_16 hr h0 hb ne]; exact f4⟩
theorem rcX0 (hr : RR P C K D X M) (hp : PX P M Y) {a : Nat} : ∀ n b, b < P → b + 1 < n → below M 16 b a = false → fX10_rightChild_L2 (some a) n Y (some b) = some (none, Y)
  | 0, _, _, h, _ => by omega
  | n + 1, b, hb, hn, h => by
    have e : ¬ b = a := by
      intro q; rw [q, below_rf] at h; cases h
    unfold fX10_rightChild_L2
    rw [oe_some, nm_eq, (hp.2.2 b hb).2.2]
    rcases Nat.eq_zero_or_pos b with h0 | h0
    · subst h0
      rw [((hr.2.2.2.2.1 0 hb).2.1 rfl).1, if_neg (show ¬ ox (-9) = some a from fun q => by cases q), nm_eq]
      obtain ⟨n, rfl⟩ : ∃ j, n = j + 1 := ⟨n - 1, by omega⟩
      unfold fX10_rightChild_L2
      exact oe_none _ _
    · have u := upN_lt hr h0 hb
      have eu : ox (gI M 67 0 b) = some (upN M b) := by rw [u.2, ox_eq]
      have c : ¬ upN M b = a := by
        intro q
        rw [below_16 hr h0 hb e, q, below_rf] at h; cases h
      rw [eu, if_neg (fun q => c (Option.some.inj q)), nm_eq]
      rw [below_16 hr h0 hb e] at h
      exact rcX0 hr hp n (upN M b) (by omega) (by omega) h
theorem cbL (hp : PX P M Y) (h16 : P ≤ 16) (a x : Nat) : ∀ (m n i : Nat) (r3 : Option Nat), i + m = P → m < n → 0 < i → (∀ q, x < q → q < i → gI M 67 0 q ≠ a) → ((r3 = none ∧ ∀ q, 0 < q → q < i → gI M 67 0 q ≠ a) ∨ ∃ r, r3 = some r ∧ 0 < r ∧ r < i ∧ r ≤ x ∧ gI M 67 0 r = a ∧ ∀ q, 0 < q → q < r → gI M 67 0 q ≠ a) → ∃ res, fX10_childBehind_L5 0 (some a) (x : Int) n Y r3 (i : Int) = some (res, Y) ∧ CB P M a x res
  | 0, n + 1, i, r3, hi, _, h0, h1, h2 => by
    have : i = P := by omega
    subst this
    refine ⟨r3, ?_, ?_⟩
    · unfold fX10_childBehind_L5
      rw [if_neg (by rw [hp.1]; omega)]
    · rcases h2 with h2 | ⟨r, r1, r2, r3, r4, r5, r6⟩
      · exact Or.inr h2
      · exact Or.inl ⟨r, r1, r2, r3, r5, Or.inr ⟨r4, h1, r6⟩⟩
  | m + 1, n + 1, i, r3, hi, hn, h0, h1, h2 => by
    have g : (0 : Int) ≤ (i : Int) ∧ (i : Int) < 16 := by omega
    obtain ⟨p1, p2, p3⟩ := hp.2.2 i (by omega)
    have eX : fX10_childBehind_L5 0 (some a) (x : Int) (n + 1) Y r3 (i : Int) = if gI M 67 0 i = a then (if x < i then some (some i, Y) else fX10_childBehind_L5 0 (some a) (x : Int) n Y (Option.elim r3 (some i) fun r => some r) ((i + 1 : Nat) : Int)) else fX10_childBehind_L5 0 (some a) (x : Int) n Y r3 ((i + 1 : Nat) : Int) := by
      conv => lhs; unfold fX10_childBehind_L5
      rw [if_pos (by rw [hp.1]; omega)]
      simp only [nm_eq, up_eq, cl_some, ob_some, oe_some, oe_none, ob_none, hp.2.1, g_t g, Int.toNat_natCast, p1, p2, p3, ox_eq, nat_wr i (by omega)]
      by_cases c : gI M 67 0 i = a
      · rw [if_pos c, if_pos c]
        by_cases d : x < i
        · rw [if_pos d, if_pos (by omega)]
        · rw [if_neg d, if_neg (by omega)]
          cases r3 <;> rfl
      · rw [if_neg c, if_neg c]
    rw [eX]
    by_cases c : gI M 67 0 i = a
    · rw [if_pos c]
      by_cases d : x < i
      · rw [if_pos d]
        exact ⟨_, rfl, Or.inl ⟨i, rfl, h0, by omega, c, Or.inl ⟨d, h1⟩⟩⟩
      · rw [if_neg d]
        refine cbL hp h16 a x m n (i + 1) _ (by omega) (by omega) (by omega) (fun q q1 q2 => h1 q q1 (by omega)) (Or.inr ?_)
        rcases h2 with ⟨h2, h3⟩ | ⟨r, r1, r2, r3, r4, r5, r6⟩
        · subst h2
          exact ⟨i, rfl, h0, by omega, by omega, c, h3⟩
        · subst r1
          exact ⟨r, rfl, r2, by omega, r4, r5, r6⟩
    · rw [if_neg c]
      refine cbL hp h16 a x m n (i + 1) _ (by omega) (by omega) (by omega) (fun q q1 q2 => ?_) ?_
      · by_cases e : q = i
        · subst e; exact c
        · exact h1 q q1 (by omega)
      · rcases h2 with ⟨h2, h3⟩ | ⟨r, r1, r2, r3, r4⟩
        · refine Or.inl ⟨h2, fun q q1 q2 => ?_⟩
          by_cases e : q = i
          · subst e; exact c
          · exact h3 q q1 (by omega)
        · exact Or.inr ⟨r, r1, r2, by omega, r4⟩
theorem cb_eq (hr : RR P C K D X M) (hp : PX P M Y) {nf : Nat} (hnf : 1000 ≤ nf) (a x : Nat) : ∃ res, fX10_childBehind nf Y 0 (some a) (x : Int) = some (res, Y) ∧ CB P M a x res := by
  have h16 := hr.1.2.2.1
  exact cbL hp (by omega) a x (P - 1) nf 1 none (by omega) (by omega) (by omega) (fun q _ _ => by omega) (Or.inl ⟨rfl, fun q _ _ => by omega⟩)
/-! the model's side -/
theorem liesL' (hr : RR P C K D X M) (hp : PM P M N) (κ : zS → Int → Option (Int × zS)) {p : Nat} : ∀ (f n q : Nat), q < P → q + 2 ≤ f → q ≤ n → fX11_liesBelow_L2 κ 0 p f N q = κ N (if below M n q p = true then p else -9)
  | 0, _, _, _, h, _ => by omega
  | f + 1, n, q, hq, hf, hn => by
    have h16 := hr.1.2.2.1
    unfold fX11_liesBelow_L2
    by_cases e : q = p
    · subst e
      rw [if_pos rfl, below_rf, if_pos rfl]
    · rw [if_neg (by omega), if_neg (by omega)]
      simp only [nm_eq, up_eq, cl_some, ob_some, oe_some, oe_none, ob_none, hp.2.1, hp.2.2, g_t (show (0 : Int) ≤ (q : Int) ∧ (q : Int) < 16 by omega), Int.toNat_natCast]
      by_cases h0 : q = 0
      · subst h0
        rw [((hr.2.2.2.2.1 0 hq).2.1 rfl).1, below_0, if_neg (by simp; omega)]
        obtain ⟨f, rfl⟩ : ∃ g, f = g + 1 := ⟨f - 1, by omega⟩
        unfold fX11_liesBelow_L2
        rw [if_neg (by omega), if_pos rfl]
      · obtain ⟨r, r1, r2, -⟩ := par hr (by omega) hq
        obtain ⟨n, rfl⟩ : ∃ m, n = m + 1 := ⟨n - 1, by omega⟩
        rw [r2, liesL' hr hp κ f n r (by omega) (by omega) (by omega)]
        have : below M (n + 1) q p = below M n r p := by
          conv => lhs; unfold below
          rw [r2]
          simp [e, show 0 < q by omega]
        rw [this]
theorem lies' (hr : RR P C K D X M) (hp : PM P M N) {nf p q : Nat} (hnf : 1000 ≤ nf) (hq : q < P) : fX11_liesBelow nf N 0 q p = some ((if below M 16 q p = true then 1 else 0), N) := by
  have h16 := hr.1.2.2.1
  unfold fX11_liesBelow
  rw [liesL' hr hp _ nf 16 q hq (by omega) (by omega)]
  by_cases e : below M 16 q p = true
  · rw [if_pos e, if_pos rfl, if_pos e]
  · rw [if_neg e, if_neg (by omega), if_neg e]
theorem rcStep (hr : RR P C K D X M) (hp : PM P M N) {nf a b : Nat} (hnf : 1000 ≤ nf) (hb : b < P) (x n : Nat) (y : Int) (hx : x + 1 < P) : fX11_rightChild_L11 0 (a : Int) (b : Int) nf (n + 1) N y ((x + 1 : Nat) : Int) = if gI M 67 0 (x + 1) = a then (if below M 16 b (x + 1) = true then some (((x + 1 : Nat) : Int), N) else fX11_rightChild_L11 0 (a : Int) (b : Int) nf n N ((x + 1 : Nat) : Int) (x : Int)) else fX11_rightChild_L11 0 (a : Int) (b : Int) nf n N y (x : Int) := by
  have h16 := hr.1.2.2.1
  have g : (0 : Int) ≤ ((x + 1 : Nat) : Int) ∧ ((x + 1 : Nat) : Int) < 16 := by omega
  have w : wr (((x + 1 : Nat) : Int) + -1) = (x : Int) := ((wrd ((x + 1 : Nat) : Int) (by omega) (by omega)).1).trans (by omega)
  conv => lhs; unfold fX11_rightChild_L11
  rw [if_pos (by clear w; omega)]
  simp only [nm_eq, up_eq, cl_some, ob_some, oe_some, oe_none, ob_none, hp.2.1, hp.2.2, g_t g, Int.toNat_natCast, lies' hr hp hnf hb, w]
  clear w
  by_cases c : gI M 67 0 (x + 1) = a
  · rw [if_pos c, if_pos c]
    by_cases e : below M 16 b (x + 1) = true
    · rw [if_pos e, if_pos e, if_neg (by decide)]
    · rw [if_neg e, if_neg e, if_pos rfl]
  · rw [if_neg c, if_neg c]
theorem rcM' (hr : RR P C K D X M) (hp : PM P M N) {nf a b r : Nat} (hnf : 1000 ≤ nf) (hb : b < P) (hr0 : 0 < r) (hrP : r < P) (h67 : gI M 67 0 r = a) (hbr : below M 16 b r = true) : ∀ (x n : Nat) (y : Int), r ≤ x → x < P → x < n → fX11_rightChild_L11 0 (a : Int) (b : Int) nf n N y (x : Int) = some ((r : Int), N)
  | 0, _, _, h, _, _ => by omega
  | x + 1, 0, _, _, _, h => by omega
  | x + 1, n + 1, y, hx, hxP, hn => by
    rw [rcStep hr hp hnf hb x n y hxP]
    by_cases e : x + 1 = r
    · subst e
      rw [if_pos h67, if_pos hbr]
    · have go := fun y => rcM' hr hp hnf hb hr0 hrP h67 hbr x n y (by omega) (by omega) (by omega)
      by_cases c : gI M 67 0 (x + 1) = a
      · have nb : ¬ below M 16 b (x + 1) = true := by
          intro q
          have l := below_lin hr (x := x + 1) (r := r) (by omega) b hb q hbr
          rw [below_16 hr (by omega) hxP e] at l
          have u := upN_lt hr (q := x + 1) (by omega) hxP
          have ur := upN_lt hr hr0 hrP
          rw [below_lt hr 16 (upN M (x + 1)) (by omega) (by omega)] at l
          cases l
        rw [if_pos c, if_neg nb]
        exact go _
      · rw [if_neg c]
        exact go _
/-- no child holds the home: the least one -/
theorem rcMn (hr : RR P C K D X M) (hp : PM P M N) {nf a b : Nat} (hnf : 1000 ≤ nf) (hb : b < P) : ∀ (x n : Nat) (y : Int), x < P → x < n → (∀ q, 0 < q → q ≤ x → gI M 67 0 q ≠ a) → fX11_rightChild_L11 0 (a : Int) (b : Int) nf n N y (x : Int) = some (y, N)
  | 0, 0, _, _, h, _ => by omega
  | 0, n + 1, y, hx, hn, hc => by
    unfold fX11_rightChild_L11
    rw [if_neg (by omega)]
  | x + 1, 0, _, _, h, _ => by omega
  | x + 1, n + 1, y, hx, hn, hc => by
    rw [rcStep hr hp hnf hb x n y hx, if_neg (hc (x + 1) (by omega) (by omega))]
    exact rcMn hr hp hnf hb x n y (by omega) (by omega) (fun q h1 h2 => hc q h1 (by omega))
theorem rcMl (hr : RR P C K D X M) (hp : PM P M N) {nf a b r : Nat} (hnf : 1000 ≤ nf) (hb : b < P) (hr0 : 0 < r) (h67 : gI M 67 0 r = a) (hl : ∀ q, 0 < q → q < r → gI M 67 0 q ≠ a) (hn : ∀ q, 0 < q → q < P → gI M 67 0 q = a → below M 16 b q = false) : ∀ (x n : Nat) (y : Int), r ≤ x → x < P → x < n → fX11_rightChild_L11 0 (a : Int) (b : Int) nf n N y (x : Int) = some ((r : Int), N)
  | 0, _, _, h, _, _ => by omega
  | x + 1, 0, _, _, _, h => by omega
  | x + 1, n + 1, y, hx, hxP, hf => by
    rw [rcStep hr hp hnf hb x n y hxP]
    by_cases c : gI M 67 0 (x + 1) = a
    · rw [if_pos c, if_neg (by rw [hn (x + 1) (by omega) hxP c]; decide)]
      by_cases e : x + 1 = r
      · subst e
        exact rcMn hr hp hnf hb x n _ (by omega) (by omega) (fun q h1 h2 => hl q h1 (by omega))
      · exact rcMl hr hp hnf hb hr0 h67 hl hn x n _ (by omega) (by omega) (by omega)
    · rw [if_neg c]
      have e : x + 1 ≠ r := by
        rintro rfl; exact c h67
      exact rcMl hr hp hnf hb hr0 h67 hl hn x n _ (by omega) (by omega) (by omega)
theorem below_kid (hr : RR P C K D X M) {a q : Nat} (hq0 : 0 < q) (hqP : q < P) (h67 : gI M 67 0 q = a) : ∀ b, b < P → below M 16 b q = true → below M 16 b a = true := by
  have u := upN_lt hr hq0 hqP
  intro b
  induction b using Nat.strongRecOn with
  | _ b ih =>
    intro hb h
    by_cases e : b = q
    · subst e
      rw [below_16 hr hq0 hqP (by omega), show upN M b = a by omega, below_rf]
    · have h0 : 0 < b := by
        rcases Nat.eq_zero_or_pos b with z | z
        · subst z; rw [below_0] at h; exact absurd (by simpa using h) e
        · exact z
      have ub := upN_lt hr h0 hb
      by_cases e2 : b = a
      · subst e2; exact below_rf M 16 b
      · rw [below_16 hr h0 hb e] at h
        rw [below_16 hr h0 hb e2]
        exact ih (upN M b) ub.1 (by omega) h
/-- the right child, on both sides -/
theorem right_both (hr : RR P C K D X M) (hx : PX P M Y) (hm : PM P M N) {nf a b : Nat} (hnf : 1000 ≤ nf) (hb : b < P) (e : ¬ b = a) : ∃ x to : Option Nat, fX10_rightChild nf Y (some b) (some a) = some (x, Y) ∧ (∀ r, x = some r → to = some r) ∧ (x = none → fX10_childBehind nf Y 0 (some a) 0 = some (to, Y)) ∧ fX11_rightChild nf N 0 a b = some (oi to, N) ∧ (∀ r, to = some r → 0 < r ∧ r < P ∧ gI M 67 0 r = a) ∧ (below M 16 b a = true → x = to) := by
  have h16 := hr.1.2.2.1
  have w : wr ((P : Int) - 1) = ((P - 1 : Nat) : Int) := ((wrd (P : Int) (by omega) (by omega)).2).trans (by omega)
  have eM : fX11_rightChild nf N 0 a b = fX11_rightChild_L11 0 (a : Int) (b : Int) nf nf N (-9) ((P - 1 : Nat) : Int) := by
    unfold fX11_rightChild
    rw [hm.1, nm_eq, w]
  clear w
  cases h : below M 16 b a
  · have f := rcX0 hr hx nf b hb (by omega) h
    obtain ⟨res, c1, c2⟩ := cb_eq hr hx hnf a 0
    refine ⟨none, res, f, fun r q => (by cases q), fun _ => c1, ?_, ?_, fun q => (by cases q)⟩
    · rw [eM]
      rcases c2 with ⟨r, r1, r2, r3, r4, r5⟩ | ⟨r1, r2⟩
      · subst r1
        have hl : ∀ q, 0 < q → q < r → gI M 67 0 q ≠ a := by
          rcases r5 with r5 | r5
          · exact r5.2
          · omega
        refine rcMl hr hm hnf hb r2 r4 hl (fun q q1 q2 q3 => ?_) (P - 1) nf _ (by omega) (by omega) (by omega)
        cases z : below M 16 b q
        · rfl
        · rw [below_kid hr q1 q2 q3 b hb z] at h; cases h
      · subst r1
        exact rcMn hr hm hnf hb (P - 1) nf _ (by omega) (by omega) (fun q h1 h2 => r2 q h1 (by omega))
    · intro r q
      subst q
      rcases c2 with ⟨r', r1, r2, r3, r4, -⟩ | ⟨r1, -⟩
      · cases r1; exact ⟨r2, r3, r4⟩
      · cases r1
  · obtain ⟨r, f1, f2, f3, f4⟩ := rcX' hr hx nf b hb (by omega) h e
    refine ⟨some r, some r, f1, fun _ q => q, fun q => (by cases q), ?_, fun r' q => ?_, fun _ => rfl⟩
    · rw [eM]
      exact rcM' hr hm hnf hb f2.1 f2.2 f3 f4 (P - 1) nf _ (by omega) (by omega) (by omega)
    · cases q; exact ⟨f2.1, f2.2, f3⟩
/-! the next child -/
theorem ncStep (hm : PM P M N) (h16 : 2 ≤ P ∧ P ≤ 16) {a : Nat} (z : Int) (q i n : Nat) (hq : q < P) (hi : i < P) : fX11_nextChild_L5 0 (a : Int) z (n + 1) N (q : Int) (i : Int) = if gI M 67 0 (if q + 1 < P then q + 1 else 1) = a then some (((if q + 1 < P then q + 1 else 1 : Nat) : Int), N) else fX11_nextChild_L5 0 (a : Int) z n N ((if q + 1 < P then q + 1 else 1 : Nat) : Int) ((i + 1 : Nat) : Int) := by
  have g : (0 : Int) ≤ ((q + 1 : Nat) : Int) ∧ ((q + 1 : Nat) : Int) < 17 := by omega
  conv => lhs; unfold fX11_nextChild_L5
  rw [if_pos (by rw [hm.1]; omega)]
  simp only [nm_eq, nat_wr q (by omega), nat_wr i (by omega), hm.1]
  by_cases c : q + 1 < P
  · have g : (0 : Int) ≤ ((q + 1 : Nat) : Int) ∧ ((q + 1 : Nat) : Int) < 16 := by omega
    rw [if_pos (by omega), if_pos c]
    simp only [nm_eq, up_eq, cl_some, ob_some, oe_some, oe_none, ob_none, hm.2.1, hm.2.2, g_t g, Int.toNat_natCast]
  · have g : (0 : Int) ≤ (1 : Int) ∧ (1 : Int) < 16 := by omega
    have t1 : Int.toNat 1 = 1 := rfl
    rw [if_neg (by omega), if_neg c]
    simp only [nm_eq, up_eq, cl_some, ob_some, oe_some, oe_none, ob_none, hm.2.1, hm.2.2, g_t g, t1]
    rfl
theorem ncS (hm : PM P M N) (h16 : 2 ≤ P ∧ P ≤ 16) {a r : Nat} (z : Int) (hrP : r < P) (h67 : gI M 67 0 r = a) : ∀ (d q i n : Nat), q + 1 + d = r → i + d < P → d < n → (∀ q', q < q' → q' < r → gI M 67 0 q' ≠ a) → fX11_nextChild_L5 0 (a : Int) z n N (q : Int) (i : Int) = some ((r : Int), N)
  | _, _, _, 0, _, _, h, _ => by omega
  | 0, q, i, n + 1, hq, hi, _, hc => by
    rw [ncStep hm h16 z q i n (by omega) (by omega), if_pos (show q + 1 < P by omega), show q + 1 = r by omega, if_pos h67]
  | d + 1, q, i, n + 1, hq, hi, hn, hc => by
    rw [ncStep hm h16 z q i n (by omega) (by omega), if_pos (show q + 1 < P by omega), if_neg (hc (q + 1) (by omega) (by omega))]
    exact ncS hm h16 z hrP h67 d (q + 1) (i + 1) n (by omega) (by omega) (by omega) (fun q' h1 h2 => hc q' (by omega) h2)
theorem ncW (hm : PM P M N) (h16 : 2 ≤ P ∧ P ≤ 16) {a r : Nat} (z : Int) (hr0 : 0 < r) (hrP : r < P) (h67 : gI M 67 0 r = a) (hl : ∀ q, 0 < q → q < r → gI M 67 0 q ≠ a) : ∀ (e q i n : Nat), q + 1 + e = P → i + e + r ≤ P → e + r < n → (∀ q', q < q' → q' < P → gI M 67 0 q' ≠ a) → fX11_nextChild_L5 0 (a : Int) z n N (q : Int) (i : Int) = some ((r : Int), N)
  | _, _, _, 0, _, _, h, _ => by omega
  | 0, q, i, n + 1, hq, hi, hn, hc => by
    have s0 := ncS hm h16 z hrP h67 (r - 1) 0 i (n + 1) (by omega) (by omega) (by omega) (fun q' h1 h2 => hl q' h1 h2)
    rw [ncStep hm h16 z 0 i n (by omega) (by omega), if_pos (show 0 + 1 < P by omega)] at s0
    rw [ncStep hm h16 z q i n (by omega) (by omega), if_neg (show ¬ q + 1 < P by omega)]
    exact s0
  | e + 1, q, i, n + 1, hq, hi, hn, hc => by
    rw [ncStep hm h16 z q i n (by omega) (by omega), if_pos (show q + 1 < P by omega), if_neg (hc (q + 1) (by omega) (by omega))]
    exact ncW hm h16 z hr0 hrP h67 hl e (q + 1) (i + 1) n (by omega) (by omega) (by omega) (fun q' h1 h2 => hc q' (by omega) h2)
theorem next_both (hr : RR P C K D X M) (hx : PX P M Y) (hm : PM P M N) {nf a x : Nat} (hnf : 1000 ≤ nf) (h0 : 0 < x) (hxP : x < P) (h67 : gI M 67 0 x = a) : ∃ r : Nat, fX10_childBehind nf Y 0 (some a) (x : Int) = some (some r, Y) ∧ fX11_nextChild nf N 0 a x = some ((r : Int), N) ∧ 0 < r ∧ r < P ∧ gI M 67 0 r = a := by
  have h16 := hr.1.2.2.1
  obtain ⟨res, c1, c2⟩ := cb_eq hr hx hnf a x
  rcases c2 with ⟨r, r1, r2, r3, r4, r5⟩ | ⟨r1, r2⟩
  · subst r1
    refine ⟨r, c1, ?_, r2, r3, r4⟩
    unfold fX11_nextChild
    rcases r5 with ⟨r5, r6⟩ | ⟨r5, r6, r7⟩
    · exact ncS hm (by omega) _ r3 r4 (r - x - 1) x 0 nf (by omega) (by omega) (by omega) r6
    · exact ncW hm (by omega) _ r2 r3 r4 r7 (P - 1 - x) x 0 nf (by omega) (by omega) (by omega) r6
  · exact absurd h67 (r2 x h0 hxP)
end KD
