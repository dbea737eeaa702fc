/-! ===== frames: which slots each part of the relation reads ===== -/
def dX (t k : Nat) : Bool := (t == 0 && Nat.blt k 10) || (t == 1 && Nat.blt k 2) || t == 2 || t == 4 || (t == 6 && Nat.blt k 3) || (t == 7 && k != 2 && k != 4 && k != 9) || t == 28
def dM (t k : Nat) : Bool := t == 64 && marr k
def dNX (t k : Nat) : Bool := t == 0 && (k == 10 || k == 11 || k == 12)
def dNM (t k : Nat) : Bool := t == 64 && (k == 0 || k == 14 || k == 34)
def dSX (t k : Nat) : Bool := t == 0 && (k == 13 || k == 14 || k == 15 || k == 16)
def dSM (t k : Nat) : Bool := (t == 64 && (k == 13 || k == 38 || k == 27 || k == 28)) || t == 92
def dFX (t k : Nat) : Bool := (t == 6 && k == 3) || t == 17 || t == 18 || t == 19
def dFM (t k : Nat) : Bool := (t == 64 && k == 39) || t == 106 || t == 107 || t == 108
def dBX (t k : Nat) : Bool := (t == 1 && (k == 2 || k == 3)) || t == 20 || t == 21
def dBM (t k : Nat) : Bool := (t == 64 && (k == 47 || k == 48)) || t == 115 || t == 116
def dPX (t k : Nat) : Bool := t == 11 || t == 8 || (t == 10 && k == 0) || t == 9
def dPM (t _ : Nat) : Bool := t == 67 || t == 68 || t == 69 || t == 70 || t == 71 || t == 72 || t == 73 || t == 74 || t == 75 || t == 76 || t == 77 || t == 78 || t == 95 || t == 96 || t == 97 || t == 98 || t == 99
def dLX (t _ : Nat) : Bool := t == 16
def dLM (t _ : Nat) : Bool := t == 124 || t == 67 || t == 68
def dKX (t k : Nat) : Bool := t == 13 || t == 3 || (t == 5 && k == 8)
def dKM (t _ : Nat) : Bool := t == 101 || t == 102 || t == 103 || t == 82
def dCX (t _ : Nat) : Bool := t == 12 || t == 5 || t == 4
def dCM (t _ : Nat) : Bool := t == 81 || t == 82 || t == 83 || t == 84 || t == 85 || t == 86 || t == 87 || t == 88 || t == 89 || t == 90 || t == 91 || t == 109 || t == 67 || t == 68 || t == 69 || t == 102
def dDM (t _ : Nat) : Bool := t == 95 || t == 75 || t == 92
section FR
variable {P C K : Nat} {D : Int} {X M X' M' : zS}
theorem RX.cg (h : RX X) (n : gN X' 0 = gN X 0) (e : eqS dX X' X) : RX X' := by
  obtain ⟨h1, h2, h3, h4, h5, h6, h7, h8⟩ := h
  refine ⟨n.trans h1, fun k hk => ?_, ?_, ?_, ?_, ?_, ?_, fun k hk => ?_⟩
  · rw [(e 0 k (by unfold dX; simp [Nat.blt]; omega)).2]; exact h2 k hk
  · rw [(e 1 0 rfl).2, (e 1 1 rfl).2]; exact h3
  · rw [(e 2 0 rfl).2, (e 2 1 rfl).2]; exact h4
  · rw [(e 4 0 rfl).2]; exact h5
  · rw [(e 6 0 rfl).2, (e 6 1 rfl).2, (e 6 2 rfl).2]; exact h6
  · rw [(e 7 0 rfl).2, (e 7 1 rfl).2, (e 7 3 rfl).2, (e 7 5 rfl).2, (e 7 6 rfl).2, (e 7 7 rfl).2, (e 7 8 rfl).2]; exact h7
  · rw [(e 28 k (by unfold dX; simp)).1]; exact h8 k hk
theorem RM.cg (h : RM M) (n : gN M' 64 = gN M 64) (e : eqS dM M' M) : RM M' :=
  ⟨n.trans h.1, fun k hk => by rw [(e 64 k (by unfold dM; simp [hk])).2]; exact h.2 k hk⟩
theorem RN.cg (h : RN P C K X M) (n : ∀ t, gN X' t = gN X t) (e : eqS dNX X' X) (f : eqS dNM M' M) : RN P C K X' M' := by
  unfold RN at h ⊢
  rw [(f 64 0 rfl).1, (f 64 14 rfl).1, (f 64 34 rfl).1, (e 0 10 rfl).1, (e 0 11 rfl).1, (e 0 12 rfl).1, n, n, n, n, n, n, n, n]
  exact h
theorem RS.cg (h : RS X M) (e : eqS dSX X' X) (e15 : ∀ k, k < 6 → gI X' 15 0 k = gI X 15 0 k) (f : eqS dSM M' M) : RS X' M' := by
  unfold RS at h ⊢
  rw [(e 0 13 rfl).1, (e 0 14 rfl).1, (e 0 15 rfl).1, (e 0 16 rfl).1, (f 64 13 rfl).1, (f 64 38 rfl).1, (f 64 27 rfl).1, (f 64 28 rfl).1]
  refine ⟨h.1, h.2.1, h.2.2.1, h.2.2.2.1, fun k hk => ?_⟩
  rw [e15 k hk, (f 92 k (by unfold dSM; simp)).1]
  exact h.2.2.2.2 k hk
theorem RF.cg (h : RF X M) (e : eqS dFX X' X) (f : eqS dFM M' M) : RF X' M' := by
  unfold RF at h ⊢
  rw [(e 6 3 rfl).1, (f 64 39 rfl).1]
  refine ⟨h.1, h.2.1, h.2.2.1, fun j hj => ?_⟩
  rw [(e 17 j (by unfold dFX; simp)).1, (e 18 j (by unfold dFX; simp)).1, (e 19 j (by unfold dFX; simp)).1, (f 106 j (by unfold dFM; simp)).1, (f 107 j (by unfold dFM; simp)).1, (f 108 j (by unfold dFM; simp)).1]
  exact h.2.2.2 j hj
theorem RB.cg (h : RB X M) (e : eqS dBX X' X) (f : eqS dBM M' M) : RB X' M' := by
  unfold RB at h ⊢
  rw [(e 1 2 rfl).1, (e 1 3 rfl).1, (f 64 47 rfl).1, (f 64 48 rfl).1]
  refine ⟨h.1, h.2.1, h.2.2.1, fun j hj => ?_⟩
  rw [(e 20 j (by unfold dBX; simp)).1, (e 21 j (by unfold dBX; simp)).1, (f 115 j (by unfold dBM; simp)).1, (f 116 j (by unfold dBM; simp)).1]
  exact h.2.2.2 j hj
theorem RP.cg {p : Nat} (h : RP P X M p) (e : eqS dPX X' X) (f : eqS dPM M' M) : RP P X' M' p := by
  have e8 : ∀ k i, gI X' 8 i k = gI X 8 i k := fun k i => (e 8 k (by unfold dPX; simp)).1 i
  have r8 : ∀ k i, gR X' 8 i k = gR X 8 i k := fun k i => (e 8 k (by unfold dPX; simp)).2 i
  have e9 : ∀ k i, gI X' 9 i k = gI X 9 i k := fun k i => (e 9 k (by unfold dPX; simp)).1 i
  have r11 : ∀ k i, gR X' 11 i k = gR X 11 i k := fun k i => (e 11 k (by unfold dPX; simp)).2 i
  have e10 : ∀ i, gI X' 10 i 0 = gI X 10 i 0 := fun i => (e 10 0 rfl).1 i
  have fm : ∀ t, dPM t 0 = true → ∀ k, gI M' t 0 k = gI M t 0 k := fun t ht k => (f t k ht).1 0
  unfold RP at h ⊢
  rw [r11, e10, e10]
  simp only [e8, r8, e9, fm 67 rfl, fm 68 rfl, fm 69 rfl, fm 70 rfl, fm 71 rfl, fm 72 rfl, fm 73 rfl, fm 74 rfl, fm 75 rfl, fm 76 rfl, fm 77 rfl, fm 78 rfl, fm 95 rfl, fm 96 rfl, fm 97 rfl, fm 98 rfl, fm 99 rfl]
  exact h
theorem below_cg (e : ∀ k, gI M' 67 0 k = gI M 67 0 k) : ∀ n q p, below M' n q p = below M n q p
  | 0, q, p => rfl
  | n + 1, q, p => by
    unfold below
    rw [e, below_cg e n]
theorem ldS_cg (e : ∀ k, gI M' 67 0 k = gI M 67 0 k) (e2 : ∀ k, gI M' 124 0 k = gI M 124 0 k) (p h : Nat) : ∀ n, ldS M' p h n = ldS M p h n
  | 0 => rfl
  | n + 1 => by
    unfold ldS
    rw [ldS_cg e e2 p h n, below_cg e, e2]
theorem RLd.cg {p : Nat} (h : RLd P X M p) (e : eqS dLX X' X) (f : eqS dLM M' M) : RLd P X' M' p := by
  have f67 : ∀ k, gI M' 67 0 k = gI M 67 0 k := fun k => (f 67 k rfl).1 0
  have f124 : ∀ k, gI M' 124 0 k = gI M 124 0 k := fun k => (f 124 k rfl).1 0
  unfold RLd at h ⊢
  rw [(f 68 p rfl).1]
  refine ⟨fun k hk => ?_, fun hs k hk => ?_, fun k hk => ?_⟩
  · rw [f124]; exact h.1 k hk
  · rw [f124]; exact h.2.1 hs k hk
  · rw [(e 16 k rfl).1, ldS_cg f67 f124]; exact h.2.2 k hk
theorem RK.cg {k : Nat} (h : RK C X M k) (e : eqS dKX X' X) (f : eqS dKM M' M) : RK C X' M' k := by
  have fm : ∀ t, dKM t 0 = true → ∀ k, gI M' t 0 k = gI M t 0 k := fun t ht k => (f t k ht).1 0
  have e3 : ∀ k i, gI X' 3 i k = gI X 3 i k := fun k i => (e 3 k (by unfold dKX; simp)).1 i
  have r3 : ∀ k i, gR X' 3 i k = gR X 3 i k := fun k i => (e 3 k (by unfold dKX; simp)).2 i
  have r13 : ∀ k i, gR X' 13 i k = gR X 13 i k := fun k i => (e 13 k (by unfold dKX; simp)).2 i
  have r5 : ∀ i, gR X' 5 i 8 = gR X 5 i 8 := fun i => (e 5 8 rfl).2 i
  unfold RK at h ⊢
  simp only [e3, r3, r13, r5, fm 101 rfl, fm 102 rfl, fm 103 rfl, fm 82 rfl]
  exact h
/-- of one cup: what is the same for it -/
theorem RC.cg1 {c : Nat} (h : RC P C K X M c) (e12 : gR X' 12 0 c = gR X 12 0 c) (e5 : ∀ k, gI X' 5 c k = gI X 5 c k) (r5 : ∀ k, gR X' 5 c k = gR X 5 c k) (r4 : gR X' 4 (c + 1) 0 = gR X 4 (c + 1) 0) (e15 : ∀ k, k < 6 → gI X' 15 (c + 3) k = gI X 15 (c + 3) k)
    (f : ∀ t, t = 81 ∨ t = 82 ∨ t = 83 ∨ t = 84 ∨ t = 85 ∨ t = 86 ∨ t = 87 ∨ t = 88 ∨ t = 89 ∨ t = 90 ∨ t = 109 → gI M' t 0 c = gI M t 0 c) (f91 : ∀ k, k < 6 → gI M' 91 0 (6 * c + k) = gI M 91 0 (6 * c + k)) (fs : ∀ t k, t = 67 ∨ t = 68 ∨ t = 69 → gI M' t 0 k = gI M t 0 k)
    (f102 : ∀ k, k < K → gI M 102 0 k = c → gI M' 102 0 k = c) (fc : gI M 64 0 13 ≤ gI M' 64 0 13) : RC P C K X' M' c := by
  have w6 : wS (fun k => gI M' 91 0 (6 * c + k)) 6 = wS (fun k => gI M 91 0 (6 * c + k)) 6 := by
    simp only [wS, f91 0 (by omega), f91 1 (by omega), f91 2 (by omega), f91 3 (by omega), f91 4 (by omega), f91 5 (by omega)]
  have s67 : ∀ k, gI M' 67 0 k = gI M 67 0 k := fun k => fs 67 k (by simp)
  have s68 : ∀ k, gI M' 68 0 k = gI M 68 0 k := fun k => fs 68 k (by simp)
  have s69 : ∀ k, gI M' 69 0 k = gI M 69 0 k := fun k => fs 69 k (by simp)
  unfold RC at h ⊢
  rw [w6]
  simp only [e12, e5, r5, r4, s67, s68, s69, f 81 (by simp), f 82 (by simp), f 83 (by simp), f 84 (by simp), f 85 (by simp), f 86 (by simp), f 87 (by simp), f 88 (by simp), f 89 (by simp), f 90 (by simp), f 109 (by simp)]
  obtain ⟨h1, h2, h3, h4, h5, h6, h7, h8, h9, h10, h11, h12, h13, h14, h15, h16, h17, h18, h19, h20, h21, h22, h23, h24, h25⟩ := h
  refine ⟨h1, h2, h3, fun q => ⟨(h4 q).1, fun k hk => ?_⟩, h5, h6, h7, h8, h9, h10, h11, h12, fun q => ?_, h14, h15, h16, h17, h18, h19, h20, h21, ⟨h22.1, h22.2.1, Int.le_trans h22.2.2 fc⟩, fun k hk => ?_, fun q => ⟨fun k hk => ?_, (h24 q).2⟩, h25⟩
  · rw [f91 k hk]; exact (h4 q).2 k hk
  · obtain ⟨k, a1, a2, a3⟩ := h13 q
    exact ⟨k, a1, a2, f102 k a1 a3⟩
  · rw [e15 k hk, f91 k hk]; exact h23 k hk
  · rw [f91 k hk]; exact (h24 q).1 k hk
theorem RC.cg {c : Nat} (h : RC P C K X M c) (e : eqS dCX X' X) (e15 : ∀ k, k < 6 → gI X' 15 (c + 3) k = gI X 15 (c + 3) k) (f : eqS dCM M' M) (fc : gI M 64 0 13 ≤ gI M' 64 0 13) : RC P C K X' M' c := by
  refine h.cg1 ((e 12 c rfl).2 0) (fun k => (e 5 k rfl).1 c) (fun k => (e 5 k rfl).2 c) ((e 4 0 rfl).2 _) e15 (fun t ht => ?_) (fun k _ => (f 91 _ rfl).1 0) (fun t k ht => ?_) (fun k _ hk => by rw [(f 102 k rfl).1]; exact hk) fc
  · rcases ht with rfl | rfl | rfl | rfl | rfl | rfl | rfl | rfl | rfl | rfl | rfl <;> exact (f _ c rfl).1 0
  · rcases ht with rfl | rfl | rfl <;> exact (f _ k rfl).1 0
theorem BD.cg (h : BD D P M) (f : eqS dDM M' M) : BD D P M' :=
  ⟨fun p hp => by rw [(f 95 p rfl).1, (f 75 p rfl).1]; exact h.1 p hp, fun k hk => by rw [(f 92 k rfl).1]; exact h.2 k hk⟩
theorem BD.le {D' : Int} (h : BD D P M) (hD : D ≤ D') : BD D' P M := ⟨fun p hp => ⟨Int.le_trans (h.1 p hp).1 hD, Int.le_trans (h.1 p hp).2 hD⟩, fun k hk => Int.le_trans (h.2 k hk) hD⟩
def dZM (t _ : Nat) : Bool := t == 72 || t == 73 || t == 74 || t == 75 || t == 76 || t == 95 || t == 96 || t == 98 || t == 99 || t == 84 || t == 85 || t == 88 || t == 89 || t == 90 || t == 109 || t == 124 || t == 91
theorem RZ.cg (h : RZ P C M) (f : eqS dZM M' M) : RZ P C M' := by
  intro t k hk
  rw [(f t k ?_).1]
  · exact h t k hk
  · unfold zZ at hk
    split at hk <;> first | (cases hk; done) | rfl
/-- scratch: what no part of the relation reads -/
def scX (t k : Nat) : Bool := !(dX t k || dNX t k || dSX t k || dFX t k || dBX t k || dPX t k || dLX t k || dKX t k || dCX t k || t == 15)
def scM (t k : Nat) : Bool := !(dM t k || dNM t k || dSM t k || dFM t k || dBM t k || dPM t k || dLM t k || dKM t k || dCM t k || dDM t k || dZM t k)
theorem eqS.mono {S S' : Nat → Nat → Bool} {σ τ : zS} (h : eqS S' σ τ) (hs : ∀ t k, S t k = true → S' t k = true) : eqS S σ τ := fun t k hk => h t k (hs t k hk)
/-- what only writes scratch keeps the relation -/
theorem RR.sc (h : RR P C K D X M) (n : ∀ t, gN X' t = gN X t) (n2 : ∀ t, gN M' t = gN M t) (e : eqS (fun t k => !scX t k) X' X) (e15 : ∀ i k, i = 0 ∨ 3 ≤ i → gI X' 15 i k = gI X 15 i k) (f : eqS (fun t k => !scM t k) M' M) : RR P C K D X' M' := by
  obtain ⟨⟨hX, hM, hN⟩, hS, hF, hB, hP, hL, hC, hK, hD, hZ⟩ := h
  have sx : ∀ S : Nat → Nat → Bool, (∀ t k, S t k = true → scX t k = false) → eqS S X' X := fun S hs => e.mono fun t k hk => by simp [hs t k hk]
  have sm : ∀ S : Nat → Nat → Bool, (∀ t k, S t k = true → scM t k = false) → eqS S M' M := fun S hs => f.mono fun t k hk => by simp [hs t k hk]
  have f13 : gI M' 64 0 13 = gI M 64 0 13 := (f 64 13 rfl).1 0
  refine ⟨⟨hX.cg (n 0) (sx _ fun t k hk => by simp [scX, hk]), hM.cg (n2 64) (sm _ fun t k hk => by simp [scM, hk]), hN.cg n (sx _ fun t k hk => by simp [scX, hk]) (sm _ fun t k hk => by simp [scM, hk])⟩,
    hS.cg (sx _ fun t k hk => by simp [scX, hk]) (fun k _ => e15 0 k (Or.inl rfl)) (sm _ fun t k hk => by simp [scM, hk]), hF.cg (sx _ fun t k hk => by simp [scX, hk]) (sm _ fun t k hk => by simp [scM, hk]),
    hB.cg (sx _ fun t k hk => by simp [scX, hk]) (sm _ fun t k hk => by simp [scM, hk]), fun p hp => (hP p hp).cg (sx _ fun t k hk => by simp [scX, hk]) (sm _ fun t k hk => by simp [scM, hk]),
    fun p hp => (hL p hp).cg (sx _ fun t k hk => by simp [scX, hk]) (sm _ fun t k hk => by simp [scM, hk]), fun c hc => (hC c hc).cg (sx _ fun t k hk => by simp [scX, hk]) (fun k _ => e15 (c + 3) k (Or.inr (by omega))) (sm _ fun t k hk => by simp [scM, hk]) (by rw [f13]; exact Int.le_refl _),
    fun k hk => (hK k hk).cg (sx _ fun t k hk => by simp [scX, hk]) (sm _ fun t k hk => by simp [scM, hk]), hD.cg (sm _ fun t k hk => by simp [scM, hk]), hZ.cg (sm _ fun t k hk => by simp [scM, hk])⟩
/-! one object -/
theorem RX.cg1 (h : RX X) (n : gN X' 0 = gN X 0) (e0 : ∀ k, k < 10 → gR X' 0 0 k = gR X 0 0 k) (e1 : ∀ k, gR X' 1 0 k = gR X 1 0 k) (e2 : ∀ k, gR X' 2 0 k = gR X 2 0 k) (e4 : ∀ k, gR X' 4 0 k = gR X 4 0 k) (e6 : ∀ k, gR X' 6 0 k = gR X 6 0 k) (e7 : ∀ k, gR X' 7 0 k = gR X 7 0 k) (e28 : ∀ k, gI X' 28 0 k = gI X 28 0 k) : RX X' := by
  obtain ⟨h1, h2, h3, h4, h5, h6, h7, h8⟩ := h
  refine ⟨n.trans h1, fun k hk => (e0 k hk).trans (h2 k hk), ?_, ?_, ?_, ?_, ?_, fun k hk => (e28 k).trans (h8 k hk)⟩
  · rw [e1, e1]; exact h3
  · rw [e2, e2]; exact h4
  · rw [e4]; exact h5
  · rw [e6, e6, e6]; exact h6
  · rw [e7, e7, e7, e7, e7, e7, e7]; exact h7
theorem RK.cg1 {k : Nat} (h : RK C X M k) {C' : Nat} (hC : C ≤ C') (r13 : gR X' 13 0 k = gR X 13 0 k) (e3 : ∀ j, gI X' 3 k j = gI X 3 k j) (r3 : ∀ j, gR X' 3 k j = gR X 3 k j) (r5 : ∀ i, i < C → gR X' 5 i 8 = gR X 5 i 8) (f : ∀ t, t = 101 ∨ t = 102 ∨ t = 103 → gI M' t 0 k = gI M t 0 k) (f82 : ∀ i, i < C → gI M' 82 0 i = gI M 82 0 i) : RK C' X' M' k := by
  unfold RK at h ⊢
  rw [r13, e3, e3, r3, e3, f 101 (by simp), f 102 (by simp), f 103 (by simp)]
  refine ⟨h.1, h.2.1, h.2.2.1, fun q => ?_⟩
  obtain ⟨a, b, c, d⟩ := h.2.2.2 q
  have : (gI M 102 0 k).toNat < C := by omega
  rw [f82 _ this, r5 _ this]
  exact ⟨⟨a.1, by omega⟩, b, c, d⟩
theorem RP.cg1 {p P' : Nat} (h : RP P X M p) (hp : p < P) (hP : P ≤ P') (r11 : gR X' 11 0 p = gR X 11 0 p) (e8 : ∀ k, gI X' 8 p k = gI X 8 p k) (r8 : ∀ k, gR X' 8 p k = gR X 8 p k) (e9 : ∀ k, gI X' 9 p k = gI X 9 p k) (e10 : gI X' 10 (2 * p) 0 = gI X 10 (2 * p) 0) (e10' : gI X' 10 (2 * p + 1) 0 = gI X 10 (2 * p + 1) 0)
    (f : ∀ t, dPM t 0 = true → t ≠ 78 → ∀ q, q < P → gI M' t 0 q = gI M t 0 q) (f78 : ∀ q, q < 2 * P → gI M' 78 0 q = gI M 78 0 q) : RP P' X' M' p := by
  unfold RP at h ⊢
  have g : ∀ t, dPM t 0 = true → t ≠ 78 → gI M' t 0 p = gI M t 0 p := fun t a b => f t a b p hp
  rw [r11, e10, e10', f78 _ (by omega), f78 _ (by omega)]
  simp only [e8, r8, e9, g 67 rfl (by decide), g 68 rfl (by decide), g 69 rfl (by decide), g 70 rfl (by decide), g 71 rfl (by decide), g 72 rfl (by decide), g 73 rfl (by decide), g 74 rfl (by decide), g 75 rfl (by decide), g 76 rfl (by decide), g 77 rfl (by decide), g 95 rfl (by decide), g 96 rfl (by decide), g 97 rfl (by decide), g 98 rfl (by decide), g 99 rfl (by decide)]
  obtain ⟨h1, h2, h3, h4, h5, h6, h7, h8, h9, h10, h11⟩ := h
  refine ⟨h1, h2, fun q => ?_, h4, h5, h6, h7, h8, h9, fun q => ?_, h11⟩
  · obtain ⟨a, b⟩ := h3 q
    rw [f 68 rfl (by decide) _ (by omega)]
    exact ⟨a, b⟩
  · obtain ⟨a, b⟩ := h10 q
    exact ⟨⟨a.1, by omega⟩, b⟩
end FR
