/-! ===== worst and best ===== -/
theorem fold_mem (w d : Nat → Int) (s : Nat) : ∀ (L : List (List Nat)) (S : Int × List Nat), L.foldl (stp w d s) S = S ∨ (L.foldl (stp w d s) S).2 ∈ L
  | [], S => Or.inl rfl
  | l :: L, S => by
    rw [List.foldl_cons]
    rcases fold_mem w d s L (stp w d s S l) with h | h
    · rw [h]
      unfold stp
      by_cases c : mgl w d l s < S.1
      · rw [if_pos c]; exact Or.inr (List.mem_cons_self ..)
      · rw [if_neg c]; exact Or.inl rfl
    · exact Or.inr (List.mem_cons_of_mem _ h)
section BE
variable {X M : zS}
theorem oDe {Y : zS} (h : oD Y X) {S : Nat → Nat → Bool} (hs : ∀ k, S 26 k = false ∧ S 27 k = false ∧ S 28 k = false) (h9 : S 7 9 = false) : eqS S Y X := fun t k hk => ⟨fun i => h.2.2 t i k (by
  rintro (rfl | rfl | rfl | ⟨rfl, rfl⟩)
  · rw [(hs k).1] at hk; cases hk
  · rw [(hs k).2.1] at hk; cases hk
  · rw [(hs k).2.2] at hk; cases hk
  · rw [h9] at hk; cases hk), fun i => h.2.1 t i k⟩
theorem RR.oD {P C K : Nat} {D : Int} {Y : zS} (hr : RR P C K D X M) (h : oD Y X) (h28 : ∀ k, k < 6 → gI Y 28 0 k = 0) : RR P C K D Y M := by
  obtain ⟨⟨hX, hM, hN⟩, hS, hF, hB, hP, hL, hC, hK, hD, hZ⟩ := hr
  have e15 : ∀ i k, gI Y 15 i k = gI X 15 i k := fun i k => h.2.2 15 i k (by omega)
  have r := fun (t i k : Nat) => h.2.1 t i k
  have hY : RX Y := by
    obtain ⟨h1, h2, h3, h4, h5, h6, h7, -⟩ := hX
    refine ⟨(h.1 0).trans h1, fun k hk => (r _ _ _).trans (h2 k hk), ?_, ?_, ?_, ?_, ?_, h28⟩
    · rw [r, r]; exact h3
    · rw [r, r]; exact h4
    · rw [r]; exact h5
    · rw [r, r, r]; exact h6
    · rw [r, r, r, r, r, r, r]; exact h7
  have s3 : ∀ _ : Nat, (false = false ∧ false = false ∧ false = false) := fun _ => ⟨rfl, rfl, rfl⟩
  exact ⟨⟨hY, hM, hN.cg h.1 (oDe h (fun _ => ⟨rfl, rfl, rfl⟩) rfl) .rf⟩, hS.cg (oDe h (fun _ => ⟨rfl, rfl, rfl⟩) rfl) (fun k _ => e15 0 k) .rf, hF.cg (oDe h (fun _ => ⟨rfl, rfl, rfl⟩) rfl) .rf, hB.cg (oDe h (fun _ => ⟨rfl, rfl, rfl⟩) rfl) .rf,
    fun p hp => (hP p hp).cg (oDe h (fun _ => ⟨rfl, rfl, rfl⟩) rfl) .rf, fun p hp => (hL p hp).cg (oDe h (fun _ => ⟨rfl, rfl, rfl⟩) rfl) .rf, fun c hc => (hC c hc).cg (oDe h (fun _ => ⟨rfl, rfl, rfl⟩) rfl) (fun k _ => e15 _ k) .rf (Int.le_refl _),
    fun k hk => (hK k hk).cg (oDe h (fun _ => ⟨rfl, rfl, rfl⟩) rfl) .rf, hD, hZ⟩
theorem plan_eq {P C K : Nat} {D : Int} (hr : RR P C K D X M) {nf : Nat} (hnf : 1000 ≤ nf) : ∃ (s : Nat) (Y N0 : zS), fX10_lineUp nf X 0 3 = some ((s : Int), Y) ∧ fX11_layRow nf M 0 0 = some ((), N0) ∧ gI N0 64 0 52 = s ∧ RR P C K D Y N0 ∧ oN N0 M ∧ (0 < K → 0 < s → s ≤ 6 → ∃ (Y1 Y2 N2 : zS) (v : Int) (q : Nat → Nat), fX10_layPlan nf Y 0 (s : Int) = some ((), Y1) ∧ gR Y1 0 0 8 = some 0 ∧ fX6_findBest nf Y1 0 = some (v, Y2) ∧ fX11_layBest nf N0 0 = some ((), N2) ∧ RR P C K D Y2 N2 ∧ oB N2 N0 ∧ gI N2 64 0 57 = v ∧ gI N2 64 0 52 = s ∧ gI Y2 7 0 4 = s ∧ ∀ j, j < s → q j < s ∧ gI Y2 27 0 j = q j ∧ ∃ c : Nat, c < C ∧ gR Y2 14 0 (q j) = some c ∧ gI N2 122 0 j = c) := by
  have h16 := hr.1.2.2.1
  obtain ⟨Y0, N0, s0, -, a2, -, -, a5, -, a7, a8⟩ := row_eq hr hnf (o := 0) (Or.inl rfl)
  have hr0 := oNN hr a7
  have hr1 : RR P C K D X (sI N0 64 0 52 0) := hr0.oB (oB.rf.sI (by omega))
  obtain ⟨Y, N, s, b1, b2, b3, b4, b5, b6, b7, b8⟩ := row3L (C := C) hnf (fun (s_2 : zS) => up_ (sI s_2 64 0 57 (-1)) fun (s_3 : zS) => fX11_layBest_L60 0 nf nf s_3 0 1) C nf 0 0 X (sI N0 64 0 52 0) (by omega) (by omega) (Nat.le_refl 0) hr1 (by simp only [gI_sI, gI_sR, gI_sN, gI_sCp, gI_sB, gR_sI, gR_sR, gR_sN, gR_sCp, gR_sB, gN_sI, gN_sR, gN_sN, gN_sCp, gN_sB, ↓reduceIte, and_true, true_and, and_false, false_and, and_self, or_true, true_or, or_false, false_or, or_self, Nat.reduceEqDiff, Int.reduceNeg, ne_eq, not_true_eq_false, not_false_eq_true, Int.toNat_natCast, reduceCtorEq, i10, i01, implies_true, true_implies, false_implies, g_t (c := True) trivial]; rfl) (fun j hj => by omega) (fun i j _ hj => by omega) (fun j hj => by omega) rfl
  have es : s0 = s := by
    rw [a8, b8]
    refine Eq.trans ?_ (cw_cg (N := N0) (N' := sI N0 64 0 52 0) (fun _ => rfl) C).symm
    exact (cw_cg (fun k => a7.2.2 82 0 k (by decide) (by omega)) C).symm
  subst es
  have oN0 : oB N N0 := b7.b.tr (oB.rf.sI (by omega))
  have rYN0 : RR P C K D Y N0 := b3.oB ⟨fun t => (oN0.1 t).symm, fun t i k => (oN0.2.1 t i k).symm, fun t i k q => (oN0.2.2 t i k q).symm⟩
  refine ⟨s0, Y, N0, b1, a2, a5, rYN0, a7, fun hK h0 hs => ?_⟩
  have cp : ∀ j, j < s0 → ((gR Y 14 0 j).getD 0) < C ∧ gR Y 14 0 j = some ((gR Y 14 0 j).getD 0) ∧ gI N 117 0 j = (((gR Y 14 0 j).getD 0 : Nat) : Int) := by
    intro j hj
    obtain ⟨x, x1, x2, x3, -⟩ := b5 j hj
    rw [x2]
    exact ⟨x1, rfl, x3⟩
  generalize hasc : (fun j => (gR Y 14 0 j).getD 0) = asc
  have cp : ∀ j, j < s0 → asc j < C ∧ gR Y 14 0 j = some (asc j) ∧ gI N 117 0 j = ((asc j : Nat) : Int) := by
    intro j hj; rw [← hasc]; exact cp j hj
  have mono : ∀ x y, x < s0 → y < s0 → (asc x < asc y ↔ x < y) := by
    intro x y hx hy
    have cx := (cp x hx).2.2
    have cy := (cp y hy).2.2
    rcases Nat.lt_trichotomy x y with h | h | h
    · have := b6 x y h hy
      exact ⟨fun _ => h, fun _ => by omega⟩
    · subst h; omega
    · have := b6 y x h hx
      exact ⟨fun q => by omega, fun q => by omega⟩
  have cb := clerk_b b3
  obtain ⟨Y1, p1, p2, p3, p4, p5, p6⟩ := layPlan_eq hnf b3 hK hs (cp := asc) (fun j hj => ⟨(cp j hj).1, (cp j hj).2.1⟩) cb.1 cb.2
  have hrY1 := b3.oP p2
  generalize hw : (fun x => gI N 64 0 13 - sentv N (asc x)) = w
  generalize hd : dn (fun j => gI Y 3 j 3) (fun j => gI Y 3 j 1) K = d at p5
  have p6 : ∀ l, l < s0 → gI Y1 24 0 l = w l := fun l hl => by rw [p6 l hl, ← hw]
  -- the class
  have hX1 := hrY1.1.1
  have i0 : ID (sI Y1 7 0 9 1000000) s0 (sI Y1 7 0 9 1000000) [] (1000000, []) := by
    refine ⟨.rf, fun x hx => ?_, fun j hj => absurd hj (Nat.not_lt_zero j), by simp only [gI_sI, gI_sR, gI_sN, gI_sCp, gI_sB, gR_sI, gR_sR, gR_sN, gR_sCp, gR_sB, gN_sI, gN_sR, gN_sN, gN_sCp, gN_sB, ↓reduceIte, and_true, true_and, and_false, false_and, and_self, or_true, true_or, or_false, false_or, or_self, Nat.reduceEqDiff, Int.reduceNeg, ne_eq, not_true_eq_false, not_false_eq_true, Int.toNat_natCast, reduceCtorEq, i10, i01, implies_true, true_implies, false_implies, g_t (c := True) trivial], fun q => absurd q (by decide)⟩
    rw [gI_sI, if_neg (by omega)]
    exact hX1.2.2.2.2.2.2.2 x hx
  have hX1' : RX (sI Y1 7 0 9 1000000) := hX1.cg rfl (by repeat first | exact .rf | refine eqS_sI rfl ?_ | refine eqS_sR rfl ?_ | refine eqS_sB (fun _ => rfl) ?_ | refine eqS_sN (fun _ => rfl) ?_)
  obtain ⟨Y2, f1, f2⟩ := searchL hnf hX1' hs (show gI (sI Y1 7 0 9 1000000) 7 0 4 = s0 by simp only [gI_sI, gI_sR, gI_sN, gI_sCp, gI_sB, gR_sI, gR_sR, gR_sN, gR_sCp, gR_sB, gN_sI, gN_sR, gN_sN, gN_sCp, gN_sB, ↓reduceIte, and_true, true_and, and_false, false_and, and_self, or_true, true_or, or_false, false_or, or_self, Nat.reduceEqDiff, Int.reduceNeg, ne_eq, not_true_eq_false, not_false_eq_true, Int.toNat_natCast, reduceCtorEq, i10, i01, implies_true, true_implies, false_implies, g_t (c := True) trivial]; exact p4) (w := w) (d := d) (fun l hl => ⟨by simp only [gI_sI, gI_sR, gI_sN, gI_sCp, gI_sB, gR_sI, gR_sR, gR_sN, gR_sCp, gR_sB, gN_sI, gN_sR, gN_sN, gN_sCp, gN_sB, ↓reduceIte, and_true, true_and, and_false, false_and, and_self, or_true, true_or, or_false, false_or, or_self, Nat.reduceEqDiff, Int.reduceNeg, ne_eq, not_true_eq_false, not_false_eq_true, Int.toNat_natCast, reduceCtorEq, i10, i01, implies_true, true_implies, false_implies, g_t (c := True) trivial]; exact p6 l hl, by simp only [gI_sI, gI_sR, gI_sN, gI_sCp, gI_sB, gR_sI, gR_sR, gR_sN, gR_sCp, gR_sB, gN_sI, gN_sR, gN_sN, gN_sCp, gN_sB, ↓reduceIte, and_true, true_and, and_false, false_and, and_self, or_true, true_or, or_false, false_or, or_self, Nat.reduceEqDiff, Int.reduceNeg, ne_eq, not_true_eq_false, not_false_eq_true, Int.toNat_natCast, reduceCtorEq, i10, i01, implies_true, true_implies, false_implies, g_t (c := True) trivial]; exact p5 l hl⟩) s0 8 [] (1000000, []) (sI Y1 7 0 9 1000000) (by simp) (by omega) i0
  have oY2 : oD Y2 Y1 := ⟨f2.1.1, f2.1.2.1, fun t i k q => (f2.1.2.2 t i k q).trans (by rw [gI_sI, if_neg (by omega)])⟩
  have rY2 : RR P C K D Y2 N := hrY1.oD oY2 fun k hk => (f2.2.1 k hk).trans (by simp)
  -- the model
  have hall := ext_all s0 (by omega)
  have hhead := ext_head s0 (by omega) h0
  have hchk := chk_all s0 (by omega) h0
  have hlen := ext_len s0 (by omega)
  have hp : ∀ p, p ∈ ext s0 s0 [] → (∀ j, j < s0 → fnl p j < s0) ∧ sE w p s0 = (List.range s0).foldl (fun z x => z + w x) 0 := by
    intro p hp
    have q := List.all_eq_true.mp hall p hp
    rw [Bool.and_eq_true, Bool.and_eq_true, beq_iff_eq] at q
    obtain ⟨⟨q1, q2⟩, q3⟩ := q
    refine ⟨fun j hj => ?_, sE_perm w q1 q3⟩
    have hjl : j < p.length := by omega
    have := List.all_eq_true.mp q2 (p[j]) (List.getElem_mem hjl)
    have e : fnl p j = p[j] := by
      unfold fnl
      rw [List.getD_eq_getElem?_getD, List.getElem?_eq_getElem hjl]
      rfl
    rw [e]
    exact Nat.lt_of_lt_of_le (Nat.lt_succ_self _) (Nat.le_of_ble_eq_true this)
  have hmem := fold_mem w d s0 (ext s0 s0 []) (1000000, [])
  generalize hL : ext s0 s0 [] = L at hhead hchk hlen hp hmem f2
  cases L with
  | nil => cases hhead
  | cons l L =>
    have hl : l = List.range s0 := Option.some.inj hhead
    have R0 : Rw s0 asc (sI N 64 0 57 (-1)) (fnl l) := fun j hj => by
      have e : fnl l j = j := by
        rw [hl]
        have := fnl_map s0 id j hj
        rwa [List.map_id] at this
      rw [e, gI_sI, if_neg (by omega)]
      exact (cp j hj).2.2
    obtain ⟨N2, g1, g2, g3, g4⟩ := bestL hnf b3 hK h0 hs mono (fun x hx => (cp x hx).1) hw.symm hd.symm (T := (List.range s0).foldl (fun z x => z + w x) 0 + sD d s0) L l nf (sI N 64 0 57 (-1)) (1000000, []) 0 hchk (fun p hp' => ⟨(hp p hp').1, by rw [(hp p hp').2]⟩) (by simp at hlen; omega) (oB.rf.sI (by omega)) (by simp only [gI_sI, gI_sR, gI_sN, gI_sCp, gI_sB, gR_sI, gR_sR, gR_sN, gR_sCp, gR_sB, gN_sI, gN_sR, gN_sN, gN_sCp, gN_sB, ↓reduceIte, and_true, true_and, and_false, false_and, and_self, or_true, true_or, or_false, false_or, or_self, Nat.reduceEqDiff, Int.reduceNeg, ne_eq, not_true_eq_false, not_false_eq_true, Int.toNat_natCast, reduceCtorEq, i10, i01, implies_true, true_implies, false_implies, g_t (c := True) trivial]; exact b4) R0 (Or.inr ⟨rfl, by simp only [gI_sI, gI_sR, gI_sN, gI_sCp, gI_sB, gR_sI, gR_sR, gR_sN, gR_sCp, gR_sB, gN_sI, gN_sR, gN_sN, gN_sCp, gN_sB, ↓reduceIte, and_true, true_and, and_false, false_and, and_self, or_true, true_or, or_false, false_or, or_self, Nat.reduceEqDiff, Int.reduceNeg, ne_eq, not_true_eq_false, not_false_eq_true, Int.toNat_natCast, reduceCtorEq, i10, i01, implies_true, true_implies, false_implies, g_t (c := True) trivial]; decide⟩)
    generalize hF : (l :: L).foldl (stp w d s0) (1000000, []) = S at g4 f2 hmem
    have hS2 : ∀ j, j < s0 → fnl S.2 j < s0 := by
      rcases hmem with h | h
      · have := g4.1
        rw [h] at this
        exact absurd this (by decide)
      · exact (hp S.2 h).1
    refine ⟨Y1, Y2, N2, S.1, fnl S.2, p1, hX1.2.1 8 (by decide), ?_, ?_, rY2.oB g2, g2.tr oN0, g4.2.2.1, g3, ?_, fun j hj => ⟨hS2 j hj, f2.2.2.2.2 g4.1 j hj, asc (fnl S.2 j), (cp _ (hS2 j hj)).1, ?_, g4.2.2.2.2 j hj⟩⟩
    · unfold fX6_findBest fX6_search
      have f1 : fX6_search_R nf 8 (sI Y1 7 0 9 1000000) (some 0) 0 0 = some ((), Y2) := f1
      rw [up_eq, f1, cl_some, f2.2.2.2.1]
    · unfold fX11_layBest
      rw [up_eq]
      exact b2.trans g1
    · rw [oY2.2.2 7 0 4 (by omega)]; exact p4
    · rw [oY2.2.1, p2.2.1]; exact (cp _ (hS2 j hj)).2.1
end BE
