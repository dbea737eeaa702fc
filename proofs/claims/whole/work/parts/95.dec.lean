/-! ===== which cups a wire lets on ===== -/
/-- the pieces of the model's step, as the program has them -/
def zS4 (nf n p : Nat) (s_17 : zS) (y_18 y_19 : Int) : Option (Unit × zS) := nm_ (fun (s_20 : zS) => nm_ (fun (s_21 : zS) => nm_ (wr ((p : Int) + 1)) fun (x_22 : Int) => fX11_letAll_L2 0 nf n s_21 x_22) fun (j263 : zS → Option (Unit × zS)) => if y_19 = (-9) then (j263 s_20) else (cl_ (fX11_letOn s_20 0 y_19 (p : Int) 0) fun (_ : Unit) (s_23 : zS) => j263 s_23)) fun (j250 : zS → Option (Unit × zS)) => if y_18 = (-9) then (j250 s_17) else (cl_ (fX11_letOn s_17 0 y_18 (p : Int) 1) fun (_ : Unit) (s_24 : zS) => j250 s_24)
def zS3 (κ : zS → Int → Int → Option (Unit × zS)) (nf p : Nat) (s_11 : zS) (u_6 u_12 : Int) : Option (Unit × zS) := nm_ (gR s_11 64 0 5) fun (r_13 : Option Nat) => Option.bind r_13 fun i_14 => g_ ((0 : Int) ≤ (p : Int) ∧ ((p : Int) : Int) < 16) (nm_ κ fun (j237 : zS → Int → Int → Option (Unit × zS)) => if gI s_11 71 i_14 (Int.toNat ((p : Int))) = 0 then (cl_ (fX11_isClear s_11 0 (p : Int) 1) fun (x_26 : Int) (s_25 : zS) => nm_ (fun (s_27 : zS) (u_28 : Int) => nm_ (fun (s_29 : zS) (u_30 : Int) => nm_ (fun (s_31 : zS) (u_32 : Int) => if u_30 = (-9) then (j237 s_31 u_30 u_32) else (if u_32 = (-9) then (j237 s_31 u_30 u_32) else (nm_ (gR s_31 64 0 18) fun (r_33 : Option Nat) => Option.bind r_33 fun i_34 => g_ ((0 : Int) ≤ u_30 ∧ (u_30 : Int) < 24) (nm_ (gR s_31 64 0 18) fun (r_37 : Option Nat) => Option.bind r_37 fun i_38 => g_ ((0 : Int) ≤ u_32 ∧ (u_32 : Int) < 24) (nm_ (fun (s_41 : zS) (u_42 : Int) => nm_ (fun (s_43 : zS) (u_44 : Int) => nm_ (fun (s_45 : zS) (u_46 : Int) => j237 s_45 u_46 u_44) fun (j236 : zS → Int → Option (Unit × zS)) => if u_42 = 0 then (j236 s_43 (-9)) else (j236 s_43 u_30)) fun (j224 : zS → Int → Option (Unit × zS)) => if u_42 = 0 then (j224 s_41 u_32) else (j224 s_41 (-9))) fun (j211 : zS → Int → Option (Unit × zS)) => if gI s_31 84 i_38 (Int.toNat (u_32)) < gI s_31 84 i_34 (Int.toNat (u_30)) then (j211 s_31 0) else (j211 s_31 1)))))) fun (j178 : zS → Int → Option (Unit × zS)) => nm_ (fun (s_47 : zS) => j178 s_47 (-9)) fun (j176 : zS → Option (Unit × zS)) => if u_28 = 0 then (j176 s_29) else (cl_ (fX11_onMany nf s_29 0 (p : Int) 1) fun (x_49 : Int) (s_48 : zS) => if x_49 = 0 then (j178 s_48 u_12) else (j176 s_48))) fun (j157 : zS → Int → Option (Unit × zS)) => nm_ (fun (s_50 : zS) => j157 s_50 (-9)) fun (j155 : zS → Option (Unit × zS)) => if u_28 = 0 then (j155 s_27) else (cl_ (fX11_onMany nf s_27 0 (p : Int) 0) fun (x_52 : Int) (s_51 : zS) => if x_52 = 0 then (j157 s_51 u_6) else (j155 s_51))) fun (j135 : zS → Int → Option (Unit × zS)) => nm_ (fun (s_53 : zS) => j135 s_53 0) fun (j134 : zS → Option (Unit × zS)) => if x_26 = 0 then (j134 s_25) else (cl_ (fX11_isClear s_25 0 (p : Int) 0) fun (x_55 : Int) (s_54 : zS) => if x_55 = 0 then (j134 s_54) else (j135 s_54 1))) else (cl_ (fX11_isClear s_11 0 (p : Int) 1) fun (x_57 : Int) (s_56 : zS) => nm_ (fun (s_58 : zS) (u_59 : Int) => cl_ (fX11_isClear s_58 0 (p : Int) 0) fun (x_61 : Int) (s_60 : zS) => nm_ (fun (s_62 : zS) (u_63 : Int) => j237 s_62 u_59 u_63) fun (j108 : zS → Int → Option (Unit × zS)) => if x_61 = 0 then (j108 s_60 (-9)) else (j108 s_60 u_12)) fun (j92 : zS → Int → Option (Unit × zS)) => if x_57 = 0 then (j92 s_56 (-9)) else (j92 s_56 u_6)))
def zS2 (κ : zS → Int → Option (Unit × zS)) (nf p : Nat) (s_5 : zS) : Option (Unit × zS) := nm_ (gR s_5 64 0 6) fun (r_7 : Option Nat) => Option.bind r_7 fun i_8 => g_ ((0 : Int) ≤ (p : Int) ∧ ((p : Int) : Int) < 16) (nm_ κ fun (j67 : zS → Int → Option (Unit × zS)) => nm_ (fun (s_64 : zS) => j67 s_64 (-9)) fun (j57 : zS → Option (Unit × zS)) => if gI s_5 72 i_8 (Int.toNat ((p : Int))) = 0 then (cl_ (fX11_isNear nf s_5 0 (p : Int) 0) fun (x_66 : Int) (s_65 : zS) => if x_66 = 0 then (cl_ (fX11_downOf nf s_65 0 (p : Int)) fun (x_68 : Int) (s_67 : zS) => j67 s_67 x_68) else (j57 s_65)) else (j57 s_5))
def zS1 (κ : zS → Int → Option (Unit × zS)) (nf p : Nat) (s0 : zS) : Option (Unit × zS) := (nm_ (gR s0 64 0 6) fun (r_1 : Option Nat) => Option.bind r_1 fun i_2 => g_ ((0 : Int) ≤ (p : Int) ∧ ((p : Int) : Int) < 16) (nm_ κ fun (j38 : zS → Int → Option (Unit × zS)) => nm_ (fun (s_69 : zS) => j38 s_69 (-9)) fun (j28 : zS → Option (Unit × zS)) => if gI s0 72 i_2 (Int.toNat ((p : Int))) = 0 then (cl_ (fX11_isNear nf s0 0 (p : Int) 1) fun (x_71 : Int) (s_70 : zS) => if x_71 = 0 then (cl_ (fX11_upOf nf s_70 0 (p : Int)) fun (x_73 : Int) (s_72 : zS) => j38 s_72 x_73) else (j28 s_70)) else (j28 s0)))
theorem la_step (nf n p : Nat) (N : zS) (h : (p : Int) < gI N 64 0 0) : fX11_letAll_L2 0 nf (n + 1) N (p : Int) = zS1 (fun s_5 u_6 => zS2 (fun s_11 u_12 => zS3 (zS4 nf n p) nf p s_11 u_6 u_12) nf p s_5) nf p N := by
  conv => lhs; unfold fX11_letAll_L2
  rw [if_pos h]
  rfl
/-- both may: one of a single wire goes -/
def dec0 (M : zS) (p : Nat) : Option Nat → Option Nat → Option Nat × Option Nat
  | some a, some b => if gI M 71 0 p = 0 then (if gI M 84 0 b < gI M 84 0 a then (none, some b) else (some a, none)) else (some a, some b)
  | some a, none => (some a, none)
  | none, v => (none, v)
def goX (Y : zS) (p : Nat) (e : Option Nat × Option Nat) : zS := Option.elim e.2 (Option.elim e.1 Y fun a => upX Y p a) fun b => dnX (Option.elim e.1 Y fun a => upX Y p a) p b
def goM (N : zS) (p : Nat) (e : Option Nat × Option Nat) : zS := Option.elim e.2 (Option.elim e.1 N fun a => upM N p a) fun b => dnM (Option.elim e.1 N fun a => upM N p a) p b
theorem oi_none : oi none = -9 := rfl
theorem oi_some (a : Nat) : oi (some a) = (a : Int) := rfl
theorem oi_n (a : Nat) : ¬ oi (some a) = -9 := by rw [oi_some]; omega
section DE
variable {P C K : Nat} {D : Int} {X M : zS}
theorem zS4_eq (hr : RR P C K D X M) {nf n p : Nat} (h0 : 0 < p) (hp : p < P) (e : Option Nat × Option Nat) (h1 : ∀ a, e.1 = some a → a < C ∧ wW M p 1 a) (h2 : ∀ b, e.2 = some b → b < C) : zS4 nf n p M (oi e.1) (oi e.2) = fX11_letAll_L2 0 nf n (goM M p e) ((p + 1 : Nat) : Int) := by
  have h16 := hr.1.2.2.1
  have wp : wr ((p : Int) + 1) = ((p + 1 : Nat) : Int) := nat_wr p (by omega)
  obtain ⟨u, v⟩ := e
  unfold zS4 goM
  simp only [nm_eq, wp]
  clear wp
  cases u with
  | none =>
    rw [if_pos (show oi ((none : Option Nat), v).1 = -9 from rfl), oe_none]
    cases v with
    | none => rw [if_pos (show oi ((none : Option Nat), (none : Option Nat)).2 = -9 from rfl), oe_none]
    | some b =>
      rw [if_neg (show ¬ oi ((none : Option Nat), some b).2 = -9 from oi_n b), oe_some]
      rw [show oi ((none : Option Nat), some b).2 = (b : Int) from rfl, letOn_dn hr hp (h2 b rfl), cl_some]
  | some a =>
    obtain ⟨ha, hw⟩ := h1 a rfl
    have hr2 := up_go hr h0 hp ha hw
    rw [if_neg (show ¬ oi (some a, v).1 = -9 from oi_n a), oe_some]
    rw [show oi (some a, v).1 = (a : Int) from rfl, letOn_up hr hp ha, cl_some]
    cases v with
    | none => rw [if_pos (show oi (some a, (none : Option Nat)).2 = -9 from rfl), oe_none]
    | some b =>
      rw [if_neg (show ¬ oi (some a, some b).2 = -9 from oi_n b), oe_some]
      rw [show oi (some a, some b).2 = (b : Int) from rfl, letOn_dn hr2 hp (h2 b rfl), cl_some]
theorem dec_n (M : zS) (p : Nat) (v : Option Nat) : dec0 M p none v = (none, v) := by cases v <;> rfl
theorem dec_r (M : zS) (p : Nat) (u : Option Nat) : dec0 M p u none = (u, none) := by cases u <;> rfl
theorem dec_s (M : zS) (p a b : Nat) : dec0 M p (some a) (some b) = if gI M 71 0 p = 0 then (if gI M 84 0 b < gI M 84 0 a then (none, some b) else (some a, none)) else (some a, some b) := rfl
theorem zS3_ab (hr : RR P C K D X M) {nf p : Nat} (hp : p < P) (κ : zS → Int → Int → Option (Unit × zS)) (U V : Option Nat) (hU : ∀ a, U = some a → a < C) (hV : ∀ b, V = some b → b < C) {l1 l0 ou od g : Int} (hcu : fX11_isClear M 0 p 1 = some ((if l1 < g then 0 else 1), M)) (hcd : fX11_isClear M 0 p 0 = some ((if l0 < g then 0 else 1), M)) (hou : fX11_onMany nf M 0 p 1 = some (ou, M)) (hod : fX11_onMany nf M 0 p 0 = some (od, M)) {A B : Prop} [Decidable A] [Decidable B] (hA : A ↔ ¬ l1 < g ∧ (gI M 71 0 p ≠ 0 ∨ (od = 0 ∧ ¬ l0 < g))) (hB : B ↔ ¬ l0 < g ∧ (gI M 71 0 p ≠ 0 ∨ (ou = 0 ∧ ¬ l1 < g))) :
    zS3 κ nf p M (oi U) (oi V) = (fun e : Option Nat × Option Nat => κ M (oi e.1) (oi e.2)) (dec0 M p (if A then U else none) (if B then V else none)) := by
  have hM := hr.1.2.1
  have h16 := hr.1.2.2.1
  have gp : (0 : Int) ≤ (p : Int) ∧ (p : Int) < 16 := by omega
  unfold zS3
  by_cases db : gI M 71 0 p = 0
  · simp only [nm_eq, hM.2 5 rfl, ob_some, g_t gp, Int.toNat_natCast, hcu]
    rw [if_pos db, cl_some]
    by_cases cu : l1 < g
    · have x1 : ¬ A := fun q => (hA.1 q).1 cu
      have x2 : ¬ B := fun q => by rcases (hB.1 q).2 with q | q; exact q db; exact q.2 cu
      rw [if_neg x1, if_neg x2, dec_n]
      simp only [if_pos cu, ↓reduceIte, oi_none]
    · by_cases cd : l0 < g
      · have x1 : ¬ A := fun q => by rcases (hA.1 q).2 with q | q; exact q db; exact q.2 cd
        have x2 : ¬ B := fun q => (hB.1 q).1 cd
        rw [if_neg x1, if_neg x2, dec_n]
        simp only [if_neg cu, if_pos cd, hcd, cl_some, Int.reduceEq, ↓reduceIte, oi_none]
      · have e1 : A ↔ od = 0 := ⟨fun q => by rcases (hA.1 q).2 with q | q; exact absurd db q; exact q.1, fun q => hA.2 ⟨cu, Or.inr ⟨q, cd⟩⟩⟩
        have e2 : B ↔ ou = 0 := ⟨fun q => by rcases (hB.1 q).2 with q | q; exact absurd db q; exact q.1, fun q => hB.2 ⟨cd, Or.inr ⟨q, cu⟩⟩⟩
        clear hA hB
        simp only [if_neg cu, if_neg cd, hcd, hou, hod, cl_some, Int.reduceEq, ↓reduceIte]
        by_cases x1 : A
        · have zo := e1.1 x1
          by_cases x2 : B
          · have zu := e2.1 x2
            rw [if_pos x1, if_pos x2, if_pos zo]
            simp only [if_pos zu]
            cases U with
            | none => rw [dec_n]; simp only [oi_none, ↓reduceIte]
            | some a =>
              cases V with
              | none => rw [dec_r]; simp only [oi_none, oi_n, ↓reduceIte]
              | some b =>
                have ga : (0 : Int) ≤ (a : Int) ∧ (a : Int) < 24 := by have := hU a rfl; omega
                have gb : (0 : Int) ≤ (b : Int) ∧ (b : Int) < 24 := by have := hV b rfl; omega
                rw [if_neg (oi_n a), if_neg (oi_n b), hM.2 18 rfl, ob_some, g_t (show 0 ≤ oi (some a) ∧ oi (some a) < 24 from ga), ob_some, g_t (show 0 ≤ oi (some b) ∧ oi (some b) < 24 from gb)]
                rw [show Int.toNat (oi (some a)) = a from Int.toNat_natCast a, show Int.toNat (oi (some b)) = b from Int.toNat_natCast b, dec_s, if_pos db]
                by_cases st : gI M 84 0 b < gI M 84 0 a
                · rw [if_pos st, if_pos st]
                  rfl
                · rw [if_neg st, if_neg st]
                  rfl
          · have zu : ¬ ou = 0 := fun q => x2 (e2.2 q)
            rw [if_pos x1, if_neg x2, dec_r, if_pos zo]
            simp only [if_neg zu, oi_none, ↓reduceIte, ite_self]
        · have zo : ¬ od = 0 := fun q => x1 (e1.2 q)
          rw [if_neg x1, dec_n, if_neg zo]
          by_cases x2 : B
          · have zu := e2.1 x2
            rw [if_pos x2]
            simp only [if_pos zu, oi_none, ↓reduceIte]
          · have zu : ¬ ou = 0 := fun q => x2 (e2.2 q)
            rw [if_neg x2]
            simp only [if_neg zu, oi_none, ↓reduceIte]
  · have d2 : ∀ u v : Option Nat, dec0 M p u v = (u, v) := fun u v => by
      cases u with
      | none => rw [dec_n]
      | some a =>
        cases v with
        | none => rw [dec_r]
        | some b => rw [dec_s, if_neg db]
    have e1 : A ↔ ¬ l1 < g := ⟨fun q => (hA.1 q).1, fun q => hA.2 ⟨q, Or.inl db⟩⟩
    have e2 : B ↔ ¬ l0 < g := ⟨fun q => (hB.1 q).1, fun q => hB.2 ⟨q, Or.inl db⟩⟩
    clear hA hB
    rw [d2]
    simp only [nm_eq, hM.2 5 rfl, ob_some, g_t gp, Int.toNat_natCast, hcu, hcd, cl_some]
    rw [if_neg db]
    by_cases cu : l1 < g
    · have x1 : ¬ A := fun q => e1.1 q cu
      by_cases cd : l0 < g
      · have x2 : ¬ B := fun q => e2.1 q cd
        simp only [if_neg x1, if_neg x2, if_pos cu, if_pos cd, ↓reduceIte, oi_none]
      · have x2 : B := e2.2 cd
        simp only [if_neg x1, if_pos x2, if_pos cu, if_neg cd, Int.reduceEq, ↓reduceIte, oi_none]
    · have x1 : A := e1.2 cu
      by_cases cd : l0 < g
      · have x2 : ¬ B := fun q => e2.1 q cd
        simp only [if_pos x1, if_neg x2, if_neg cu, if_pos cd, Int.reduceEq, ↓reduceIte, oi_none]
      · have x2 : B := e2.2 cd
        simp only [if_pos x1, if_pos x2, if_neg cu, if_neg cd, Int.reduceEq, ↓reduceIte, oi_none]
theorem zS3_eq (hr : RR P C K D X M) {nf p : Nat} (hnf : 1000 ≤ nf) (h0 : 0 < p) (hp : p < P) (κ : zS → Int → Int → Option (Unit × zS)) (U V : Option Nat) (hU : ∀ a, U = some a → a < C) (hV : ∀ b, V = some b → b < C) :
    zS3 κ nf p M (oi U) (oi V) = (fun e : Option Nat × Option Nat => κ M (oi e.1) (oi e.2)) (dec0 M p (if ¬ gI M 64 0 13 - lsM M p 1 < gI M 70 0 p ∧ (gI M 71 0 p ≠ 0 ∨ (onS M p 0 C = 0 ∧ ¬ gI M 64 0 13 - lsM M p 0 < gI M 70 0 p)) then U else none) (if ¬ gI M 64 0 13 - lsM M p 0 < gI M 70 0 p ∧ (gI M 71 0 p ≠ 0 ∨ (onS M p 1 C = 0 ∧ ¬ gI M 64 0 13 - lsM M p 1 < gI M 70 0 p)) then V else none)) :=
  zS3_ab hr hp κ U V hU hV (clear_eq hr hp h0 (Or.inr rfl)) (clear_eq hr hp h0 (Or.inl rfl)) (onMany_eq hr hnf 1) (onMany_eq hr hnf 0) Iff.rfl Iff.rfl
theorem zS2_eq (hr : RR P C K D X M) {nf p : Nat} (hnf : 1000 ≤ nf) (h0 : 0 < p) (hp : p < P) (κ : zS → Int → Option (Unit × zS)) (hn : fW M X C p 0) : zS2 κ nf p M = κ M (oi (if gI M 72 0 p = 0 ∧ ¬ nrS M p 0 C < gI M 70 0 p then gR X 10 (2 * p + 1) 3 else none)) := by
  have hM := hr.1.2.1
  have h16 := hr.1.2.2.1
  have gp : (0 : Int) ≤ (p : Int) ∧ (p : Int) < 16 := by omega
  unfold zS2
  simp only [nm_eq, hM.2 6 rfl, ob_some, g_t gp, Int.toNat_natCast, near_eq hr hnf hp h0, cl_some, down_told hr hnf h0 hp hn]
  by_cases b : gI M 72 0 p = 0
  · rw [if_pos b]
    by_cases c : nrS M p 0 C < gI M 70 0 p
    · rw [if_pos c, if_neg (by decide), if_neg (fun q => q.2 c), oi_none]
    · rw [if_neg c, if_pos rfl, if_pos ⟨b, c⟩]
  · rw [if_neg b, if_neg (fun q => b q.1), oi_none]
theorem zS1_eq (hr : RR P C K D X M) {nf p : Nat} (hnf : 1000 ≤ nf) (h0 : 0 < p) (hp : p < P) (κ : zS → Int → Option (Unit × zS)) (hn : fW M X C p 1) : zS1 κ nf p M = κ M (oi (if gI M 72 0 p = 0 ∧ ¬ nrS M p 1 C < gI M 70 0 p then gR X 10 (2 * p) 3 else none)) := by
  have hM := hr.1.2.1
  have h16 := hr.1.2.2.1
  have gp : (0 : Int) ≤ (p : Int) ∧ (p : Int) < 16 := by omega
  unfold zS1
  simp only [nm_eq, hM.2 6 rfl, ob_some, g_t gp, Int.toNat_natCast, near_eq hr hnf hp h0, cl_some, up_told hr hnf h0 hp hn]
  by_cases b : gI M 72 0 p = 0
  · rw [if_pos b]
    by_cases c : nrS M p 1 C < gI M 70 0 p
    · rw [if_pos c, if_neg (by decide), if_neg (fun q => q.2 c), oi_none]
    · rw [if_neg c, if_pos rfl, if_pos ⟨b, c⟩]
  · rw [if_neg b, if_neg (fun q => b q.1), oi_none]
/-! the class's side -/
theorem free_eq {Y : zS} {p w w' : Nat} {nr g t l db c l' : Int} (e1 : gI Y 10 w 2 = nr) (e2 : gI Y 8 p 4 = g) (e3 : gI Y 0 0 13 = t) (e4 : gI Y 10 w 0 = l) (e5 : gI Y 8 p 5 = db) (e6 : gI Y 10 w' 1 = c) (e7 : gI Y 10 w' 0 = l') (w1 : wr (t - l) = t - l) (w2 : wr (t - l') = t - l') : fX10_isFree Y 0 (some p) (some w) (some w') = some ((if ¬ nr < g ∧ ¬ t - l < g ∧ (db ≠ 0 ∨ (c = 0 ∧ ¬ t - l' < g)) then 1 else 0), Y) := by
  unfold fX10_isFree
  simp only [ob_some, e1, e2, e3, e4, e5, e6, e7, w1, w2]
  by_cases a : nr < g
  · rw [if_pos a, if_neg (fun q => q.1 a)]
  · rw [if_neg a]
    by_cases b : t - l < g
    · rw [if_pos b, if_neg (fun q => q.2.1 b)]
    · rw [if_neg b]
      by_cases d : db = 0
      · rw [if_pos d]
        by_cases e : c = 0
        · rw [if_pos e]
          by_cases f : t - l' < g
          · rw [if_pos f, if_neg (fun q => by rcases q.2.2 with q | q; exact q d; exact q.2 f)]
          · rw [if_neg f, if_pos ⟨a, b, Or.inr ⟨e, f⟩⟩]
        · rw [if_neg e, if_neg (fun q => by rcases q.2.2 with q | q; exact q d; exact e q.1)]
      · rw [if_neg d, if_pos ⟨a, b, Or.inl d⟩]
theorem letX {Y : zS} {p : Nat} {U V : Option Nat} {A B : Prop} [Decidable A] [Decidable B] (hU : gR Y 10 (2 * p) 3 = U) (hV : gR Y 10 (2 * p + 1) 3 = V) (r7 : gR Y 8 p 7 = some (2 * p)) (r8 : gR Y 8 p 8 = some (2 * p + 1)) (fA : fX10_isFree Y 0 (some p) (some (2 * p)) (some (2 * p + 1)) = some ((if A then 1 else 0), Y)) (fB : fX10_isFree Y 0 (some p) (some (2 * p + 1)) (some (2 * p)) = some ((if B then 1 else 0), Y)) (h71 : gI Y 8 p 5 = gI M 71 0 p) (hs : ∀ a b, U = some a → V = some b → gI Y 5 a 10 = gI M 84 0 a ∧ gI Y 5 b 10 = gI M 84 0 b) : fX10_letOn Y 0 (some p) = some ((), goX Y p (dec0 M p (if A then U else none) (if B then V else none))) := by
  have n1 : ¬ 2 * p = 2 * p + 1 := by omega
  have n2 : ¬ 2 * p + 1 = 2 * p := by omega
  have up1 : ∀ a, fX4_goOn (sI (sI Y 8 p 10 (Option.elim (gR Y 5 a 6) (gI Y 8 p 10) fun i => gI Y 8 i 0)) 10 (2 * p) 0 (gI Y 0 0 13)) a (some p) 1 = some ((), upX Y p a) := fun a => by
    unfold fX4_goOn fX4_leaveFor upX
    simp only [nm_eq, up_eq, cl_some, ob_some, oe_some, oe_none, ob_none, ↓reduceIte, and_true, true_and, and_false, false_and, and_self, or_true, true_or, or_false, false_or, or_self, Nat.reduceEqDiff, Int.reduceNeg, ne_eq, not_true_eq_false, not_false_eq_true, Int.toNat_natCast, reduceCtorEq, i10, i01, implies_true, true_implies, false_implies, g_t (c := True) trivial, Int.reduceEq]
  have dn1 : ∀ (Z : zS) b, fX4_goOn (sI Z 10 (2 * p + 1) 0 (gI Z 0 0 13)) b (some p) 0 = some ((), dnX Z p b) := fun Z b => by
    unfold fX4_goOn fX4_leaveFor dnX
    simp only [nm_eq, up_eq, cl_some, ob_some, oe_some, oe_none, ob_none, ↓reduceIte, and_true, true_and, and_false, false_and, and_self, or_true, true_or, or_false, false_or, or_self, Nat.reduceEqDiff, Int.reduceNeg, ne_eq, not_true_eq_false, not_false_eq_true, Int.toNat_natCast, reduceCtorEq, i10, i01, implies_true, true_implies, false_implies, g_t (c := True) trivial, Int.reduceEq]
  have r8u : ∀ a, gR (upX Y p a) 8 p 8 = some (2 * p + 1) := fun a => by unfold upX; simp only [gI_sI, gI_sR, gI_sN, gI_sCp, gI_sB, gR_sI, gR_sR, gR_sN, gR_sCp, gR_sB, gN_sI, gN_sR, gN_sN, gN_sCp, gN_sB]; exact r8
  have c13 : ∀ (v : Int), gI (sI Y 8 p 10 v) 0 0 13 = gI Y 0 0 13 := fun v => by simp only [gI_sI, gI_sR, gI_sN, gI_sCp, gI_sB, gR_sI, gR_sR, gR_sN, gR_sCp, gR_sB, gN_sI, gN_sR, gN_sN, gN_sCp, gN_sB, ↓reduceIte, and_true, true_and, and_false, false_and, and_self, or_true, true_or, or_false, false_or, or_self, Nat.reduceEqDiff, Int.reduceNeg, ne_eq, not_true_eq_false, not_false_eq_true, Int.toNat_natCast, reduceCtorEq, i10, i01, implies_true, true_implies, false_implies, g_t (c := True) trivial]
  have c7 : ∀ (v : Int), gR (sI Y 8 p 10 v) 8 p 7 = some (2 * p) := fun v => by simp only [gI_sI, gI_sR, gI_sN, gI_sCp, gI_sB, gR_sI, gR_sR, gR_sN, gR_sCp, gR_sB, gN_sI, gN_sR, gN_sN, gN_sCp, gN_sB]; exact r7
  unfold fX10_letOn
  cases U with
  | none =>
    rw [ite_self, dec_n]
    cases V with
    | none => simp only [nm_eq, ob_some, ob_none, oe_some, oe_none, cl_some, up_eq, i10, r7, r8, hU, hV, fA, fB, Int.reduceEq, ↓reduceIte, ite_self, not_true_eq_false, not_false_eq_true]; rfl
    | some b =>
      by_cases hB : B
      · rw [if_pos hB]; simp only [nm_eq, ob_some, ob_none, oe_some, oe_none, cl_some, up_eq, i10, r7, r8, hU, hV, fA, fB, Int.reduceEq, ↓reduceIte, ite_self, not_true_eq_false, not_false_eq_true, hB, dn1]; rfl
      · rw [if_neg hB]; simp only [nm_eq, ob_some, ob_none, oe_some, oe_none, cl_some, up_eq, i10, r7, r8, hU, hV, fA, fB, Int.reduceEq, ↓reduceIte, ite_self, not_true_eq_false, not_false_eq_true, hB]; rfl
  | some a =>
    by_cases hA : A
    · rw [if_pos hA]
      obtain ⟨v, hv, hv2⟩ : ∃ v : Int, (Option.elim (gR Y 5 a 6) (gI Y 8 p 10) fun i => gI Y 8 i 0) = v ∧ ((gR Y 5 a 6 = none ∧ v = gI Y 8 p 10) ∨ ∃ i, gR Y 5 a 6 = some i ∧ v = gI Y 8 i 0) := by
        cases h6 : gR Y 5 a 6 with
        | none => exact ⟨_, rfl, Or.inl ⟨rfl, rfl⟩⟩
        | some i => exact ⟨_, rfl, Or.inr ⟨i, rfl, rfl⟩⟩
      have up2 : fX4_goOn (sI (sI Y 8 p 10 v) 10 (2 * p) 0 (gI Y 0 0 13)) a (some p) 1 = some ((), upX Y p a) := by rw [← hv]; exact up1 a
      cases V with
      | none =>
        rw [ite_self, dec_r]
        rcases hv2 with ⟨h6, e⟩ | ⟨i, h6, e⟩
        · simp only [nm_eq, ob_some, ob_none, oe_some, oe_none, cl_some, up_eq, i10, r7, r8, hU, hV, fA, fB, Int.reduceEq, ↓reduceIte, ite_self, not_true_eq_false, not_false_eq_true, hA, h6, ← e, c7, c13, up2]; rfl
        · simp only [nm_eq, ob_some, ob_none, oe_some, oe_none, cl_some, up_eq, i10, r7, r8, hU, hV, fA, fB, Int.reduceEq, ↓reduceIte, ite_self, not_true_eq_false, not_false_eq_true, hA, h6, ← e, c7, c13, up2]; rfl
      | some b =>
        by_cases hB : B
        · rw [if_pos hB, dec_s]
          obtain ⟨s1, s2⟩ := hs a b rfl rfl
          by_cases db : gI M 71 0 p = 0
          · rw [if_pos db]
            by_cases st : gI M 84 0 b < gI M 84 0 a
            · rw [if_pos st]; simp only [nm_eq, ob_some, ob_none, oe_some, oe_none, cl_some, up_eq, i10, r7, r8, hU, hV, fA, fB, Int.reduceEq, ↓reduceIte, ite_self, not_true_eq_false, not_false_eq_true, hA, hB, h71, db, s1, s2, st, dn1]; rfl
            · rw [if_neg st]
              rcases hv2 with ⟨h6, e⟩ | ⟨i, h6, e⟩
              · simp only [nm_eq, ob_some, ob_none, oe_some, oe_none, cl_some, up_eq, i10, r7, r8, hU, hV, fA, fB, Int.reduceEq, ↓reduceIte, ite_self, not_true_eq_false, not_false_eq_true, hA, hB, h71, db, s1, s2, st, h6, ← e, c7, c13, up2]; rfl
              · simp only [nm_eq, ob_some, ob_none, oe_some, oe_none, cl_some, up_eq, i10, r7, r8, hU, hV, fA, fB, Int.reduceEq, ↓reduceIte, ite_self, not_true_eq_false, not_false_eq_true, hA, hB, h71, db, s1, s2, st, h6, ← e, c7, c13, up2]; rfl
          · rw [if_neg db]
            rcases hv2 with ⟨h6, e⟩ | ⟨i, h6, e⟩
            · simp only [nm_eq, ob_some, ob_none, oe_some, oe_none, cl_some, up_eq, i10, r7, r8, hU, hV, fA, fB, Int.reduceEq, ↓reduceIte, ite_self, not_true_eq_false, not_false_eq_true, hA, hB, h71, db, h6, ← e, c7, c13, up2, r8u, dn1]; rfl
            · simp only [nm_eq, ob_some, ob_none, oe_some, oe_none, cl_some, up_eq, i10, r7, r8, hU, hV, fA, fB, Int.reduceEq, ↓reduceIte, ite_self, not_true_eq_false, not_false_eq_true, hA, hB, h71, db, h6, ← e, c7, c13, up2, r8u, dn1]; rfl
        · rw [if_neg hB, dec_r]
          rcases hv2 with ⟨h6, e⟩ | ⟨i, h6, e⟩
          · simp only [nm_eq, ob_some, ob_none, oe_some, oe_none, cl_some, up_eq, i10, r7, r8, hU, hV, fA, fB, Int.reduceEq, ↓reduceIte, ite_self, not_true_eq_false, not_false_eq_true, hA, hB, h6, ← e, c7, c13, up2]; rfl
          · simp only [nm_eq, ob_some, ob_none, oe_some, oe_none, cl_some, up_eq, i10, r7, r8, hU, hV, fA, fB, Int.reduceEq, ↓reduceIte, ite_self, not_true_eq_false, not_false_eq_true, hA, hB, h6, ← e, c7, c13, up2]; rfl
    · rw [if_neg hA, dec_n]
      cases V with
      | none => simp only [nm_eq, ob_some, ob_none, oe_some, oe_none, cl_some, up_eq, i10, r7, r8, hU, hV, fA, fB, Int.reduceEq, ↓reduceIte, ite_self, not_true_eq_false, not_false_eq_true, hA]; rfl
      | some b =>
        by_cases hB : B
        · rw [if_pos hB]; simp only [nm_eq, ob_some, ob_none, oe_some, oe_none, cl_some, up_eq, i10, r7, r8, hU, hV, fA, fB, Int.reduceEq, ↓reduceIte, ite_self, not_true_eq_false, not_false_eq_true, hA, hB, dn1]; rfl
        · rw [if_neg hB]; simp only [nm_eq, ob_some, ob_none, oe_some, oe_none, cl_some, up_eq, i10, r7, r8, hU, hV, fA, fB, Int.reduceEq, ↓reduceIte, ite_self, not_true_eq_false, not_false_eq_true, hA, hB]; rfl
end DE
