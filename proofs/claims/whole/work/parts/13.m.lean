def fX6_addCup (s0 : zS) (i0 : Nat) (x1 : Int) : Option (Unit × zS) :=
  if gI s0 7 i0 4 < 6 then (nm_ (gR s0 7 i0 3) fun (r_1 : Option Nat) => Option.bind r_1 fun i_2 => g_ ((0 : Int) ≤ gI s0 7 i0 4 ∧ (gI s0 7 i0 4 : Int) < 6) (up_ (sI s0 24 i_2 (Int.toNat (gI s0 7 i0 4)) x1) fun (s_5 : zS) => up_ (sI s_5 7 i0 4 (wr ((gI s_5 7 i0 4) + 1))) fun (s_6 : zS) => some ((), s_6))) else (some ((), s0))
set_option maxHeartbeats 4000000 in
set_option maxRecDepth 20000 in
theorem kX6_addCup (s0 : zS) (i0 : Nat) (x1 : Int) : zCt zw yX6_addCup cX6_addCup 2 none 0 0 0 0 eV [.inr (7, some i0), .inl x1] s0 (fX6_addCup s0 i0 x1) := by
  refine zCt_on (own := RX6) (nm := "addCup") rfl rfl (by decide) (Nat.le_of_ble_eq_true rfl) fun K C => ?_
  show zJ zw 2 K _ 0 0 0 [(0, .inr (7, some i0)), (1, .inl x1)] [] s0 (fX6_addCup s0 i0 x1)
  unfold fX6_addCup
  refine J_aload_n C 0 dX6_addCup_0 rfl ?_
  refine gf_7_4 C dX6_addCup_1 q_107 ?_
  refine J_bipush C dX6_addCup_4 (zi9 rfl rfl) (by decide) ?_
  refine J_ic_ge C 29 dX6_addCup_6 rfl (fun _ => ?_) (fun _ => ?_)
  · exact J_vret C dX6_addCup_29 (by decide) (by decide)
  · refine J_aload_n C 0 dX6_addCup_9 rfl ?_
    refine gf_7_3 C dX6_addCup_10 q_106 ?_
    refine J_nmR fun r_1 => ?_
    refine J_aload_n C 0 dX6_addCup_13 rfl ?_
    refine gf_7_4 C dX6_addCup_14 q_107 ?_
    refine J_iload_n C 1 dX6_addCup_17 rfl ?_
    refine J_bind fun i_2 e_3 => ?_
    subst e_3
    refine J_g fun h_4 => ?_
    refine J_iast (t := 24) (N := 6) C (Nat.le_of_ble_eq_true rfl) rfl rfl h_4 dX6_addCup_18 fun s_5 => ?_
    refine J_aload_n C 0 dX6_addCup_19 rfl ?_
    refine J_dup C dX6_addCup_20 ?_
    refine gf_7_4 C dX6_addCup_21 q_107 ?_
    refine J_iconst C dX6_addCup_24 (zi9 rfl rfl) ?_
    refine J_iadd C dX6_addCup_25 ?_
    refine pf_7_4 C dX6_addCup_26 q_107 fun s_6 => ?_
    exact J_vret C dX6_addCup_29 (by decide) (by decide)
def fX6_layPlaces_L14 (k45 : zS → Int → Option (Unit × zS)) (o0 : Nat) (c1 : Int) (nf : Nat) : Nat → zS → Int → Int → Option (Unit × zS)
  | 0, _, _, _ => none
  | n + 1, s0, x2, x3 =>
    if x3 < gI s0 7 o0 2 then (nm_ (gR s0 7 o0 0) fun (r_1 : Option Nat) => Option.bind r_1 fun i_2 => g_ ((0 : Int) ≤ x3 ∧ (x3 : Int) < 4) (nm_ (gR s0 7 o0 0) fun (r_5 : Option Nat) => Option.bind r_5 fun i_6 => g_ ((0 : Int) ≤ x2 ∧ (x2 : Int) < 4) (nm_ (fun (s_9 : zS) (y_10 : Int) => nm_ (wr (x3 + 1)) fun (x_11 : Int) => fX6_layPlaces_L14 k45 o0 c1 nf n s_9 y_10 x_11) fun (j39 : zS → Int → Option (Unit × zS)) => if gI s0 22 i_2 (Int.toNat (x3)) < gI s0 22 i_6 (Int.toNat (x2)) then (j39 s0 x3) else (j39 s0 x2)))) else (k45 s0 x2)
def fX6_layPlaces_L2 (o0 : Nat) (nf : Nat) : Nat → zS → Int → Option (Unit × zS)
  | 0, _, _ => none
  | n + 1, s0, x1 =>
    if x1 < gI s0 7 o0 4 then (fX6_layPlaces_L14 (fun (s_2 : zS) (y_1 : Int) => nm_ (gR s_2 7 o0 0) fun (r_3 : Option Nat) => Option.bind r_3 fun i_4 => g_ ((0 : Int) ≤ y_1 ∧ (y_1 : Int) < 4) (nm_ (gR s_2 7 o0 1) fun (r_7 : Option Nat) => Option.bind r_7 fun i_8 => g_ ((0 : Int) ≤ y_1 ∧ (y_1 : Int) < 4) (g_ ((0 : Int) ≤ y_1 ∧ (y_1 : Int) < 4) (up_ (sI s_2 22 i_4 (Int.toNat (y_1)) (wr ((gI s_2 22 i_4 (Int.toNat (y_1))) + (gI s_2 23 i_8 (Int.toNat (y_1)))))) fun (s_12 : zS) => nm_ (gR s_12 7 o0 5) fun (r_13 : Option Nat) => nm_ (gR s_12 7 o0 0) fun (r_14 : Option Nat) => Option.bind r_14 fun i_15 => g_ ((0 : Int) ≤ y_1 ∧ (y_1 : Int) < 4) (Option.bind r_13 fun i_18 => g_ ((0 : Int) ≤ x1 ∧ (x1 : Int) < 6) (up_ (sI s_12 25 i_18 (Int.toNat (x1)) (gI s_12 22 i_15 (Int.toNat (y_1)))) fun (s_21 : zS) => nm_ (wr (x1 + 1)) fun (x_22 : Int) => fX6_layPlaces_L2 o0 nf n s_21 x_22)))))) o0 x1 nf nf s0 0 1) else (some ((), s0))
def fX6_layPlaces (nf : Nat) (s0 : zS) (i0 : Nat) : Option (Unit × zS) :=
  fX6_layPlaces_L2 i0 nf nf s0 0
set_option maxHeartbeats 4000000 in
set_option maxRecDepth 20000 in
theorem kX6_layPlaces_L14 {K : zKx} (C : zC zw 4 K RX6 cX6_layPlaces "layPlaces" none 0 0 0 0)  (nf : Nat) (o0 : Nat) (c1 : Int) (k45 : zS → Int → Option (Unit × zS)) (hk45 : ∀ (s1 : zS) (z2 : Int), zJ zw 4 K (zQm zw eV 0 0 K) 0 0 45 [(0, .inr (7, some o0)), (1, .inl c1), (2, .inl z2)] [] s1 (k45 s1 z2)) : ∀ (n : Nat) (s0 : zS) (x2 : Int) (x3 : Int), zJ zw 4 K (zQm zw eV 0 0 K) 0 0 14 [(0, .inr (7, some o0)), (1, .inl c1), (2, .inl x2), (3, .inl x3)] [] s0 (fX6_layPlaces_L14 k45 o0 c1 nf n s0 x2 x3) := by
  intro n
  induction n with
  | zero => intro s0 x2 x3; exact J_none
  | succ n ih =>
    intro s0 x2 x3
    rw [fX6_layPlaces_L14]
    refine J_iload_n C 3 dX6_layPlaces_14 rfl ?_
    refine J_aload_n C 0 dX6_layPlaces_15 rfl ?_
    refine gf_7_2 C dX6_layPlaces_16 q_105 ?_
    refine J_ic_ge C 45 dX6_layPlaces_19 rfl (fun _ => ?_) (fun _ => ?_)
    · refine J_loc (L' := [(0, .inr (7, some o0)), (1, .inl c1), (2, .inl x2)]) [0, 1, 2] rfl ?_
      exact hk45 _ _
    · refine J_aload_n C 0 dX6_layPlaces_22 rfl ?_
      refine gf_7_0 C dX6_layPlaces_23 q_103 ?_
      refine J_nmR fun r_1 => ?_
      refine J_iload_n C 3 dX6_layPlaces_26 rfl ?_
      refine J_bind fun i_2 e_3 => ?_
      subst e_3
      refine J_g fun h_4 => ?_
      refine J_iald (t := 22) (N := 4) C (Nat.le_of_ble_eq_true rfl) rfl rfl h_4 dX6_layPlaces_27 ?_
      refine J_aload_n C 0 dX6_layPlaces_28 rfl ?_
      refine gf_7_0 C dX6_layPlaces_29 q_103 ?_
      refine J_nmR fun r_5 => ?_
      refine J_iload_n C 2 dX6_layPlaces_32 rfl ?_
      refine J_bind fun i_6 e_7 => ?_
      subst e_7
      refine J_g fun h_8 => ?_
      refine J_iald (t := 22) (N := 4) C (Nat.le_of_ble_eq_true rfl) rfl rfl h_8 dX6_layPlaces_33 ?_
      refine J_join (fun j39 => ∀ (s_9 : zS) (y_10 : Int), zJ zw 4 K (zQm zw eV 0 0 K) 0 0 39 [(0, .inr (7, some o0)), (1, .inl c1), (2, .inl y_10), (3, .inl x3)] [] s_9 (j39 s_9 y_10)) ?_ fun j39 hj39 => ?_
      · intro s_9 y_10
        refine J_iinc C 3 dX6_layPlaces_39 (zi9 rfl rfl) (Nat.le_of_ble_eq_true rfl) rfl fun x_11 => ?_
        refine J_goto C 14 dX6_layPlaces_42 rfl ?_
        exact ih _ _ _
      · refine J_ic_ge C 39 dX6_layPlaces_34 rfl (fun _ => ?_) (fun _ => ?_)
        · exact hj39 _ _
        · refine J_iload_n C 3 dX6_layPlaces_37 rfl ?_
          refine J_istore_n (L' := [(0, .inr (7, some o0)), (1, .inl c1), (2, .inl x3), (3, .inl x3)]) C dX6_layPlaces_38 (Nat.le_of_ble_eq_true rfl) rfl ?_
          exact hj39 _ _
set_option maxHeartbeats 4000000 in
set_option maxRecDepth 20000 in
theorem kX6_layPlaces_L2 {K : zKx} (C : zC zw 4 K RX6 cX6_layPlaces "layPlaces" none 0 0 0 0)  (nf : Nat) (o0 : Nat) : ∀ (n : Nat) (s0 : zS) (x1 : Int), zJ zw 4 K (zQm zw eV 0 0 K) 0 0 2 [(0, .inr (7, some o0)), (1, .inl x1)] [] s0 (fX6_layPlaces_L2 o0 nf n s0 x1) := by
  intro n
  induction n with
  | zero => intro s0 x1; exact J_none
  | succ n ih =>
    intro s0 x1
    rw [fX6_layPlaces_L2]
    refine J_iload_n C 1 dX6_layPlaces_2 rfl ?_
    refine J_aload_n C 0 dX6_layPlaces_3 rfl ?_
    refine gf_7_4 C dX6_layPlaces_4 q_107 ?_
    refine J_ic_ge C 78 dX6_layPlaces_7 rfl (fun _ => ?_) (fun _ => ?_)
    · exact J_vret C dX6_layPlaces_78 (by decide) (by decide)
    · refine J_iconst C dX6_layPlaces_10 (zi9 rfl rfl) ?_
      refine J_istore_n (L' := [(0, .inr (7, some o0)), (1, .inl x1), (2, .inl 0)]) C dX6_layPlaces_11 (Nat.le_of_ble_eq_true rfl) rfl ?_
      refine J_iconst C dX6_layPlaces_12 (zi9 rfl rfl) ?_
      refine J_istore_n (L' := [(0, .inr (7, some o0)), (1, .inl x1), (2, .inl 0), (3, .inl 1)]) C dX6_layPlaces_13 (Nat.le_of_ble_eq_true rfl) rfl ?_
      refine kX6_layPlaces_L14 C _ _ _ _ ?_ _ _ _ _
      intro s_2 y_1
      refine J_aload_n C 0 dX6_layPlaces_45 rfl ?_
      refine gf_7_0 C dX6_layPlaces_46 q_103 ?_
      refine J_nmR fun r_3 => ?_
      refine J_iload_n C 2 dX6_layPlaces_49 rfl ?_
      refine J_dup2 C dX6_layPlaces_50 ?_
      refine J_bind fun i_4 e_5 => ?_
      subst e_5
      refine J_g fun h_6 => ?_
      refine J_iald (t := 22) (N := 4) C (Nat.le_of_ble_eq_true rfl) rfl rfl h_6 dX6_layPlaces_51 ?_
      refine J_aload_n C 0 dX6_layPlaces_52 rfl ?_
      refine gf_7_1 C dX6_layPlaces_53 q_104 ?_
      refine J_nmR fun r_7 => ?_
      refine J_iload_n C 2 dX6_layPlaces_56 rfl ?_
      refine J_bind fun i_8 e_9 => ?_
      subst e_9
      refine J_g fun h_10 => ?_
      refine J_iald (t := 23) (N := 4) C (Nat.le_of_ble_eq_true rfl) rfl rfl h_10 dX6_layPlaces_57 ?_
      refine J_iadd C dX6_layPlaces_58 ?_
      refine J_g fun h_11 => ?_
      refine J_iast (t := 22) (N := 4) C (Nat.le_of_ble_eq_true rfl) rfl rfl h_11 dX6_layPlaces_59 fun s_12 => ?_
      refine J_aload_n C 0 dX6_layPlaces_60 rfl ?_
      refine gf_7_5 C dX6_layPlaces_61 q_108 ?_
      refine J_nmR fun r_13 => ?_
      refine J_iload_n C 1 dX6_layPlaces_64 rfl ?_
      refine J_aload_n C 0 dX6_layPlaces_65 rfl ?_
      refine gf_7_0 C dX6_layPlaces_66 q_103 ?_
      refine J_nmR fun r_14 => ?_
      refine J_iload_n C 2 dX6_layPlaces_69 rfl ?_
      refine J_bind fun i_15 e_16 => ?_
      subst e_16
      refine J_g fun h_17 => ?_
      refine J_iald (t := 22) (N := 4) C (Nat.le_of_ble_eq_true rfl) rfl rfl h_17 dX6_layPlaces_70 ?_
      refine J_bind fun i_18 e_19 => ?_
      subst e_19
      refine J_g fun h_20 => ?_
      refine J_iast (t := 25) (N := 6) C (Nat.le_of_ble_eq_true rfl) rfl rfl h_20 dX6_layPlaces_71 fun s_21 => ?_
      refine J_iinc C 1 dX6_layPlaces_72 (zi9 rfl rfl) (Nat.le_of_ble_eq_true rfl) rfl fun x_22 => ?_
      refine J_goto C 2 dX6_layPlaces_75 rfl ?_
      refine J_loc (L' := [(0, .inr (7, some o0)), (1, .inl x_22)]) [0, 1] rfl ?_
      exact ih _ _
set_option maxHeartbeats 4000000 in
set_option maxRecDepth 20000 in
theorem kX6_layPlaces (nf : Nat) (s0 : zS) (i0 : Nat) : zCt zw yX6_layPlaces cX6_layPlaces 4 none 0 0 0 0 eV [.inr (7, some i0)] s0 (fX6_layPlaces nf s0 i0) := by
  refine zCt_on (own := RX6) (nm := "layPlaces") rfl rfl (by decide) (Nat.le_of_ble_eq_true rfl) fun K C => ?_
  show zJ zw 4 K _ 0 0 0 [(0, .inr (7, some i0))] [] s0 (fX6_layPlaces nf s0 i0)
  unfold fX6_layPlaces
  refine J_iconst C dX6_layPlaces_0 (zi9 rfl rfl) ?_
  refine J_istore_n (L' := [(0, .inr (7, some i0)), (1, .inl 0)]) C dX6_layPlaces_1 (Nat.le_of_ble_eq_true rfl) rfl ?_
  exact kX6_layPlaces_L2 C _ _ _ _ _
def fX10_layPlan_L9 (k48 : zS → Option (Unit × zS)) (o0 : Nat) (c1 : Int) (nf : Nat) : Nat → zS → Int → Option (Unit × zS)
  | 0, _, _ => none
  | n + 1, s0, x2 =>
    if x2 < gI s0 0 o0 12 then (nm_ (gR s0 0 o0 8) fun (r_5 : Option Nat) => nm_ (gR s0 0 o0 2) fun (r_6 : Option Nat) => Option.bind r_6 fun i_7 => g_ ((0 : Int) ≤ x2 ∧ (x2 : Int) < 4) (nm_ (gR s0 13 i_7 (Int.toNat (x2))) fun (r_10 : Option Nat) => Option.bind r_10 fun i_11 => nm_ (gR s0 0 o0 2) fun (r_13 : Option Nat) => Option.bind r_13 fun i_14 => g_ ((0 : Int) ≤ x2 ∧ (x2 : Int) < 4) (nm_ (gR s0 13 i_14 (Int.toNat (x2))) fun (r_17 : Option Nat) => Option.bind r_17 fun i_18 => Option.bind r_5 fun i_20 => cl_ (fX6_addClerk s0 i_20 (gI s0 3 i_11 3) (gI s0 3 i_18 1)) fun (_ : Unit) (s_22 : zS) => nm_ (wr (x2 + 1)) fun (x_23 : Int) => fX10_layPlan_L9 k48 o0 c1 nf n s_22 x_23))) else (k48 s0)
def fX10_layPlan_L50 (o0 : Nat) (c1 : Int) (nf : Nat) : Nat → zS → Int → Option (Unit × zS)
  | 0, _, _ => none
  | n + 1, s0, x2 =>
    if x2 < c1 then (nm_ (gR s0 0 o0 8) fun (r_10 : Option Nat) => nm_ (gR s0 0 o0 3) fun (r_11 : Option Nat) => Option.bind r_11 fun i_12 => g_ ((0 : Int) ≤ x2 ∧ (x2 : Int) < 24) (nm_ (gR s0 14 i_12 (Int.toNat (x2))) fun (r_15 : Option Nat) => Option.bind r_15 fun i_16 => cl_ (fX4_sentTick s0 i_16) fun (x_19 : Int) (s_18 : zS) => Option.bind r_10 fun i_20 => cl_ (fX6_addCup s_18 i_20 (wr ((gI s0 0 o0 13) - x_19))) fun (_ : Unit) (s_22 : zS) => nm_ (wr (x2 + 1)) fun (x_23 : Int) => fX10_layPlan_L50 o0 c1 nf n s_22 x_23)) else (nm_ (gR s0 0 o0 8) fun (r_6 : Option Nat) => Option.bind r_6 fun i_7 => cl_ (fX6_layPlaces nf s0 i_7) fun (_ : Unit) (s_9 : zS) => some ((), s_9))
def fX10_layPlan (nf : Nat) (s0 : zS) (i0 : Nat) (x1 : Int) : Option (Unit × zS) :=
  nm_ (gR s0 0 i0 8) fun (r_1 : Option Nat) => Option.bind r_1 fun i_2 => cl_ (fX6_begin s0 i_2) fun (_ : Unit) (s_4 : zS) => fX10_layPlan_L9 (fun (s_5 : zS) => fX10_layPlan_L50 i0 x1 nf nf s_5 0) i0 x1 nf nf s_4 0
set_option maxHeartbeats 4000000 in
set_option maxRecDepth 20000 in
theorem kX10_layPlan_L9 {K : zKx} (C : zC zw 3 K RX10 cX10_layPlan "layPlan" none 1 23 0 0)  (nf : Nat) (o0 : Nat) (c1 : Int) (k48 : zS → Option (Unit × zS)) (hk48 : ∀ (s1 : zS), zJ zw 3 K (zQm zw eV 0 0 K) 0 0 48 [(0, .inr (0, some o0)), (1, .inl c1)] [] s1 (k48 s1)) : ∀ (n : Nat) (s0 : zS) (x2 : Int), zJ zw 3 K (zQm zw eV 0 0 K) 0 0 9 [(0, .inr (0, some o0)), (1, .inl c1), (2, .inl x2)] [] s0 (fX10_layPlan_L9 k48 o0 c1 nf n s0 x2) := by
  intro n
  induction n with
  | zero => intro s0 x2; exact J_none
  | succ n ih =>
    intro s0 x2
    rw [fX10_layPlan_L9]
    refine J_iload_n C 2 dX10_layPlan_9 rfl ?_
    refine J_aload_n C 0 dX10_layPlan_10 rfl ?_
    refine gf_0_12 C dX10_layPlan_11 q_268 ?_
    refine J_ic_ge C 48 dX10_layPlan_14 rfl (fun _ => ?_) (fun _ => ?_)
    · refine J_loc (L' := [(0, .inr (0, some o0)), (1, .inl c1)]) [0, 1] rfl ?_
      exact hk48 _
    · refine J_aload_n C 0 dX10_layPlan_17 rfl ?_
      refine gf_0_8 C dX10_layPlan_18 q_264 ?_
      refine J_nmR fun r_5 => ?_
      refine J_aload_n C 0 dX10_layPlan_21 rfl ?_
      refine gf_0_2 C dX10_layPlan_22 q_258 ?_
      refine J_nmR fun r_6 => ?_
      refine J_iload_n C 2 dX10_layPlan_25 rfl ?_
      refine J_bind fun i_7 e_8 => ?_
      subst e_8
      refine J_g fun h_9 => ?_
      refine J_aald (t := 13) (N := 4) (u := 3) (a := 4) C (Nat.le_of_ble_eq_true rfl) rfl rfl (fun _ => rfl) h_9 dX10_layPlan_26 ?_
      refine J_nmR fun r_10 => ?_
      refine J_bind fun i_11 e_12 => ?_
      subst e_12
      refine gf_3_3 C dX10_layPlan_27 q_430 ?_
      refine J_aload_n C 0 dX10_layPlan_30 rfl ?_
      refine gf_0_2 C dX10_layPlan_31 q_258 ?_
      refine J_nmR fun r_13 => ?_
      refine J_iload_n C 2 dX10_layPlan_34 rfl ?_
      refine J_bind fun i_14 e_15 => ?_
      subst e_15
      refine J_g fun h_16 => ?_
      refine J_aald (t := 13) (N := 4) (u := 3) (a := 4) C (Nat.le_of_ble_eq_true rfl) rfl rfl (fun _ => rfl) h_16 dX10_layPlan_35 ?_
      refine J_nmR fun r_17 => ?_
      refine J_bind fun i_18 e_19 => ?_
      subst e_19
      refine gf_3_1 C dX10_layPlan_36 q_427 ?_
      refine J_bind fun i_20 e_21 => ?_
      subst e_21
      refine J_callVV (S := []) (avs := [.inl (gI s0 3 i_11 3), .inl (gI s0 3 i_18 1)]) C zx7 yw_67 rfl (kX6_addClerk _ _ _ _) dX10_layPlan_39 rfl (Nat.le_of_ble_eq_true rfl) (by decide) fun _ s_22 => ?_
      refine J_iinc C 2 dX10_layPlan_42 (zi9 rfl rfl) (Nat.le_of_ble_eq_true rfl) rfl fun x_23 => ?_
      refine J_goto C 9 dX10_layPlan_45 rfl ?_
      exact ih _ _
set_option maxHeartbeats 4000000 in
set_option maxRecDepth 20000 in
theorem kX10_layPlan_L50 {K : zKx} (C : zC zw 3 K RX10 cX10_layPlan "layPlan" none 1 23 0 0)  (nf : Nat) (o0 : Nat) (c1 : Int) : ∀ (n : Nat) (s0 : zS) (x2 : Int), zJ zw 3 K (zQm zw eV 0 0 K) 0 0 50 [(0, .inr (0, some o0)), (1, .inl c1), (2, .inl x2)] [] s0 (fX10_layPlan_L50 o0 c1 nf n s0 x2) := by
  intro n
  induction n with
  | zero => intro s0 x2; exact J_none
  | succ n ih =>
    intro s0 x2
    rw [fX10_layPlan_L50]
    refine J_iload_n C 2 dX10_layPlan_50 rfl ?_
    refine J_iload_n C 1 dX10_layPlan_51 rfl ?_
    refine J_ic_ge C 82 dX10_layPlan_52 rfl (fun _ => ?_) (fun _ => ?_)
    · refine J_aload_n C 0 dX10_layPlan_82 rfl ?_
      refine gf_0_8 C dX10_layPlan_83 q_264 ?_
      refine J_nmR fun r_6 => ?_
      refine J_bind fun i_7 e_8 => ?_
      subst e_8
      refine J_callVV (S := []) (avs := []) C zx7 yw_68 rfl (kX6_layPlaces _ _ _) dX10_layPlan_86 rfl (Nat.le_of_ble_eq_true rfl) (by decide) fun _ s_9 => ?_
      exact J_vret C dX10_layPlan_89 (by decide) (by decide)
    · refine J_aload_n C 0 dX10_layPlan_55 rfl ?_
      refine gf_0_8 C dX10_layPlan_56 q_264 ?_
      refine J_nmR fun r_10 => ?_
      refine J_aload_n C 0 dX10_layPlan_59 rfl ?_
      refine gf_0_13 C dX10_layPlan_60 q_269 ?_
      refine J_aload_n C 0 dX10_layPlan_63 rfl ?_
      refine gf_0_3 C dX10_layPlan_64 q_259 ?_
      refine J_nmR fun r_11 => ?_
      refine J_iload_n C 2 dX10_layPlan_67 rfl ?_
      refine J_bind fun i_12 e_13 => ?_
      subst e_13
      refine J_g fun h_14 => ?_
      refine J_aald (t := 14) (N := 24) (u := 5) (a := 3) C (Nat.le_of_ble_eq_true rfl) rfl rfl (fun _ => rfl) h_14 dX10_layPlan_68 ?_
      refine J_nmR fun r_15 => ?_
      refine J_bind fun i_16 e_17 => ?_
      subst e_17
      refine J_callVI (S := [.inl (gI s0 0 o0 13), .inr (7, r_10)]) (avs := []) C zx5 yw_70 rfl (kX4_sentTick _ _) dX10_layPlan_69 rfl (Nat.le_of_ble_eq_true rfl) (by decide) fun x_19 s_18 => ?_
      refine J_isub C dX10_layPlan_72 ?_
      refine J_bind fun i_20 e_21 => ?_
      subst e_21
      refine J_callVV (S := []) (avs := [.inl (wr ((gI s0 0 o0 13) - x_19))]) C zx7 yw_69 rfl (kX6_addCup _ _ _) dX10_layPlan_73 rfl (Nat.le_of_ble_eq_true rfl) (by decide) fun _ s_22 => ?_
      refine J_iinc C 2 dX10_layPlan_76 (zi9 rfl rfl) (Nat.le_of_ble_eq_true rfl) rfl fun x_23 => ?_
      refine J_goto C 50 dX10_layPlan_79 rfl ?_
      exact ih _ _
set_option maxHeartbeats 4000000 in
set_option maxRecDepth 20000 in
theorem kX10_layPlan (nf : Nat) (s0 : zS) (i0 : Nat) (x1 : Int) : zCt zw yX10_layPlan cX10_layPlan 3 none 1 23 0 0 eV [.inr (0, some i0), .inl x1] s0 (fX10_layPlan nf s0 i0 x1) := by
  refine zCt_on (own := RX10) (nm := "layPlan") rfl rfl (by decide) (Nat.le_of_ble_eq_true rfl) fun K C => ?_
  show zJ zw 3 K _ 0 0 0 [(0, .inr (0, some i0)), (1, .inl x1)] [] s0 (fX10_layPlan nf s0 i0 x1)
  unfold fX10_layPlan
  refine J_aload_n C 0 dX10_layPlan_0 rfl ?_
  refine gf_0_8 C dX10_layPlan_1 q_264 ?_
  refine J_nmR fun r_1 => ?_
  refine J_bind fun i_2 e_3 => ?_
  subst e_3
  refine J_callVV (S := []) (avs := []) C zx7 yw_71 rfl (kX6_begin _ _) dX10_layPlan_4 rfl (Nat.le_of_ble_eq_true rfl) (by decide) fun _ s_4 => ?_
  refine J_iconst C dX10_layPlan_7 (zi9 rfl rfl) ?_
  refine J_istore_n (L' := [(0, .inr (0, some i0)), (1, .inl x1), (2, .inl 0)]) C dX10_layPlan_8 (Nat.le_of_ble_eq_true rfl) rfl ?_
  refine kX10_layPlan_L9 C _ _ _ _ ?_ _ _ _
  intro s_5
  refine J_iconst C dX10_layPlan_48 (zi9 rfl rfl) ?_
  refine J_istore_n (L' := [(0, .inr (0, some i0)), (1, .inl x1), (2, .inl 0)]) C dX10_layPlan_49 (Nat.le_of_ble_eq_true rfl) rfl ?_
  exact kX10_layPlan_L50 C _ _ _ _ _ _
def fX6_search_L42 (rec : zS → Option Nat → Int → Int → Option (Unit × zS)) (o0 : Nat) (c1 : Int) (c2 : Int) : Nat → zS → Int → Option (Unit × zS)
  | 0, _, _ => none
  | n + 1, s0, x3 =>
    if x3 < gI s0 7 o0 4 then (nm_ (gR s0 7 o0 6) fun (r_3 : Option Nat) => Option.bind r_3 fun i_4 => g_ ((0 : Int) ≤ x3 ∧ (x3 : Int) < 6) (nm_ (fun (s_7 : zS) => nm_ (wr (x3 + 1)) fun (x_8 : Int) => fX6_search_L42 rec o0 c1 c2 n s_7 x_8) fun (j104 : zS → Option (Unit × zS)) => if gI s0 28 i_4 (Int.toNat (x3)) = 0 then (nm_ (gR s0 7 o0 6) fun (r_9 : Option Nat) => Option.bind r_9 fun i_10 => g_ ((0 : Int) ≤ x3 ∧ (x3 : Int) < 6) (up_ (sI s0 28 i_10 (Int.toNat (x3)) 1) fun (s_13 : zS) => nm_ (gR s_13 7 o0 7) fun (r_14 : Option Nat) => Option.bind r_14 fun i_15 => g_ ((0 : Int) ≤ c1 ∧ (c1 : Int) < 6) (up_ (sI s_13 26 i_15 (Int.toNat (c1)) x3) fun (s_18 : zS) => nm_ (gR s_18 7 o0 3) fun (r_19 : Option Nat) => Option.bind r_19 fun i_20 => g_ ((0 : Int) ≤ x3 ∧ (x3 : Int) < 6) (nm_ (gR s_18 7 o0 5) fun (r_23 : Option Nat) => Option.bind r_23 fun i_24 => g_ ((0 : Int) ≤ c1 ∧ (c1 : Int) < 6) (cl_ (rec s_18 (some o0) (wr (c1 + 1)) (imax c2 (wr ((gI s_18 24 i_20 (Int.toNat (x3))) + (gI s_18 25 i_24 (Int.toNat (c1))))))) fun (_ : Unit) (s_27 : zS) => nm_ (gR s_27 7 o0 6) fun (r_28 : Option Nat) => Option.bind r_28 fun i_29 => g_ ((0 : Int) ≤ x3 ∧ (x3 : Int) < 6) (up_ (sI s_27 28 i_29 (Int.toNat (x3)) 0) fun (s_32 : zS) => j104 s_32)))))) else (j104 s0))) else (some ((), s0))
def fX6_search_B (rec : zS → Option Nat → Int → Int → Option (Unit × zS)) (nf : Nat) (s0 : zS) (r0 : Option Nat) (x1 : Int) (x2 : Int) : Option (Unit × zS) :=
  Option.bind r0 fun i_1 => if x2 < gI s0 7 i_1 9 then (if x1 < gI s0 7 i_1 4 then (fX6_search_L42 rec i_1 x1 x2 nf s0 0) else (up_ (sI s0 7 i_1 9 x2) fun (s_3 : zS) => nm_ (gR s_3 7 i_1 7) fun (r_4 : Option Nat) => nm_ (gR s_3 7 i_1 8) fun (r_5 : Option Nat) => Option.bind r_4 fun i_6 => Option.bind r_5 fun i_8 => g_ ((0 : Int) ≤ 0 ∧ (0 : Int) ≤ 0 ∧ (0 : Int) ≤ gI s_3 7 i_1 4 ∧ (0 : Int) + gI s_3 7 i_1 4 ≤ 6 ∧ (0 : Int) + gI s_3 7 i_1 4 ≤ 6) (up_ (sCp s_3 26 i_6 (Int.toNat (0)) 27 i_8 (Int.toNat (0)) (Int.toNat (gI s_3 7 i_1 4))) fun (s_10 : zS) => some ((), s_10)))) else (some ((), s0))
def fX6_search_R (nf : Nat) : Nat → zS → Option Nat → Int → Int → Option (Unit × zS)
  | 0 => fun _ _ _ _ => none
  | d + 1 => fun s0 r0 x1 x2 => fX6_search_B (fX6_search_R nf d) nf s0 r0 x1 x2
def fX6_search (nf : Nat) (s0 : zS) (r0 : Option Nat) (x1 : Int) (x2 : Int) : Option (Unit × zS) := fX6_search_R nf 8 s0 r0 x1 x2
set_option maxHeartbeats 4000000 in
set_option maxRecDepth 20000 in
theorem kX6_search_L42 {K : zKx} (rec : zS → Option Nat → Int → Int → Option (Unit × zS)) {d : Nat} (C : zC zw 4 K RX6 cX6_search "search" none (d + 1 + 1) ((d + 1) * 23 + 43) 0 0)  (o0 : Nat) (c1 : Int) (c2 : Int) (hrec : ∀ (s0 : zS) (r0 : Option Nat) (x1 x2 : Int), zCt zw yX6_search cX6_search 4 none (d + 1) (d * 23 + 43) 0 0 eV [.inr (7, r0), .inl x1, .inl x2] s0 (rec s0 r0 x1 x2)) : ∀ (n : Nat) (s0 : zS) (x3 : Int), zJ zw 4 K (zQm zw eV 0 0 K) 0 0 42 [(0, .inr (7, some o0)), (1, .inl c1), (2, .inl c2), (3, .inl x3)] [] s0 (fX6_search_L42 rec o0 c1 c2 n s0 x3) := by
  intro n
  induction n with
  | zero => intro s0 x3; exact J_none
  | succ n ih =>
    intro s0 x3
    rw [fX6_search_L42]
    refine J_iload_n C 3 dX6_search_42 rfl ?_
    refine J_aload_n C 0 dX6_search_43 rfl ?_
    refine gf_7_4 C dX6_search_44 q_107 ?_
    refine J_ic_ge C 110 dX6_search_47 rfl (fun _ => ?_) (fun _ => ?_)
    · exact J_vret C dX6_search_110 (by decide) (by decide)
    · refine J_aload_n C 0 dX6_search_50 rfl ?_
      refine gf_7_6 C dX6_search_51 q_109 ?_
      refine J_nmR fun r_3 => ?_
      refine J_iload_n C 3 dX6_search_54 rfl ?_
      refine J_bind fun i_4 e_5 => ?_
      subst e_5
      refine J_g fun h_6 => ?_
      refine J_bald (t := 28) (N := 6) C (Nat.le_of_ble_eq_true rfl) rfl rfl h_6 dX6_search_55 ?_
      refine J_join (fun j104 => ∀ (s_7 : zS), zJ zw 4 K (zQm zw eV 0 0 K) 0 0 104 [(0, .inr (7, some o0)), (1, .inl c1), (2, .inl c2), (3, .inl x3)] [] s_7 (j104 s_7)) ?_ fun j104 hj104 => ?_
      · intro s_7
        refine J_iinc C 3 dX6_search_104 (zi9 rfl rfl) (Nat.le_of_ble_eq_true rfl) rfl fun x_8 => ?_
        refine J_goto C 42 dX6_search_107 rfl ?_
        exact ih _ _
      · refine J_if_ne C 104 dX6_search_56 rfl (fun _ => ?_) (fun _ => ?_)
        · exact hj104 _
        · refine J_aload_n C 0 dX6_search_59 rfl ?_
          refine gf_7_6 C dX6_search_60 q_109 ?_
          refine J_nmR fun r_9 => ?_
          refine J_iload_n C 3 dX6_search_63 rfl ?_
          refine J_iconst C dX6_search_64 (zi9 rfl rfl) ?_
          refine J_bind fun i_10 e_11 => ?_
          subst e_11
          refine J_g fun h_12 => ?_
          refine J_bast (t := 28) (N := 6) C (Nat.le_of_ble_eq_true rfl) rfl rfl h_12 (by decide) dX6_search_65 fun s_13 => ?_
          refine J_aload_n C 0 dX6_search_66 rfl ?_
          refine gf_7_7 C dX6_search_67 q_110 ?_
          refine J_nmR fun r_14 => ?_
          refine J_iload_n C 1 dX6_search_70 rfl ?_
          refine J_iload_n C 3 dX6_search_71 rfl ?_
          refine J_bind fun i_15 e_16 => ?_
          subst e_16
          refine J_g fun h_17 => ?_
          refine J_iast (t := 26) (N := 6) C (Nat.le_of_ble_eq_true rfl) rfl rfl h_17 dX6_search_72 fun s_18 => ?_
          refine J_aload_n C 0 dX6_search_73 rfl ?_
          refine J_iload_n C 1 dX6_search_74 rfl ?_
          refine J_iconst C dX6_search_75 (zi9 rfl rfl) ?_
          refine J_iadd C dX6_search_76 ?_
          refine J_iload_n C 2 dX6_search_77 rfl ?_
          refine J_aload_n C 0 dX6_search_78 rfl ?_
          refine gf_7_3 C dX6_search_79 q_106 ?_
          refine J_nmR fun r_19 => ?_
          refine J_iload_n C 3 dX6_search_82 rfl ?_
          refine J_bind fun i_20 e_21 => ?_
          subst e_21
          refine J_g fun h_22 => ?_
          refine J_iald (t := 24) (N := 6) C (Nat.le_of_ble_eq_true rfl) rfl rfl h_22 dX6_search_83 ?_
          refine J_aload_n C 0 dX6_search_84 rfl ?_
          refine gf_7_5 C dX6_search_85 q_108 ?_
          refine J_nmR fun r_23 => ?_
          refine J_iload_n C 1 dX6_search_88 rfl ?_
          refine J_bind fun i_24 e_25 => ?_
          subst e_25
          refine J_g fun h_26 => ?_
          refine J_iald (t := 25) (N := 6) C (Nat.le_of_ble_eq_true rfl) rfl rfl h_26 dX6_search_89 ?_
          refine J_iadd C dX6_search_90 ?_
          refine J_mmax (S := [.inl (wr (c1 + 1)), .inr (7, some o0)]) C dX6_search_91 q_750 q_489 q_13 q_490 (by omega) (by simp only [List.length_cons, List.length_nil]; omega) (Nat.le_refl _) (Nat.le_refl _) ?_
          refine J_callSV (S := []) (avs := [.inr (7, some o0), .inl (wr (c1 + 1)), .inl (imax c2 (wr ((gI s_18 24 i_20 (Int.toNat (x3))) + (gI s_18 25 i_24 (Int.toNat (c1))))))]) C yw_72 (hrec _ _ _ _) dX6_search_94 rfl (Nat.le_of_ble_eq_true rfl) (by omega) fun _ s_27 => ?_
          refine J_aload_n C 0 dX6_search_97 rfl ?_
          refine gf_7_6 C dX6_search_98 q_109 ?_
          refine J_nmR fun r_28 => ?_
          refine J_iload_n C 3 dX6_search_101 rfl ?_
          refine J_iconst C dX6_search_102 (zi9 rfl rfl) ?_
          refine J_bind fun i_29 e_30 => ?_
          subst e_30
          refine J_g fun h_31 => ?_
          refine J_bast (t := 28) (N := 6) C (Nat.le_of_ble_eq_true rfl) rfl rfl h_31 (by decide) dX6_search_103 fun s_32 => ?_
          exact hj104 _
set_option maxHeartbeats 4000000 in
set_option maxRecDepth 20000 in
theorem kX6_search_R (nf : Nat) : ∀ (d : Nat) (s0 : zS) (r0 : Option Nat) (x1 : Int) (x2 : Int), zCt zw yX6_search cX6_search 4 none (d + 1) (d * 23 + 43) 0 0 eV [.inr (7, r0), .inl x1, .inl x2] s0 (fX6_search_R nf d s0 r0 x1 x2) := by
  intro d
  induction d with
  | zero => intro s0 r0 x1 x2 r σ' h; cases h
  | succ d ih =>
    intro s0 r0 x1 x2
    refine zCt_on (own := RX6) (nm := "search") rfl rfl (by decide) (Nat.le_of_ble_eq_true rfl) fun K C => ?_
    show zJ zw 4 K _ 0 0 0 [(0, .inr (7, r0)), (1, .inl x1), (2, .inl x2)] [] s0 (fX6_search_B (fX6_search_R nf d) nf s0 r0 x1 x2)
    have hrec := ih
    generalize fX6_search_R nf d = rec at hrec ⊢
    unfold fX6_search_B
    refine J_iload_n C 2 dX6_search_0 rfl ?_
    refine J_aload_n C 0 dX6_search_1 rfl ?_
    refine J_bind fun i_1 e_2 => ?_
    subst e_2
    refine gf_7_9 C dX6_search_2 q_112 ?_
    refine J_ic_lt C 9 dX6_search_5 rfl (fun _ => ?_) (fun _ => ?_)
    · refine J_iload_n C 1 dX6_search_9 rfl ?_
      refine J_aload_n C 0 dX6_search_10 rfl ?_
      refine gf_7_4 C dX6_search_11 q_107 ?_
      refine J_ic_lt C 40 dX6_search_14 rfl (fun _ => ?_) (fun _ => ?_)
      · refine J_iconst C dX6_search_40 (zi9 rfl rfl) ?_
        refine J_istore_n (L' := [(0, .inr (7, some i_1)), (1, .inl x1), (2, .inl x2), (3, .inl 0)]) C dX6_search_41 (Nat.le_of_ble_eq_true rfl) rfl ?_
        exact kX6_search_L42 (rec := rec) C _ _ _ hrec _ _ _
      · refine J_aload_n C 0 dX6_search_17 rfl ?_
        refine J_iload_n C 2 dX6_search_18 rfl ?_
        refine pf_7_9 C dX6_search_19 q_112 fun s_3 => ?_
        refine J_aload_n C 0 dX6_search_22 rfl ?_
        refine gf_7_7 C dX6_search_23 q_110 ?_
        refine J_nmR fun r_4 => ?_
        refine J_iconst C dX6_search_26 (zi9 rfl rfl) ?_
        refine J_aload_n C 0 dX6_search_27 rfl ?_
        refine gf_7_8 C dX6_search_28 q_111 ?_
        refine J_nmR fun r_5 => ?_
        refine J_iconst C dX6_search_31 (zi9 rfl rfl) ?_
        refine J_aload_n C 0 dX6_search_32 rfl ?_
        refine gf_7_4 C dX6_search_33 q_107 ?_
        refine J_bind fun i_6 e_7 => ?_
        subst e_7
        refine J_bind fun i_8 e_9 => ?_
        subst e_9
        refine J_g fun h_11 => ?_
        refine J_copy (t := 26) (N := 6) (u := 27) (M := 6) C (Nat.le_of_ble_eq_true rfl) rfl rfl (Nat.le_of_ble_eq_true rfl) rfl rfl dX6_search_36 q_749 q_616 q_615 q_14 h_11 (by omega) (by rw [znf]; show 0 + 18 ≤ _; omega) fun s_10 => ?_
        exact J_vret C dX6_search_39 (by decide) (by decide)
    · exact J_vret C dX6_search_8 (by decide) (by decide)
theorem kX6_search (nf : Nat) (s0 : zS) (r0 : Option Nat) (x1 : Int) (x2 : Int) : zCt zw yX6_search cX6_search 4 none 9 227 0 0 eV [.inr (7, r0), .inl x1, .inl x2] s0 (fX6_search nf s0 r0 x1 x2) := kX6_search_R nf 8 s0 r0 x1 x2
def fX6_findBest (nf : Nat) (s0 : zS) (i0 : Nat) : Option (Int × zS) :=
  up_ (sI s0 7 i0 9 1000000) fun (s_1 : zS) => cl_ (fX6_search nf s_1 (some i0) 0 0) fun (_ : Unit) (s_2 : zS) => some (gI s_2 7 i0 9, s_2)
set_option maxHeartbeats 4000000 in
set_option maxRecDepth 20000 in
theorem kX6_findBest (nf : Nat) (s0 : zS) (i0 : Nat) : zCt zw yX6_findBest cX6_findBest 1 (some .int) 10 250 0 0 eI [.inr (7, some i0)] s0 (fX6_findBest nf s0 i0) := by
  refine zCt_on (own := RX6) (nm := "findBest") rfl rfl (by decide) (Nat.le_of_ble_eq_true rfl) fun K C => ?_
  show zJ zw 1 K _ 0 0 0 [(0, .inr (7, some i0))] [] s0 (fX6_findBest nf s0 i0)
  unfold fX6_findBest
  refine J_aload_n C 0 dX6_findBest_0 rfl ?_
  refine J_ldc (n := 1000000) C dX6_findBest_1 (zi9 rfl rfl) q_745 ?_
  refine pf_7_9 C dX6_findBest_3 q_112 fun s_1 => ?_
  refine J_aload_n C 0 dX6_findBest_6 rfl ?_
  refine J_iconst C dX6_findBest_7 (zi9 rfl rfl) ?_
  refine J_iconst C dX6_findBest_8 (zi9 rfl rfl) ?_
  refine J_callSV (S := []) (avs := [.inr (7, some i0), .inl 0, .inl 0]) C yw_72 (kX6_search _ _ _ _ _) dX6_findBest_9 rfl (Nat.le_of_ble_eq_true rfl) (by decide) fun _ s_2 => ?_
  refine J_aload_n C 0 dX6_findBest_12 rfl ?_
  refine gf_7_9 C dX6_findBest_13 q_112 ?_
  exact J_iret C dX6_findBest_16 (by decide) (by decide)
def fX10_worst (nf : Nat) (s0 : zS) (i0 : Nat) : Option (Int × zS) :=
  cl_ (fX10_lineUp nf s0 i0 3) fun (x_2 : Int) (s_1 : zS) => cl_ (fX10_planRefusal s_1 i0 x_2) fun (x_4 : Int) (s_3 : zS) => if x_4 = 0 then (cl_ (fX10_layPlan nf s_3 i0 x_2) fun (_ : Unit) (s_5 : zS) => nm_ (gR s_5 0 i0 8) fun (r_6 : Option Nat) => Option.bind r_6 fun i_7 => cl_ (fX6_findBest nf s_5 i_7) fun (x_10 : Int) (s_9 : zS) => some (x_10, s_9)) else (some (x_4, s_3))
set_option maxHeartbeats 4000000 in
set_option maxRecDepth 20000 in
theorem kX10_worst (nf : Nat) (s0 : zS) (i0 : Nat) : zCt zw yX10_worst cX10_worst 3 (some .int) 11 270 0 0 eI [.inr (0, some i0)] s0 (fX10_worst nf s0 i0) := by
  refine zCt_on (own := RX10) (nm := "worst") rfl rfl (by decide) (Nat.le_of_ble_eq_true rfl) fun K C => ?_
  show zJ zw 3 K _ 0 0 0 [(0, .inr (0, some i0))] [] s0 (fX10_worst nf s0 i0)
  unfold fX10_worst
  refine J_aload_n C 0 dX10_worst_0 rfl ?_
  refine J_iconst C dX10_worst_1 (zi9 rfl rfl) ?_
  refine J_callVI (S := []) (avs := [.inl 3]) C zx0 yw_66 rfl (kX10_lineUp _ _ _ _) dX10_worst_2 rfl (Nat.le_of_ble_eq_true rfl) (by decide) fun x_2 s_1 => ?_
  refine J_istore_n (L' := [(0, .inr (0, some i0)), (1, .inl x_2)]) C dX10_worst_5 (Nat.le_of_ble_eq_true rfl) rfl ?_
  refine J_aload_n C 0 dX10_worst_6 rfl ?_
  refine J_iload_n C 1 dX10_worst_7 rfl ?_
  refine J_callVI (S := []) (avs := [.inl x_2]) C zx0 yw_75 rfl (kX10_planRefusal _ _ _) dX10_worst_8 rfl (Nat.le_of_ble_eq_true rfl) (by decide) fun x_4 s_3 => ?_
  refine J_istore_n (L' := [(0, .inr (0, some i0)), (1, .inl x_2), (2, .inl x_4)]) C dX10_worst_11 (Nat.le_of_ble_eq_true rfl) rfl ?_
  refine J_iload_n C 2 dX10_worst_12 rfl ?_
  refine J_if_eq C 18 dX10_worst_13 rfl (fun _ => ?_) (fun _ => ?_)
  · refine J_aload_n C 0 dX10_worst_18 rfl ?_
    refine J_iload_n C 1 dX10_worst_19 rfl ?_
    refine J_callVV (S := []) (avs := [.inl x_2]) C zx0 yw_74 rfl (kX10_layPlan _ _ _ _) dX10_worst_20 rfl (Nat.le_of_ble_eq_true rfl) (by decide) fun _ s_5 => ?_
    refine J_aload_n C 0 dX10_worst_23 rfl ?_
    refine gf_0_8 C dX10_worst_24 q_264 ?_
    refine J_nmR fun r_6 => ?_
    refine J_bind fun i_7 e_8 => ?_
    subst e_8
    refine J_callVI (S := []) (avs := []) C zx7 yw_73 rfl (kX6_findBest _ _ _) dX10_worst_27 rfl (Nat.le_of_ble_eq_true rfl) (by decide) fun x_10 s_9 => ?_
    exact J_iret C dX10_worst_30 (by decide) (by decide)
  · refine J_iload_n C 2 dX10_worst_16 rfl ?_
    exact J_iret C dX10_worst_17 (by decide) (by decide)
def fX6_cupAtPlace (s0 : zS) (i0 : Nat) (x1 : Int) : Option (Int × zS) :=
  if x1 < 0 then (some (0, s0)) else (if x1 < gI s0 7 i0 4 then (nm_ (gR s0 7 i0 8) fun (r_1 : Option Nat) => Option.bind r_1 fun i_2 => g_ ((0 : Int) ≤ x1 ∧ (x1 : Int) < 6) (some (gI s0 27 i_2 (Int.toNat (x1)), s0))) else (some (0, s0)))
set_option maxHeartbeats 4000000 in
set_option maxRecDepth 20000 in
theorem kX6_cupAtPlace (s0 : zS) (i0 : Nat) (x1 : Int) : zCt zw yX6_cupAtPlace cX6_cupAtPlace 2 (some .int) 0 0 0 0 eI [.inr (7, some i0), .inl x1] s0 (fX6_cupAtPlace s0 i0 x1) := by
  refine zCt_on (own := RX6) (nm := "cupAtPlace") rfl rfl (by decide) (Nat.le_of_ble_eq_true rfl) fun K C => ?_
  show zJ zw 2 K _ 0 0 0 [(0, .inr (7, some i0)), (1, .inl x1)] [] s0 (fX6_cupAtPlace s0 i0 x1)
  unfold fX6_cupAtPlace
  refine J_iload_n C 1 dX6_cupAtPlace_0 rfl ?_
  refine J_if_lt C 12 dX6_cupAtPlace_1 rfl (fun _ => ?_) (fun _ => ?_)
  · refine J_iconst C dX6_cupAtPlace_12 (zi9 rfl rfl) ?_
    refine J_goto C 22 dX6_cupAtPlace_13 rfl ?_
    exact J_iret C dX6_cupAtPlace_22 (by decide) (by decide)
  · refine J_iload_n C 1 dX6_cupAtPlace_4 rfl ?_
    refine J_aload_n C 0 dX6_cupAtPlace_5 rfl ?_
    refine gf_7_4 C dX6_cupAtPlace_6 q_107 ?_
    refine J_ic_lt C 16 dX6_cupAtPlace_9 rfl (fun _ => ?_) (fun _ => ?_)
    · refine J_aload_n C 0 dX6_cupAtPlace_16 rfl ?_
      refine gf_7_8 C dX6_cupAtPlace_17 q_111 ?_
      refine J_nmR fun r_1 => ?_
      refine J_iload_n C 1 dX6_cupAtPlace_20 rfl ?_
      refine J_bind fun i_2 e_3 => ?_
      subst e_3
      refine J_g fun h_4 => ?_
      refine J_iald (t := 27) (N := 6) C (Nat.le_of_ble_eq_true rfl) rfl rfl h_4 dX6_cupAtPlace_21 ?_
      exact J_iret C dX6_cupAtPlace_22 (by decide) (by decide)
    · refine J_iconst C dX6_cupAtPlace_12 (zi9 rfl rfl) ?_
      refine J_goto C 22 dX6_cupAtPlace_13 rfl ?_
      exact J_iret C dX6_cupAtPlace_22 (by decide) (by decide)
def fX10_best (nf : Nat) (s0 : zS) (i0 : Nat) (x1 : Int) : Option (Int × zS) :=
  cl_ (fX10_lineUp nf s0 i0 3) fun (x_2 : Int) (s_1 : zS) => cl_ (fX10_planRefusal s_1 i0 x_2) fun (x_4 : Int) (s_3 : zS) => if x_4 = 0 then (if x1 < 0 then (some ((-9), s_3)) else (if x1 < x_2 then (cl_ (fX10_layPlan nf s_3 i0 x_2) fun (_ : Unit) (s_5 : zS) => nm_ (gR s_5 0 i0 8) fun (r_6 : Option Nat) => Option.bind r_6 fun i_7 => cl_ (fX6_findBest nf s_5 i_7) fun (x_10 : Int) (s_9 : zS) => nm_ (gR s_9 0 i0 3) fun (r_11 : Option Nat) => nm_ (gR s_9 0 i0 8) fun (r_12 : Option Nat) => Option.bind r_12 fun i_13 => cl_ (fX6_cupAtPlace s_9 i_13 x1) fun (x_16 : Int) (s_15 : zS) => Option.bind r_11 fun i_17 => g_ ((0 : Int) ≤ x_16 ∧ (x_16 : Int) < 24) (nm_ (gR s_15 14 i_17 (Int.toNat (x_16))) fun (r_20 : Option Nat) => Option.bind r_20 fun i_21 => some (gI s_15 5 i_21 0, s_15))) else (some ((-9), s_3)))) else (some (x_4, s_3))
set_option maxHeartbeats 4000000 in
set_option maxRecDepth 20000 in
theorem kX10_best (nf : Nat) (s0 : zS) (i0 : Nat) (x1 : Int) : zCt zw yX10_best cX10_best 4 (some .int) 11 270 0 0 eI [.inr (0, some i0), .inl x1] s0 (fX10_best nf s0 i0 x1) := by
  refine zCt_on (own := RX10) (nm := "best") rfl rfl (by decide) (Nat.le_of_ble_eq_true rfl) fun K C => ?_
  show zJ zw 4 K _ 0 0 0 [(0, .inr (0, some i0)), (1, .inl x1)] [] s0 (fX10_best nf s0 i0 x1)
  unfold fX10_best
  refine J_aload_n C 0 dX10_best_0 rfl ?_
  refine J_iconst C dX10_best_1 (zi9 rfl rfl) ?_
  refine J_callVI (S := []) (avs := [.inl 3]) C zx0 yw_66 rfl (kX10_lineUp _ _ _ _) dX10_best_2 rfl (Nat.le_of_ble_eq_true rfl) (by decide) fun x_2 s_1 => ?_
  refine J_istore_n (L' := [(0, .inr (0, some i0)), (1, .inl x1), (2, .inl x_2)]) C dX10_best_5 (Nat.le_of_ble_eq_true rfl) rfl ?_
  refine J_aload_n C 0 dX10_best_6 rfl ?_
  refine J_iload_n C 2 dX10_best_7 rfl ?_
  refine J_callVI (S := []) (avs := [.inl x_2]) C zx0 yw_75 rfl (kX10_planRefusal _ _ _) dX10_best_8 rfl (Nat.le_of_ble_eq_true rfl) (by decide) fun x_4 s_3 => ?_
  refine J_istore_n (L' := [(0, .inr (0, some i0)), (1, .inl x1), (2, .inl x_2), (3, .inl x_4)]) C dX10_best_11 (Nat.le_of_ble_eq_true rfl) rfl ?_
  refine J_iload_n C 3 dX10_best_12 rfl ?_
  refine J_if_eq C 18 dX10_best_13 rfl (fun _ => ?_) (fun _ => ?_)
  · refine J_iload_n C 1 dX10_best_18 rfl ?_
    refine J_if_lt C 27 dX10_best_19 rfl (fun _ => ?_) (fun _ => ?_)
    · refine J_bipush C dX10_best_27 (zi9 rfl rfl) (by decide) ?_
      exact J_iret C dX10_best_29 (by decide) (by decide)
    · refine J_iload_n C 1 dX10_best_22 rfl ?_
      refine J_iload_n C 2 dX10_best_23 rfl ?_
      refine J_ic_lt C 30 dX10_best_24 rfl (fun _ => ?_) (fun _ => ?_)
      · refine J_aload_n C 0 dX10_best_30 rfl ?_
        refine J_iload_n C 2 dX10_best_31 rfl ?_
        refine J_callVV (S := []) (avs := [.inl x_2]) C zx0 yw_74 rfl (kX10_layPlan _ _ _ _) dX10_best_32 rfl (Nat.le_of_ble_eq_true rfl) (by decide) fun _ s_5 => ?_
        refine J_aload_n C 0 dX10_best_35 rfl ?_
        refine gf_0_8 C dX10_best_36 q_264 ?_
        refine J_nmR fun r_6 => ?_
        refine J_bind fun i_7 e_8 => ?_
        subst e_8
        refine J_callVI (S := []) (avs := []) C zx7 yw_73 rfl (kX6_findBest _ _ _) dX10_best_39 rfl (Nat.le_of_ble_eq_true rfl) (by decide) fun x_10 s_9 => ?_
        refine J_pop C dX10_best_42 ?_
        refine J_aload_n C 0 dX10_best_43 rfl ?_
        refine gf_0_3 C dX10_best_44 q_259 ?_
        refine J_nmR fun r_11 => ?_
        refine J_aload_n C 0 dX10_best_47 rfl ?_
        refine gf_0_8 C dX10_best_48 q_264 ?_
        refine J_nmR fun r_12 => ?_
        refine J_iload_n C 1 dX10_best_51 rfl ?_
        refine J_bind fun i_13 e_14 => ?_
        subst e_14
        refine J_callVI (S := [.inr (14, r_11)]) (avs := [.inl x1]) C zx7 yw_76 rfl (kX6_cupAtPlace _ _ _) dX10_best_52 rfl (Nat.le_of_ble_eq_true rfl) (by decide) fun x_16 s_15 => ?_
        refine J_bind fun i_17 e_18 => ?_
        subst e_18
        refine J_g fun h_19 => ?_
        refine J_aald (t := 14) (N := 24) (u := 5) (a := 3) C (Nat.le_of_ble_eq_true rfl) rfl rfl (fun _ => rfl) h_19 dX10_best_55 ?_
        refine J_nmR fun r_20 => ?_
        refine J_bind fun i_21 e_22 => ?_
        subst e_22
        refine gf_5_0 C dX10_best_56 q_354 ?_
        exact J_iret C dX10_best_59 (by decide) (by decide)
      · refine J_bipush C dX10_best_27 (zi9 rfl rfl) (by decide) ?_
        exact J_iret C dX10_best_29 (by decide) (by decide)
  · refine J_iload_n C 3 dX10_best_16 rfl ?_
    exact J_iret C dX10_best_17 (by decide) (by decide)
def fX6_greatestInTurn_L4 (o0 : Nat) : Nat → zS → Int → Int → Option (Int × zS)
  | 0, _, _, _ => none
  | n + 1, s0, x1, x2 =>
    if x2 < gI s0 7 o0 4 then (nm_ (gR s0 7 o0 3) fun (r_1 : Option Nat) => Option.bind r_1 fun i_2 => g_ ((0 : Int) ≤ x2 ∧ (x2 : Int) < 6) (nm_ (gR s0 7 o0 5) fun (r_5 : Option Nat) => Option.bind r_5 fun i_6 => g_ ((0 : Int) ≤ x2 ∧ (x2 : Int) < 6) (nm_ (imax x1 (wr ((gI s0 24 i_2 (Int.toNat (x2))) + (gI s0 25 i_6 (Int.toNat (x2)))))) fun (x_9 : Int) => nm_ (wr (x2 + 1)) fun (x_10 : Int) => fX6_greatestInTurn_L4 o0 n s0 x_9 x_10))) else (some (x1, s0))
def fX6_greatestInTurn (nf : Nat) (s0 : zS) (i0 : Nat) : Option (Int × zS) :=
  fX6_greatestInTurn_L4 i0 nf s0 0 0
set_option maxHeartbeats 4000000 in
set_option maxRecDepth 20000 in
theorem kX6_greatestInTurn_L4 {K : zKx} (C : zC zw 3 K RX6 cX6_greatestInTurn "greatestInTurn" (some .int) 1 13 0 0)  (o0 : Nat) : ∀ (n : Nat) (s0 : zS) (x1 : Int) (x2 : Int), zJ zw 3 K (zQm zw eI 0 0 K) 0 0 4 [(0, .inr (7, some o0)), (1, .inl x1), (2, .inl x2)] [] s0 (fX6_greatestInTurn_L4 o0 n s0 x1 x2) := by
  intro n
  induction n with
  | zero => intro s0 x1 x2; exact J_none
  | succ n ih =>
    intro s0 x1 x2
    rw [fX6_greatestInTurn_L4]
    refine J_iload_n C 2 dX6_greatestInTurn_4 rfl ?_
    refine J_aload_n C 0 dX6_greatestInTurn_5 rfl ?_
    refine gf_7_4 C dX6_greatestInTurn_6 q_107 ?_
    refine J_ic_ge C 36 dX6_greatestInTurn_9 rfl (fun _ => ?_) (fun _ => ?_)
    · refine J_iload_n C 1 dX6_greatestInTurn_36 rfl ?_
      exact J_iret C dX6_greatestInTurn_37 (by decide) (by decide)
    · refine J_iload_n C 1 dX6_greatestInTurn_12 rfl ?_
      refine J_aload_n C 0 dX6_greatestInTurn_13 rfl ?_
      refine gf_7_3 C dX6_greatestInTurn_14 q_106 ?_
      refine J_nmR fun r_1 => ?_
      refine J_iload_n C 2 dX6_greatestInTurn_17 rfl ?_
      refine J_bind fun i_2 e_3 => ?_
      subst e_3
      refine J_g fun h_4 => ?_
      refine J_iald (t := 24) (N := 6) C (Nat.le_of_ble_eq_true rfl) rfl rfl h_4 dX6_greatestInTurn_18 ?_
      refine J_aload_n C 0 dX6_greatestInTurn_19 rfl ?_
      refine gf_7_5 C dX6_greatestInTurn_20 q_108 ?_
      refine J_nmR fun r_5 => ?_
      refine J_iload_n C 2 dX6_greatestInTurn_23 rfl ?_
      refine J_bind fun i_6 e_7 => ?_
      subst e_7
      refine J_g fun h_8 => ?_
      refine J_iald (t := 25) (N := 6) C (Nat.le_of_ble_eq_true rfl) rfl rfl h_8 dX6_greatestInTurn_24 ?_
      refine J_iadd C dX6_greatestInTurn_25 ?_
      refine J_mmax (S := []) C dX6_greatestInTurn_26 q_750 q_489 q_13 q_490 (by decide) (Nat.le_of_ble_eq_true rfl) (by decide) (by decide) ?_
      refine J_nm fun x_9 => ?_
      refine J_istore_n (L' := [(0, .inr (7, some o0)), (1, .inl x_9), (2, .inl x2)]) C dX6_greatestInTurn_29 (Nat.le_of_ble_eq_true rfl) rfl ?_
      refine J_iinc C 2 dX6_greatestInTurn_30 (zi9 rfl rfl) (Nat.le_of_ble_eq_true rfl) rfl fun x_10 => ?_
      refine J_goto C 4 dX6_greatestInTurn_33 rfl ?_
      exact ih _ _ _
set_option maxHeartbeats 4000000 in
set_option maxRecDepth 20000 in
theorem kX6_greatestInTurn (nf : Nat) (s0 : zS) (i0 : Nat) : zCt zw yX6_greatestInTurn cX6_greatestInTurn 3 (some .int) 1 13 0 0 eI [.inr (7, some i0)] s0 (fX6_greatestInTurn nf s0 i0) := by
  refine zCt_on (own := RX6) (nm := "greatestInTurn") rfl rfl (by decide) (Nat.le_of_ble_eq_true rfl) fun K C => ?_
  show zJ zw 3 K _ 0 0 0 [(0, .inr (7, some i0))] [] s0 (fX6_greatestInTurn nf s0 i0)
  unfold fX6_greatestInTurn
  refine J_iconst C dX6_greatestInTurn_0 (zi9 rfl rfl) ?_
  refine J_istore_n (L' := [(0, .inr (7, some i0)), (1, .inl 0)]) C dX6_greatestInTurn_1 (Nat.le_of_ble_eq_true rfl) rfl ?_
  refine J_iconst C dX6_greatestInTurn_2 (zi9 rfl rfl) ?_
  refine J_istore_n (L' := [(0, .inr (7, some i0)), (1, .inl 0), (2, .inl 0)]) C dX6_greatestInTurn_3 (Nat.le_of_ble_eq_true rfl) rfl ?_
  exact kX6_greatestInTurn_L4 C _ _ _ _ _
def fX10_worstBy (nf : Nat) (s0 : zS) (i0 : Nat) (x1 : Int) : Option (Int × zS) :=
  cl_ (fX10_within s0 x1 0 2) fun (x_2 : Int) (s_1 : zS) => if x_2 = 0 then (some ((-2), s_1)) else (cl_ (fX10_lineUp nf s_1 i0 x1) fun (x_4 : Int) (s_3 : zS) => cl_ (fX10_planRefusal s_3 i0 x_4) fun (x_6 : Int) (s_5 : zS) => if x_6 = 0 then (cl_ (fX10_layPlan nf s_5 i0 x_4) fun (_ : Unit) (s_7 : zS) => nm_ (gR s_7 0 i0 8) fun (r_8 : Option Nat) => Option.bind r_8 fun i_9 => cl_ (fX6_greatestInTurn nf s_7 i_9) fun (x_12 : Int) (s_11 : zS) => some (x_12, s_11)) else (some (x_6, s_5)))
set_option maxHeartbeats 4000000 in
set_option maxRecDepth 20000 in
theorem kX10_worstBy (nf : Nat) (s0 : zS) (i0 : Nat) (x1 : Int) : zCt zw yX10_worstBy cX10_worstBy 4 (some .int) 3 69 0 0 eI [.inr (0, some i0), .inl x1] s0 (fX10_worstBy nf s0 i0 x1) := by
  refine zCt_on (own := RX10) (nm := "worstBy") rfl rfl (by decide) (Nat.le_of_ble_eq_true rfl) fun K C => ?_
  show zJ zw 4 K _ 0 0 0 [(0, .inr (0, some i0)), (1, .inl x1)] [] s0 (fX10_worstBy nf s0 i0 x1)
  unfold fX10_worstBy
  refine J_iload_n C 1 dX10_worstBy_0 rfl ?_
  refine J_iconst C dX10_worstBy_1 (zi9 rfl rfl) ?_
  refine J_iconst C dX10_worstBy_2 (zi9 rfl rfl) ?_
  refine J_callSI (S := []) (avs := [.inl x1, .inl 0, .inl 2]) C yw_8 (kX10_within _ _ _ _) dX10_worstBy_3 rfl (Nat.le_of_ble_eq_true rfl) (by decide) fun x_2 s_1 => ?_
  refine J_if_ne C 12 dX10_worstBy_6 rfl (fun _ => ?_) (fun _ => ?_)
  · refine J_aload_n C 0 dX10_worstBy_12 rfl ?_
    refine J_iload_n C 1 dX10_worstBy_13 rfl ?_
    refine J_callVI (S := []) (avs := [.inl x1]) C zx0 yw_66 rfl (kX10_lineUp _ _ _ _) dX10_worstBy_14 rfl (Nat.le_of_ble_eq_true rfl) (by decide) fun x_4 s_3 => ?_
    refine J_istore_n (L' := [(0, .inr (0, some i0)), (1, .inl x1), (2, .inl x_4)]) C dX10_worstBy_17 (Nat.le_of_ble_eq_true rfl) rfl ?_
    refine J_aload_n C 0 dX10_worstBy_18 rfl ?_
    refine J_iload_n C 2 dX10_worstBy_19 rfl ?_
    refine J_callVI (S := []) (avs := [.inl x_4]) C zx0 yw_75 rfl (kX10_planRefusal _ _ _) dX10_worstBy_20 rfl (Nat.le_of_ble_eq_true rfl) (by decide) fun x_6 s_5 => ?_
    refine J_istore_n (L' := [(0, .inr (0, some i0)), (1, .inl x1), (2, .inl x_4), (3, .inl x_6)]) C dX10_worstBy_23 (Nat.le_of_ble_eq_true rfl) rfl ?_
    refine J_iload_n C 3 dX10_worstBy_24 rfl ?_
    refine J_if_eq C 30 dX10_worstBy_25 rfl (fun _ => ?_) (fun _ => ?_)
    · refine J_aload_n C 0 dX10_worstBy_30 rfl ?_
      refine J_iload_n C 2 dX10_worstBy_31 rfl ?_
      refine J_callVV (S := []) (avs := [.inl x_4]) C zx0 yw_74 rfl (kX10_layPlan _ _ _ _) dX10_worstBy_32 rfl (Nat.le_of_ble_eq_true rfl) (by decide) fun _ s_7 => ?_
      refine J_aload_n C 0 dX10_worstBy_35 rfl ?_
      refine gf_0_8 C dX10_worstBy_36 q_264 ?_
      refine J_nmR fun r_8 => ?_
      refine J_bind fun i_9 e_10 => ?_
      subst e_10
      refine J_callVI (S := []) (avs := []) C zx7 yw_77 rfl (kX6_greatestInTurn _ _ _) dX10_worstBy_39 rfl (Nat.le_of_ble_eq_true rfl) (by decide) fun x_12 s_11 => ?_
      exact J_iret C dX10_worstBy_42 (by decide) (by decide)
    · refine J_iload_n C 3 dX10_worstBy_28 rfl ?_
      exact J_iret C dX10_worstBy_29 (by decide) (by decide)
  · refine J_bipush C dX10_worstBy_9 (zi9 rfl rfl) (by decide) ?_
    exact J_iret C dX10_worstBy_11 (by decide) (by decide)
def fX10_rush_L62 (c2 : Int) (c3 : Int) (c5 : Int) : Nat → zS → Option Nat → Option (Int × zS)
  | 0, _, _ => none
  | n + 1, s0, r6 =>
    Option.elim r6 (some (c5, s0)) fun i_14 => nm_ (gR s0 8 i_14 14) fun (r_16 : Option Nat) => Option.bind r_16 fun i_17 => g_ ((0 : Int) ≤ c2 ∧ (c2 : Int) < 6) (g_ ((0 : Int) ≤ c2 ∧ (c2 : Int) < 6) (up_ (sI s0 16 i_17 (Int.toNat (c2)) (wr ((gI s0 16 i_17 (Int.toNat (c2))) + (wr (c3 - c5))))) fun (s_21 : zS) => nm_ (gR s_21 8 i_14 1) fun (r_22 : Option Nat) => fX10_rush_L62 c2 c3 c5 n s_21 r_22))
def fX10_rush (nf : Nat) (s0 : zS) (i0 : Nat) (x1 : Int) (x2 : Int) (x3 : Int) : Option (Int × zS) :=
  cl_ (fX10_findPost s0 i0 x1) fun (r_2 : Option Nat) (s_1 : zS) => Option.elim r_2 (some ((-1), s_1)) fun i_3 => if gI s_1 8 i_3 2 = 2 then (cl_ (fX10_within s_1 x2 0 5) fun (x_6 : Int) (s_5 : zS) => if x_6 = 0 then (some ((-2), s_5)) else (cl_ (fX10_within s_5 x3 0 300) fun (x_8 : Int) (s_7 : zS) => if x_8 = 0 then (some ((-2), s_7)) else (nm_ (gR s_7 8 i_3 14) fun (r_9 : Option Nat) => Option.bind r_9 fun i_10 => g_ ((0 : Int) ≤ x2 ∧ (x2 : Int) < 6) (nm_ (gI s_7 16 i_10 (Int.toNat (x2))) fun (x_13 : Int) => fX10_rush_L62 x2 x3 x_13 nf s_7 (some i_3))))) else (some ((-3), s_1))
set_option maxHeartbeats 4000000 in
set_option maxRecDepth 20000 in
theorem kX10_rush_L62 {K : zKx} (C : zC zw 7 K RX10 cX10_rush "rush" (some .int) 1 22 0 0)  (c2 : Int) (c3 : Int) (c5 : Int) : ∀ (n : Nat) (s0 : zS) (r6 : Option Nat), zJ zw 7 K (zQm zw eI 0 0 K) 0 0 62 [(2, .inl c2), (3, .inl c3), (5, .inl c5), (6, .inr (8, r6))] [] s0 (fX10_rush_L62 c2 c3 c5 n s0 r6) := by
  intro n
  induction n with
  | zero => intro s0 r6; exact J_none
  | succ n ih =>
    intro s0 r6
    rw [fX10_rush_L62]
    refine J_aload C 3 dX10_rush_62 rfl ?_
    refine J_elim (fun e_15 => ?_) (fun i_14 e_15 => ?_)
    · subst e_15
      refine J_null_n C 91 dX10_rush_64 rfl ?_
      refine J_iload C 2 dX10_rush_91 rfl ?_
      exact J_iret C dX10_rush_93 (by decide) (by decide)
    · subst e_15
      refine J_null_s C dX10_rush_64 ?_
      refine J_aload C 3 dX10_rush_67 rfl ?_
      refine gf_8_14 C dX10_rush_69 q_220 ?_
      refine J_nmR fun r_16 => ?_
      refine J_iload_n C 0 dX10_rush_72 rfl ?_
      refine J_dup2 C dX10_rush_73 ?_
      refine J_bind fun i_17 e_18 => ?_
      subst e_18
      refine J_g fun h_19 => ?_
      refine J_iald (t := 16) (N := 6) C (Nat.le_of_ble_eq_true rfl) rfl rfl h_19 dX10_rush_74 ?_
      refine J_iload_n C 1 dX10_rush_75 rfl ?_
      refine J_iload C 2 dX10_rush_76 rfl ?_
      refine J_isub C dX10_rush_78 ?_
      refine J_iadd C dX10_rush_79 ?_
      refine J_g fun h_20 => ?_
      refine J_iast (t := 16) (N := 6) C (Nat.le_of_ble_eq_true rfl) rfl rfl h_20 dX10_rush_80 fun s_21 => ?_
      refine J_aload C 3 dX10_rush_81 rfl ?_
      refine gf_8_1 C dX10_rush_83 q_197 ?_
      refine J_nmR fun r_22 => ?_
      refine J_astore (L' := [(2, .inl c2), (3, .inl c3), (5, .inl c5), (6, .inr (8, r_22))]) C dX10_rush_86 (Nat.le_of_ble_eq_true rfl) rfl ?_
      refine J_goto C 62 dX10_rush_88 rfl ?_
      exact ih _ _
set_option maxHeartbeats 4000000 in
set_option maxRecDepth 20000 in
theorem kX10_rush (nf : Nat) (s0 : zS) (i0 : Nat) (x1 : Int) (x2 : Int) (x3 : Int) : zCt zw yX10_rush cX10_rush 7 (some .int) 1 22 0 0 eI [.inr (0, some i0), .inl x1, .inl x2, .inl x3] s0 (fX10_rush nf s0 i0 x1 x2 x3) := by
  refine zCt_on (own := RX10) (nm := "rush") rfl rfl (by decide) (Nat.le_of_ble_eq_true rfl) fun K C => ?_
  show zJ zw 7 K _ 0 0 0 [(0, .inr (0, some i0)), (1, .inl x1), (2, .inl x2), (3, .inl x3)] [] s0 (fX10_rush nf s0 i0 x1 x2 x3)
  unfold fX10_rush
  refine J_aload_n C 0 dX10_rush_0 rfl ?_
  refine J_iload_n C 1 dX10_rush_1 rfl ?_
  refine J_callVR (S := []) (avs := [.inl x1]) C zx0 yw_9 rfl (kX10_findPost _ _ _) dX10_rush_2 rfl (Nat.le_of_ble_eq_true rfl) (by decide) fun r_2 s_1 => ?_
  refine J_astore (L' := [(0, .inr (0, some i0)), (1, .inl x1), (2, .inl x2), (3, .inl x3), (4, .inr (8, r_2))]) C dX10_rush_5 (Nat.le_of_ble_eq_true rfl) rfl ?_
  refine J_aload C 4 dX10_rush_7 rfl ?_
  refine J_elim (fun e_4 => ?_) (fun i_3 e_4 => ?_)
  · subst e_4
    refine J_nonnull_n C dX10_rush_9 ?_
    refine J_iconst C dX10_rush_12 (zi9 rfl rfl) ?_
    exact J_iret C dX10_rush_13 (by decide) (by decide)
  · subst e_4
    refine J_nonnull_s C 14 dX10_rush_9 rfl ?_
    refine J_aload C 4 dX10_rush_14 rfl ?_
    refine gf_8_2 C dX10_rush_16 q_199 ?_
    refine J_iconst C dX10_rush_19 (zi9 rfl rfl) ?_
    refine J_ic_eq C 26 dX10_rush_20 rfl (fun _ => ?_) (fun _ => ?_)
    · refine J_iload_n C 2 dX10_rush_26 rfl ?_
      refine J_iconst C dX10_rush_27 (zi9 rfl rfl) ?_
      refine J_iconst C dX10_rush_28 (zi9 rfl rfl) ?_
      refine J_callSI (S := []) (avs := [.inl x2, .inl 0, .inl 5]) C yw_8 (kX10_within _ _ _ _) dX10_rush_29 rfl (Nat.le_of_ble_eq_true rfl) (by decide) fun x_6 s_5 => ?_
      refine J_if_eq C 46 dX10_rush_32 rfl (fun _ => ?_) (fun _ => ?_)
      · refine J_bipush C dX10_rush_46 (zi9 rfl rfl) (by decide) ?_
        exact J_iret C dX10_rush_48 (by decide) (by decide)
      · refine J_iload_n C 3 dX10_rush_35 rfl ?_
        refine J_iconst C dX10_rush_36 (zi9 rfl rfl) ?_
        refine J_sipush C dX10_rush_37 (zi9 rfl rfl) (by decide) ?_
        refine J_callSI (S := []) (avs := [.inl x3, .inl 0, .inl 300]) C yw_8 (kX10_within _ _ _ _) dX10_rush_40 rfl (Nat.le_of_ble_eq_true rfl) (by decide) fun x_8 s_7 => ?_
        refine J_if_ne C 49 dX10_rush_43 rfl (fun _ => ?_) (fun _ => ?_)
        · refine J_aload C 4 dX10_rush_49 rfl ?_
          refine gf_8_14 C dX10_rush_51 q_220 ?_
          refine J_nmR fun r_9 => ?_
          refine J_iload_n C 2 dX10_rush_54 rfl ?_
          refine J_bind fun i_10 e_11 => ?_
          subst e_11
          refine J_g fun h_12 => ?_
          refine J_iald (t := 16) (N := 6) C (Nat.le_of_ble_eq_true rfl) rfl rfl h_12 dX10_rush_55 ?_
          refine J_nm fun x_13 => ?_
          refine J_istore (L' := [(0, .inr (0, some i0)), (1, .inl x1), (2, .inl x2), (3, .inl x3), (4, .inr (8, some i_3)), (5, .inl x_13)]) C dX10_rush_56 (Nat.le_of_ble_eq_true rfl) rfl ?_
          refine J_aload C 4 dX10_rush_58 rfl ?_
          refine J_astore (L' := [(0, .inr (0, some i0)), (1, .inl x1), (2, .inl x2), (3, .inl x3), (4, .inr (8, some i_3)), (5, .inl x_13), (6, .inr (8, some i_3))]) C dX10_rush_60 (Nat.le_of_ble_eq_true rfl) rfl ?_
          refine J_loc (L' := [(2, .inl x2), (3, .inl x3), (5, .inl x_13), (6, .inr (8, some i_3))]) [2, 3, 5, 6] rfl ?_
          exact kX10_rush_L62 C _ _ _ _ _ _
        · refine J_bipush C dX10_rush_46 (zi9 rfl rfl) (by decide) ?_
          exact J_iret C dX10_rush_48 (by decide) (by decide)
    · refine J_bipush C dX10_rush_23 (zi9 rfl rfl) (by decide) ?_
      exact J_iret C dX10_rush_25 (by decide) (by decide)
def fX10_load (s0 : zS) (i0 : Nat) (x1 : Int) (x2 : Int) : Option (Int × zS) :=
  cl_ (fX10_findWire s0 i0 x1) fun (r_2 : Option Nat) (s_1 : zS) => Option.elim r_2 (some ((-1), s_1)) fun i_3 => cl_ (fX10_within s_1 x2 0 5) fun (x_6 : Int) (s_5 : zS) => if x_6 = 0 then (some ((-2), s_5)) else (nm_ (gR s_5 8 i_3 14) fun (r_7 : Option Nat) => Option.bind r_7 fun i_8 => g_ ((0 : Int) ≤ x2 ∧ (x2 : Int) < 6) (some (gI s_5 16 i_8 (Int.toNat (x2)), s_5)))
set_option maxHeartbeats 4000000 in
set_option maxRecDepth 20000 in
theorem kX10_load (s0 : zS) (i0 : Nat) (x1 : Int) (x2 : Int) : zCt zw yX10_load cX10_load 4 (some .int) 1 22 0 0 eI [.inr (0, some i0), .inl x1, .inl x2] s0 (fX10_load s0 i0 x1 x2) := by
  refine zCt_on (own := RX10) (nm := "load") rfl rfl (by decide) (Nat.le_of_ble_eq_true rfl) fun K C => ?_
  show zJ zw 4 K _ 0 0 0 [(0, .inr (0, some i0)), (1, .inl x1), (2, .inl x2)] [] s0 (fX10_load s0 i0 x1 x2)
  unfold fX10_load
  refine J_aload_n C 0 dX10_load_0 rfl ?_
  refine J_iload_n C 1 dX10_load_1 rfl ?_
  refine J_callVR (S := []) (avs := [.inl x1]) C zx0 yw_12 rfl (kX10_findWire _ _ _) dX10_load_2 rfl (Nat.le_of_ble_eq_true rfl) (by decide) fun r_2 s_1 => ?_
  refine J_astore_n (L' := [(0, .inr (0, some i0)), (1, .inl x1), (2, .inl x2), (3, .inr (8, r_2))]) C dX10_load_5 (Nat.le_of_ble_eq_true rfl) rfl ?_
  refine J_aload_n C 3 dX10_load_6 rfl ?_
  refine J_elim (fun e_4 => ?_) (fun i_3 e_4 => ?_)
  · subst e_4
    refine J_nonnull_n C dX10_load_7 ?_
    refine J_iconst C dX10_load_10 (zi9 rfl rfl) ?_
    exact J_iret C dX10_load_11 (by decide) (by decide)
  · subst e_4
    refine J_nonnull_s C 12 dX10_load_7 rfl ?_
    refine J_iload_n C 2 dX10_load_12 rfl ?_
    refine J_iconst C dX10_load_13 (zi9 rfl rfl) ?_
    refine J_iconst C dX10_load_14 (zi9 rfl rfl) ?_
    refine J_callSI (S := []) (avs := [.inl x2, .inl 0, .inl 5]) C yw_8 (kX10_within _ _ _ _) dX10_load_15 rfl (Nat.le_of_ble_eq_true rfl) (by decide) fun x_6 s_5 => ?_
    refine J_if_eq C 30 dX10_load_18 rfl (fun _ => ?_) (fun _ => ?_)
    · refine J_bipush C dX10_load_30 (zi9 rfl rfl) (by decide) ?_
      exact J_iret C dX10_load_32 (by decide) (by decide)
    · refine J_aload_n C 3 dX10_load_21 rfl ?_
      refine gf_8_14 C dX10_load_22 q_220 ?_
      refine J_nmR fun r_7 => ?_
      refine J_iload_n C 2 dX10_load_25 rfl ?_
      refine J_bind fun i_8 e_9 => ?_
      subst e_9
      refine J_g fun h_10 => ?_
      refine J_iald (t := 16) (N := 6) C (Nat.le_of_ble_eq_true rfl) rfl rfl h_10 dX10_load_26 ?_
      refine J_goto C 32 dX10_load_27 rfl ?_
      exact J_iret C dX10_load_32 (by decide) (by decide)
def fX7_wantedLines_L4 (o0 : Nat) : Nat → zS → Int → Int → Option (Int × zS)
  | 0, _, _, _ => none
  | n + 1, s0, x1, x2 =>
    if x2 < 6 then (nm_ (gR s0 8 o0 14) fun (r_1 : Option Nat) => Option.bind r_1 fun i_2 => g_ ((0 : Int) ≤ x2 ∧ (x2 : Int) < 6) (nm_ (imax x1 (gI s0 16 i_2 (Int.toNat (x2)))) fun (x_5 : Int) => nm_ (wr (x2 + 1)) fun (x_6 : Int) => fX7_wantedLines_L4 o0 n s0 x_5 x_6)) else (if 720 < wr ((wr (2 * x1)) * (gI s0 8 o0 3)) then (some (wr (2 * (wr (Int.tdiv (wr ((wr ((wr (x1 * (gI s0 8 o0 4))) + 720)) - 1)) 720))), s0)) else (some (1, s0)))
def fX7_wantedLines (nf : Nat) (s0 : zS) (i0 : Nat) : Option (Int × zS) :=
  fX7_wantedLines_L4 i0 nf s0 0 0
set_option maxHeartbeats 4000000 in
set_option maxRecDepth 20000 in
theorem kX7_wantedLines_L4 {K : zKx} (C : zC zw 3 K RX7 cX7_wantedLines "wantedLines" (some .int) 1 13 0 0)  (o0 : Nat) : ∀ (n : Nat) (s0 : zS) (x1 : Int) (x2 : Int), zJ zw 3 K (zQm zw eI 0 0 K) 0 0 4 [(0, .inr (8, some o0)), (1, .inl x1), (2, .inl x2)] [] s0 (fX7_wantedLines_L4 o0 n s0 x1 x2) := by
  intro n
  induction n with
  | zero => intro s0 x1 x2; exact J_none
  | succ n ih =>
    intro s0 x1 x2
    rw [fX7_wantedLines_L4]
    refine J_iload_n C 2 dX7_wantedLines_4 rfl ?_
    refine J_bipush C dX7_wantedLines_5 (zi9 rfl rfl) (by decide) ?_
    refine J_ic_ge C 27 dX7_wantedLines_7 rfl (fun _ => ?_) (fun _ => ?_)
    · refine J_iconst C dX7_wantedLines_27 (zi9 rfl rfl) ?_
      refine J_iload_n C 1 dX7_wantedLines_28 rfl ?_
      refine J_imul C dX7_wantedLines_29 ?_
      refine J_aload_n C 0 dX7_wantedLines_30 rfl ?_
      refine gf_8_3 C dX7_wantedLines_31 q_201 ?_
      refine J_imul C dX7_wantedLines_34 ?_
      refine J_sipush C dX7_wantedLines_35 (zi9 rfl rfl) (by decide) ?_
      refine J_ic_gt C 43 dX7_wantedLines_38 rfl (fun _ => ?_) (fun _ => ?_)
      · refine J_iconst C dX7_wantedLines_43 (zi9 rfl rfl) ?_
        refine J_iload_n C 1 dX7_wantedLines_44 rfl ?_
        refine J_aload_n C 0 dX7_wantedLines_45 rfl ?_
        refine gf_8_4 C dX7_wantedLines_46 q_203 ?_
        refine J_imul C dX7_wantedLines_49 ?_
        refine J_sipush C dX7_wantedLines_50 (zi9 rfl rfl) (by decide) ?_
        refine J_iadd C dX7_wantedLines_53 ?_
        refine J_iconst C dX7_wantedLines_54 (zi9 rfl rfl) ?_
        refine J_isub C dX7_wantedLines_55 ?_
        refine J_sipush C dX7_wantedLines_56 (zi9 rfl rfl) (by decide) ?_
        refine J_idiv C dX7_wantedLines_59 (by decide) ?_
        refine J_imul C dX7_wantedLines_60 ?_
        exact J_iret C dX7_wantedLines_61 (by decide) (by decide)
      · refine J_iconst C dX7_wantedLines_41 (zi9 rfl rfl) ?_
        exact J_iret C dX7_wantedLines_42 (by decide) (by decide)
    · refine J_iload_n C 1 dX7_wantedLines_10 rfl ?_
      refine J_aload_n C 0 dX7_wantedLines_11 rfl ?_
      refine gf_8_14 C dX7_wantedLines_12 q_219 ?_
      refine J_nmR fun r_1 => ?_
      refine J_iload_n C 2 dX7_wantedLines_15 rfl ?_
      refine J_bind fun i_2 e_3 => ?_
      subst e_3
      refine J_g fun h_4 => ?_
      refine J_iald (t := 16) (N := 6) C (Nat.le_of_ble_eq_true rfl) rfl rfl h_4 dX7_wantedLines_16 ?_
      refine J_mmax (S := []) C dX7_wantedLines_17 q_783 q_489 q_13 q_490 (by decide) (Nat.le_of_ble_eq_true rfl) (by decide) (by decide) ?_
      refine J_nm fun x_5 => ?_
      refine J_istore_n (L' := [(0, .inr (8, some o0)), (1, .inl x_5), (2, .inl x2)]) C dX7_wantedLines_20 (Nat.le_of_ble_eq_true rfl) rfl ?_
      refine J_iinc C 2 dX7_wantedLines_21 (zi9 rfl rfl) (Nat.le_of_ble_eq_true rfl) rfl fun x_6 => ?_
      refine J_goto C 4 dX7_wantedLines_24 rfl ?_
      exact ih _ _ _
set_option maxHeartbeats 4000000 in
set_option maxRecDepth 20000 in
theorem kX7_wantedLines (nf : Nat) (s0 : zS) (i0 : Nat) : zCt zw yX7_wantedLines cX7_wantedLines 3 (some .int) 1 13 0 0 eI [.inr (8, some i0)] s0 (fX7_wantedLines nf s0 i0) := by
  refine zCt_on (own := RX7) (nm := "wantedLines") rfl rfl (by decide) (Nat.le_of_ble_eq_true rfl) fun K C => ?_
  show zJ zw 3 K _ 0 0 0 [(0, .inr (8, some i0))] [] s0 (fX7_wantedLines nf s0 i0)
  unfold fX7_wantedLines
  refine J_iconst C dX7_wantedLines_0 (zi9 rfl rfl) ?_
  refine J_istore_n (L' := [(0, .inr (8, some i0)), (1, .inl 0)]) C dX7_wantedLines_1 (Nat.le_of_ble_eq_true rfl) rfl ?_
  refine J_iconst C dX7_wantedLines_2 (zi9 rfl rfl) ?_
  refine J_istore_n (L' := [(0, .inr (8, some i0)), (1, .inl 0), (2, .inl 0)]) C dX7_wantedLines_3 (Nat.le_of_ble_eq_true rfl) rfl ?_
  exact kX7_wantedLines_L4 C _ _ _ _ _
def fX10_lines (nf : Nat) (s0 : zS) (i0 : Nat) (x1 : Int) : Option (Int × zS) :=
  cl_ (fX10_findWire s0 i0 x1) fun (r_2 : Option Nat) (s_1 : zS) => Option.elim r_2 (some ((-1), s_1)) fun i_3 => cl_ (fX7_wantedLines nf s_1 i_3) fun (x_6 : Int) (s_5 : zS) => some (x_6, s_5)
set_option maxHeartbeats 4000000 in
set_option maxRecDepth 20000 in
theorem kX10_lines (nf : Nat) (s0 : zS) (i0 : Nat) (x1 : Int) : zCt zw yX10_lines cX10_lines 3 (some .int) 2 35 0 0 eI [.inr (0, some i0), .inl x1] s0 (fX10_lines nf s0 i0 x1) := by
  refine zCt_on (own := RX10) (nm := "lines") rfl rfl (by decide) (Nat.le_of_ble_eq_true rfl) fun K C => ?_
  show zJ zw 3 K _ 0 0 0 [(0, .inr (0, some i0)), (1, .inl x1)] [] s0 (fX10_lines nf s0 i0 x1)
  unfold fX10_lines
  refine J_aload_n C 0 dX10_lines_0 rfl ?_
  refine J_iload_n C 1 dX10_lines_1 rfl ?_
  refine J_callVR (S := []) (avs := [.inl x1]) C zx0 yw_12 rfl (kX10_findWire _ _ _) dX10_lines_2 rfl (Nat.le_of_ble_eq_true rfl) (by decide) fun r_2 s_1 => ?_
  refine J_astore_n (L' := [(0, .inr (0, some i0)), (1, .inl x1), (2, .inr (8, r_2))]) C dX10_lines_5 (Nat.le_of_ble_eq_true rfl) rfl ?_
  refine J_aload_n C 2 dX10_lines_6 rfl ?_
  refine J_elim (fun e_4 => ?_) (fun i_3 e_4 => ?_)
  · subst e_4
    refine J_nonnull_n C dX10_lines_7 ?_
    refine J_iconst C dX10_lines_10 (zi9 rfl rfl) ?_
    refine J_goto C 18 dX10_lines_11 rfl ?_
    exact J_iret C dX10_lines_18 (by decide) (by decide)
  · subst e_4
    refine J_nonnull_s C 14 dX10_lines_7 rfl ?_
    refine J_aload_n C 2 dX10_lines_14 rfl ?_
    refine J_callVI (S := []) (avs := []) C zx8 yw_78 rfl (kX7_wantedLines _ _ _) dX10_lines_15 rfl (Nat.le_of_ble_eq_true rfl) (by decide) fun x_6 s_5 => ?_
    exact J_iret C dX10_lines_18 (by decide) (by decide)
def fX10_wanted_L4 (o0 : Nat) (nf : Nat) : Nat → zS → Int → Int → Option (Int × zS)
  | 0, _, _, _ => none
  | n + 1, s0, x1, x2 =>
    if x2 < gI s0 0 o0 10 then (nm_ (gR s0 0 o0 0) fun (r_1 : Option Nat) => Option.bind r_1 fun i_2 => g_ ((0 : Int) ≤ x2 ∧ (x2 : Int) < 16) (nm_ (gR s0 11 i_2 (Int.toNat (x2))) fun (r_5 : Option Nat) => Option.bind r_5 fun i_6 => cl_ (fX7_wantedLines nf s0 i_6) fun (x_9 : Int) (s_8 : zS) => nm_ (gR s_8 0 o0 0) fun (r_10 : Option Nat) => Option.bind r_10 fun i_11 => g_ ((0 : Int) ≤ x2 ∧ (x2 : Int) < 16) (nm_ (gR s_8 11 i_11 (Int.toNat (x2))) fun (r_14 : Option Nat) => Option.bind r_14 fun i_15 => nm_ (wr (x1 + (wr (x_9 * (gI s_8 8 i_15 3))))) fun (x_17 : Int) => nm_ (wr (x2 + 1)) fun (x_18 : Int) => fX10_wanted_L4 o0 nf n s_8 x_17 x_18))) else (some (x1, s0))
def fX10_wanted (nf : Nat) (s0 : zS) (i0 : Nat) : Option (Int × zS) :=
  fX10_wanted_L4 i0 nf nf s0 0 1
set_option maxHeartbeats 4000000 in
set_option maxRecDepth 20000 in
theorem kX10_wanted_L4 {K : zKx} (C : zC zw 3 K RX10 cX10_wanted "wanted" (some .int) 2 35 0 0)  (nf : Nat) (o0 : Nat) : ∀ (n : Nat) (s0 : zS) (x1 : Int) (x2 : Int), zJ zw 3 K (zQm zw eI 0 0 K) 0 0 4 [(0, .inr (0, some o0)), (1, .inl x1), (2, .inl x2)] [] s0 (fX10_wanted_L4 o0 nf n s0 x1 x2) := by
  intro n
  induction n with
  | zero => intro s0 x1 x2; exact J_none
  | succ n ih =>
    intro s0 x1 x2
    rw [fX10_wanted_L4]
    refine J_iload_n C 2 dX10_wanted_4 rfl ?_
    refine J_aload_n C 0 dX10_wanted_5 rfl ?_
    refine gf_0_10 C dX10_wanted_6 q_266 ?_
    refine J_ic_ge C 40 dX10_wanted_9 rfl (fun _ => ?_) (fun _ => ?_)
    · refine J_iload_n C 1 dX10_wanted_40 rfl ?_
      exact J_iret C dX10_wanted_41 (by decide) (by decide)
    · refine J_iload_n C 1 dX10_wanted_12 rfl ?_
      refine J_aload_n C 0 dX10_wanted_13 rfl ?_
      refine gf_0_0 C dX10_wanted_14 q_256 ?_
      refine J_nmR fun r_1 => ?_
      refine J_iload_n C 2 dX10_wanted_17 rfl ?_
      refine J_bind fun i_2 e_3 => ?_
      subst e_3
      refine J_g fun h_4 => ?_
      refine J_aald (t := 11) (N := 16) (u := 8) (a := 2) C (Nat.le_of_ble_eq_true rfl) rfl rfl (fun _ => rfl) h_4 dX10_wanted_18 ?_
      refine J_nmR fun r_5 => ?_
      refine J_bind fun i_6 e_7 => ?_
      subst e_7
      refine J_callVI (S := [.inl x1]) (avs := []) C zx8 yw_78 rfl (kX7_wantedLines _ _ _) dX10_wanted_19 rfl (Nat.le_of_ble_eq_true rfl) (by decide) fun x_9 s_8 => ?_
      refine J_aload_n C 0 dX10_wanted_22 rfl ?_
      refine gf_0_0 C dX10_wanted_23 q_256 ?_
      refine J_nmR fun r_10 => ?_
      refine J_iload_n C 2 dX10_wanted_26 rfl ?_
      refine J_bind fun i_11 e_12 => ?_
      subst e_12
      refine J_g fun h_13 => ?_
      refine J_aald (t := 11) (N := 16) (u := 8) (a := 2) C (Nat.le_of_ble_eq_true rfl) rfl rfl (fun _ => rfl) h_13 dX10_wanted_27 ?_
      refine J_nmR fun r_14 => ?_
      refine J_bind fun i_15 e_16 => ?_
      subst e_16
      refine gf_8_3 C dX10_wanted_28 q_200 ?_
      refine J_imul C dX10_wanted_31 ?_
      refine J_iadd C dX10_wanted_32 ?_
      refine J_nm fun x_17 => ?_
      refine J_istore_n (L' := [(0, .inr (0, some o0)), (1, .inl x_17), (2, .inl x2)]) C dX10_wanted_33 (Nat.le_of_ble_eq_true rfl) rfl ?_
      refine J_iinc C 2 dX10_wanted_34 (zi9 rfl rfl) (Nat.le_of_ble_eq_true rfl) rfl fun x_18 => ?_
      refine J_goto C 4 dX10_wanted_37 rfl ?_
      exact ih _ _ _
set_option maxHeartbeats 4000000 in
set_option maxRecDepth 20000 in
theorem kX10_wanted (nf : Nat) (s0 : zS) (i0 : Nat) : zCt zw yX10_wanted cX10_wanted 3 (some .int) 2 35 0 0 eI [.inr (0, some i0)] s0 (fX10_wanted nf s0 i0) := by
  refine zCt_on (own := RX10) (nm := "wanted") rfl rfl (by decide) (Nat.le_of_ble_eq_true rfl) fun K C => ?_
  show zJ zw 3 K _ 0 0 0 [(0, .inr (0, some i0))] [] s0 (fX10_wanted nf s0 i0)
  unfold fX10_wanted
  refine J_iconst C dX10_wanted_0 (zi9 rfl rfl) ?_
  refine J_istore_n (L' := [(0, .inr (0, some i0)), (1, .inl 0)]) C dX10_wanted_1 (Nat.le_of_ble_eq_true rfl) rfl ?_
  refine J_iconst C dX10_wanted_2 (zi9 rfl rfl) ?_
  refine J_istore_n (L' := [(0, .inr (0, some i0)), (1, .inl 0), (2, .inl 1)]) C dX10_wanted_3 (Nat.le_of_ble_eq_true rfl) rfl ?_
  exact kX10_wanted_L4 C _ _ _ _ _ _
def fX7_lossIn (s0 : zS) (i0 : Nat) (x1 : Int) : Option (Int × zS) :=
  nm_ (gR s0 8 i0 14) fun (r_1 : Option Nat) => Option.bind r_1 fun i_2 => g_ ((0 : Int) ≤ x1 ∧ (x1 : Int) < 6) (some (wr ((wr (4 * (gI s0 16 i_2 (Int.toNat (x1))))) * (gI s0 8 i0 3)), s0))
set_option maxHeartbeats 4000000 in
set_option maxRecDepth 20000 in
theorem kX7_lossIn (s0 : zS) (i0 : Nat) (x1 : Int) : zCt zw yX7_lossIn cX7_lossIn 2 (some .int) 0 0 0 0 eI [.inr (8, some i0), .inl x1] s0 (fX7_lossIn s0 i0 x1) := by
  refine zCt_on (own := RX7) (nm := "lossIn") rfl rfl (by decide) (Nat.le_of_ble_eq_true rfl) fun K C => ?_
  show zJ zw 2 K _ 0 0 0 [(0, .inr (8, some i0)), (1, .inl x1)] [] s0 (fX7_lossIn s0 i0 x1)
  unfold fX7_lossIn
  refine J_iconst C dX7_lossIn_0 (zi9 rfl rfl) ?_
  refine J_aload_n C 0 dX7_lossIn_1 rfl ?_
  refine gf_8_14 C dX7_lossIn_2 q_219 ?_
  refine J_nmR fun r_1 => ?_
  refine J_iload_n C 1 dX7_lossIn_5 rfl ?_
  refine J_bind fun i_2 e_3 => ?_
  subst e_3
  refine J_g fun h_4 => ?_
  refine J_iald (t := 16) (N := 6) C (Nat.le_of_ble_eq_true rfl) rfl rfl h_4 dX7_lossIn_6 ?_
  refine J_imul C dX7_lossIn_7 ?_
  refine J_aload_n C 0 dX7_lossIn_8 rfl ?_
  refine gf_8_3 C dX7_lossIn_9 q_201 ?_
  refine J_imul C dX7_lossIn_12 ?_
  exact J_iret C dX7_lossIn_13 (by decide) (by decide)
def fX10_vital_L20 (o0 : Nat) (c1 : Int) : Nat → zS → Int → Int → Int → Option (Int × zS)
  | 0, _, _, _, _ => none
  | n + 1, s0, x2, x3, x4 =>
    if x4 < gI s0 0 o0 10 then (nm_ (gR s0 0 o0 0) fun (r_3 : Option Nat) => Option.bind r_3 fun i_4 => g_ ((0 : Int) ≤ x4 ∧ (x4 : Int) < 16) (nm_ (gR s0 11 i_4 (Int.toNat (x4))) fun (r_7 : Option Nat) => Option.bind r_7 fun i_8 => cl_ (fX7_lossIn s0 i_8 c1) fun (x_11 : Int) (s_10 : zS) => nm_ (fun (s_12 : zS) (y_13 : Int) (y_14 : Int) => nm_ (wr (x4 + 1)) fun (x_15 : Int) => fX10_vital_L20 o0 c1 n s_12 y_13 y_14 x_15) fun (j54 : zS → Int → Int → Option (Int × zS)) => if x2 < x_11 then (j54 s_10 x_11 x4) else (j54 s_10 x2 x3))) else (some (x3, s0))
def fX10_vital (nf : Nat) (s0 : zS) (i0 : Nat) (x1 : Int) : Option (Int × zS) :=
  cl_ (fX10_within s0 x1 0 5) fun (x_2 : Int) (s_1 : zS) => if x_2 = 0 then (some ((-2), s_1)) else (fX10_vital_L20 i0 x1 nf s_1 0 (-9) 1)
set_option maxHeartbeats 4000000 in
set_option maxRecDepth 20000 in
theorem kX10_vital_L20 {K : zKx} (C : zC zw 6 K RX10 cX10_vital "vital" (some .int) 1 22 0 0)  (o0 : Nat) (c1 : Int) : ∀ (n : Nat) (s0 : zS) (x2 : Int) (x3 : Int) (x4 : Int), zJ zw 6 K (zQm zw eI 0 0 K) 0 0 20 [(0, .inr (0, some o0)), (1, .inl c1), (2, .inl x2), (3, .inl x3), (4, .inl x4)] [] s0 (fX10_vital_L20 o0 c1 n s0 x2 x3 x4) := by
  intro n
  induction n with
  | zero => intro s0 x2 x3 x4; exact J_none
  | succ n ih =>
    intro s0 x2 x3 x4
    rw [fX10_vital_L20]
    refine J_iload C 4 dX10_vital_20 rfl ?_
    refine J_aload_n C 0 dX10_vital_22 rfl ?_
    refine gf_0_10 C dX10_vital_23 q_266 ?_
    refine J_ic_ge C 60 dX10_vital_26 rfl (fun _ => ?_) (fun _ => ?_)
    · refine J_iload_n C 3 dX10_vital_60 rfl ?_
      exact J_iret C dX10_vital_61 (by decide) (by decide)
    · refine J_aload_n C 0 dX10_vital_29 rfl ?_
      refine gf_0_0 C dX10_vital_30 q_256 ?_
      refine J_nmR fun r_3 => ?_
      refine J_iload C 4 dX10_vital_33 rfl ?_
      refine J_bind fun i_4 e_5 => ?_
      subst e_5
      refine J_g fun h_6 => ?_
      refine J_aald (t := 11) (N := 16) (u := 8) (a := 2) C (Nat.le_of_ble_eq_true rfl) rfl rfl (fun _ => rfl) h_6 dX10_vital_35 ?_
      refine J_nmR fun r_7 => ?_
      refine J_iload_n C 1 dX10_vital_36 rfl ?_
      refine J_bind fun i_8 e_9 => ?_
      subst e_9
      refine J_callVI (S := []) (avs := [.inl c1]) C zx8 yw_79 rfl (kX7_lossIn _ _ _) dX10_vital_37 rfl (Nat.le_of_ble_eq_true rfl) (by decide) fun x_11 s_10 => ?_
      refine J_istore (L' := [(0, .inr (0, some o0)), (1, .inl c1), (2, .inl x2), (3, .inl x3), (4, .inl x4), (5, .inl x_11)]) C dX10_vital_40 (Nat.le_of_ble_eq_true rfl) rfl ?_
      refine J_iload C 5 dX10_vital_42 rfl ?_
      refine J_iload_n C 2 dX10_vital_44 rfl ?_
      refine J_join (fun j54 => ∀ (s_12 : zS) (y_13 : Int) (y_14 : Int), zJ zw 6 K (zQm zw eI 0 0 K) 0 0 54 [(0, .inr (0, some o0)), (1, .inl c1), (2, .inl y_13), (3, .inl y_14), (4, .inl x4)] [] s_12 (j54 s_12 y_13 y_14)) ?_ fun j54 hj54 => ?_
      · intro s_12 y_13 y_14
        refine J_iinc C 4 dX10_vital_54 (zi9 rfl rfl) (Nat.le_of_ble_eq_true rfl) rfl fun x_15 => ?_
        refine J_goto C 20 dX10_vital_57 rfl ?_
        exact ih _ _ _ _
      · refine J_ic_le C 54 dX10_vital_45 rfl (fun _ => ?_) (fun _ => ?_)
        · refine J_loc (L' := [(0, .inr (0, some o0)), (1, .inl c1), (2, .inl x2), (3, .inl x3), (4, .inl x4)]) [0, 1, 2, 3, 4] rfl ?_
          exact hj54 _ _ _
        · refine J_iload C 5 dX10_vital_48 rfl ?_
          refine J_istore_n (L' := [(0, .inr (0, some o0)), (1, .inl c1), (2, .inl x_11), (3, .inl x3), (4, .inl x4), (5, .inl x_11)]) C dX10_vital_50 (Nat.le_of_ble_eq_true rfl) rfl ?_
          refine J_iload C 4 dX10_vital_51 rfl ?_
          refine J_istore_n (L' := [(0, .inr (0, some o0)), (1, .inl c1), (2, .inl x_11), (3, .inl x4), (4, .inl x4), (5, .inl x_11)]) C dX10_vital_53 (Nat.le_of_ble_eq_true rfl) rfl ?_
          refine J_loc (L' := [(0, .inr (0, some o0)), (1, .inl c1), (2, .inl x_11), (3, .inl x4), (4, .inl x4)]) [0, 1, 2, 3, 4] rfl ?_
          exact hj54 _ _ _
set_option maxHeartbeats 4000000 in
set_option maxRecDepth 20000 in
theorem kX10_vital (nf : Nat) (s0 : zS) (i0 : Nat) (x1 : Int) : zCt zw yX10_vital cX10_vital 6 (some .int) 1 22 0 0 eI [.inr (0, some i0), .inl x1] s0 (fX10_vital nf s0 i0 x1) := by
  refine zCt_on (own := RX10) (nm := "vital") rfl rfl (by decide) (Nat.le_of_ble_eq_true rfl) fun K C => ?_
  show zJ zw 6 K _ 0 0 0 [(0, .inr (0, some i0)), (1, .inl x1)] [] s0 (fX10_vital nf s0 i0 x1)
  unfold fX10_vital
  refine J_iload_n C 1 dX10_vital_0 rfl ?_
  refine J_iconst C dX10_vital_1 (zi9 rfl rfl) ?_
  refine J_iconst C dX10_vital_2 (zi9 rfl rfl) ?_
  refine J_callSI (S := []) (avs := [.inl x1, .inl 0, .inl 5]) C yw_8 (kX10_within _ _ _ _) dX10_vital_3 rfl (Nat.le_of_ble_eq_true rfl) (by decide) fun x_2 s_1 => ?_
  refine J_if_ne C 12 dX10_vital_6 rfl (fun _ => ?_) (fun _ => ?_)
  · refine J_iconst C dX10_vital_12 (zi9 rfl rfl) ?_
    refine J_istore_n (L' := [(0, .inr (0, some i0)), (1, .inl x1), (2, .inl 0)]) C dX10_vital_13 (Nat.le_of_ble_eq_true rfl) rfl ?_
    refine J_bipush C dX10_vital_14 (zi9 rfl rfl) (by decide) ?_
    refine J_istore_n (L' := [(0, .inr (0, some i0)), (1, .inl x1), (2, .inl 0), (3, .inl (-9))]) C dX10_vital_16 (Nat.le_of_ble_eq_true rfl) rfl ?_
    refine J_iconst C dX10_vital_17 (zi9 rfl rfl) ?_
    refine J_istore (L' := [(0, .inr (0, some i0)), (1, .inl x1), (2, .inl 0), (3, .inl (-9)), (4, .inl 1)]) C dX10_vital_18 (Nat.le_of_ble_eq_true rfl) rfl ?_
    exact kX10_vital_L20 C _ _ _ _ _ _ _
  · refine J_bipush C dX10_vital_9 (zi9 rfl rfl) (by decide) ?_
    exact J_iret C dX10_vital_11 (by decide) (by decide)
def fX10_loss (s0 : zS) (i0 : Nat) (x1 : Int) (x2 : Int) : Option (Int × zS) :=
  cl_ (fX10_findWire s0 i0 x1) fun (r_2 : Option Nat) (s_1 : zS) => Option.elim r_2 (some ((-1), s_1)) fun i_3 => cl_ (fX10_within s_1 x2 0 5) fun (x_6 : Int) (s_5 : zS) => if x_6 = 0 then (some ((-2), s_5)) else (cl_ (fX7_lossIn s_5 i_3 x2) fun (x_8 : Int) (s_7 : zS) => some (x_8, s_7))
set_option maxHeartbeats 4000000 in
set_option maxRecDepth 20000 in
theorem kX10_loss (s0 : zS) (i0 : Nat) (x1 : Int) (x2 : Int) : zCt zw yX10_loss cX10_loss 4 (some .int) 1 22 0 0 eI [.inr (0, some i0), .inl x1, .inl x2] s0 (fX10_loss s0 i0 x1 x2) := by
  refine zCt_on (own := RX10) (nm := "loss") rfl rfl (by decide) (Nat.le_of_ble_eq_true rfl) fun K C => ?_
  show zJ zw 4 K _ 0 0 0 [(0, .inr (0, some i0)), (1, .inl x1), (2, .inl x2)] [] s0 (fX10_loss s0 i0 x1 x2)
  unfold fX10_loss
  refine J_aload_n C 0 dX10_loss_0 rfl ?_
  refine J_iload_n C 1 dX10_loss_1 rfl ?_
  refine J_callVR (S := []) (avs := [.inl x1]) C zx0 yw_12 rfl (kX10_findWire _ _ _) dX10_loss_2 rfl (Nat.le_of_ble_eq_true rfl) (by decide) fun r_2 s_1 => ?_
  refine J_astore_n (L' := [(0, .inr (0, some i0)), (1, .inl x1), (2, .inl x2), (3, .inr (8, r_2))]) C dX10_loss_5 (Nat.le_of_ble_eq_true rfl) rfl ?_
  refine J_aload_n C 3 dX10_loss_6 rfl ?_
  refine J_elim (fun e_4 => ?_) (fun i_3 e_4 => ?_)
  · subst e_4
    refine J_nonnull_n C dX10_loss_7 ?_
    refine J_iconst C dX10_loss_10 (zi9 rfl rfl) ?_
    exact J_iret C dX10_loss_11 (by decide) (by decide)
  · subst e_4
    refine J_nonnull_s C 12 dX10_loss_7 rfl ?_
    refine J_iload_n C 2 dX10_loss_12 rfl ?_
    refine J_iconst C dX10_loss_13 (zi9 rfl rfl) ?_
    refine J_iconst C dX10_loss_14 (zi9 rfl rfl) ?_
    refine J_callSI (S := []) (avs := [.inl x2, .inl 0, .inl 5]) C yw_8 (kX10_within _ _ _ _) dX10_loss_15 rfl (Nat.le_of_ble_eq_true rfl) (by decide) fun x_6 s_5 => ?_
    refine J_if_eq C 29 dX10_loss_18 rfl (fun _ => ?_) (fun _ => ?_)
    · refine J_bipush C dX10_loss_29 (zi9 rfl rfl) (by decide) ?_
      exact J_iret C dX10_loss_31 (by decide) (by decide)
    · refine J_aload_n C 3 dX10_loss_21 rfl ?_
      refine J_iload_n C 2 dX10_loss_22 rfl ?_
      refine J_callVI (S := []) (avs := [.inl x2]) C zx8 yw_79 rfl (kX7_lossIn _ _ _) dX10_loss_23 rfl (Nat.le_of_ble_eq_true rfl) (by decide) fun x_8 s_7 => ?_
      refine J_goto C 31 dX10_loss_26 rfl ?_
      exact J_iret C dX10_loss_31 (by decide) (by decide)
def fX10_bells (s0 : zS) (i0 : Nat) : Option (Int × zS) :=
  nm_ (gR s0 0 i0 7) fun (r_1 : Option Nat) => Option.bind r_1 fun i_2 => some (gI s0 1 i_2 3, s0)
set_option maxHeartbeats 4000000 in
set_option maxRecDepth 20000 in
theorem kX10_bells (s0 : zS) (i0 : Nat) : zCt zw yX10_bells cX10_bells 1 (some .int) 0 0 0 0 eI [.inr (0, some i0)] s0 (fX10_bells s0 i0) := by
  refine zCt_on (own := RX10) (nm := "bells") rfl rfl (by decide) (Nat.le_of_ble_eq_true rfl) fun K C => ?_
  show zJ zw 1 K _ 0 0 0 [(0, .inr (0, some i0))] [] s0 (fX10_bells s0 i0)
  unfold fX10_bells
  refine J_aload_n C 0 dX10_bells_0 rfl ?_
  refine gf_0_7 C dX10_bells_1 q_263 ?_
  refine J_nmR fun r_1 => ?_
  refine J_bind fun i_2 e_3 => ?_
  subst e_3
  refine gf_1_3 C dX10_bells_4 q_87 ?_
  exact J_iret C dX10_bells_7 (by decide) (by decide)
def fX0_tickOf (s0 : zS) (i0 : Nat) (x1 : Int) : Option (Int × zS) :=
  nm_ (gR s0 1 i0 1) fun (r_1 : Option Nat) => Option.bind r_1 fun i_2 => g_ ((0 : Int) ≤ Int.tmod (wr ((gI s0 1 i0 2) + x1)) 300 ∧ (Int.tmod (wr ((gI s0 1 i0 2) + x1)) 300 : Int) < 300) (some (gI s0 21 i_2 (Int.toNat (Int.tmod (wr ((gI s0 1 i0 2) + x1)) 300)), s0))
set_option maxHeartbeats 4000000 in
set_option maxRecDepth 20000 in
theorem kX0_tickOf (s0 : zS) (i0 : Nat) (x1 : Int) : zCt zw yX0_tickOf cX0_tickOf 2 (some .int) 0 0 0 0 eI [.inr (1, some i0), .inl x1] s0 (fX0_tickOf s0 i0 x1) := by
  refine zCt_on (own := RX0) (nm := "tickOf") rfl rfl (by decide) (Nat.le_of_ble_eq_true rfl) fun K C => ?_
  show zJ zw 2 K _ 0 0 0 [(0, .inr (1, some i0)), (1, .inl x1)] [] s0 (fX0_tickOf s0 i0 x1)
  unfold fX0_tickOf
  refine J_aload_n C 0 dX0_tickOf_0 rfl ?_
  refine gf_1_1 C dX0_tickOf_1 q_84 ?_
  refine J_nmR fun r_1 => ?_
  refine J_aload_n C 0 dX0_tickOf_4 rfl ?_
  refine gf_1_2 C dX0_tickOf_5 q_85 ?_
  refine J_iload_n C 1 dX0_tickOf_8 rfl ?_
  refine J_iadd C dX0_tickOf_9 ?_
  refine J_sipush C dX0_tickOf_10 (zi9 rfl rfl) (by decide) ?_
  refine J_irem C dX0_tickOf_13 (by decide) ?_
  refine J_bind fun i_2 e_3 => ?_
  subst e_3
  refine J_g fun h_4 => ?_
  refine J_iald (t := 21) (N := 300) C (Nat.le_of_ble_eq_true rfl) rfl rfl h_4 dX0_tickOf_14 ?_
  exact J_iret C dX0_tickOf_15 (by decide) (by decide)
def fX0_jointOf (s0 : zS) (i0 : Nat) (x1 : Int) : Option (Int × zS) :=
  nm_ (gR s0 1 i0 0) fun (r_1 : Option Nat) => Option.bind r_1 fun i_2 => g_ ((0 : Int) ≤ Int.tmod (wr ((gI s0 1 i0 2) + x1)) 300 ∧ (Int.tmod (wr ((gI s0 1 i0 2) + x1)) 300 : Int) < 300) (some (gI s0 20 i_2 (Int.toNat (Int.tmod (wr ((gI s0 1 i0 2) + x1)) 300)), s0))
set_option maxHeartbeats 4000000 in
set_option maxRecDepth 20000 in
theorem kX0_jointOf (s0 : zS) (i0 : Nat) (x1 : Int) : zCt zw yX0_jointOf cX0_jointOf 2 (some .int) 0 0 0 0 eI [.inr (1, some i0), .inl x1] s0 (fX0_jointOf s0 i0 x1) := by
  refine zCt_on (own := RX0) (nm := "jointOf") rfl rfl (by decide) (Nat.le_of_ble_eq_true rfl) fun K C => ?_
  show zJ zw 2 K _ 0 0 0 [(0, .inr (1, some i0)), (1, .inl x1)] [] s0 (fX0_jointOf s0 i0 x1)
  unfold fX0_jointOf
  refine J_aload_n C 0 dX0_jointOf_0 rfl ?_
  refine gf_1_0 C dX0_jointOf_1 q_83 ?_
  refine J_nmR fun r_1 => ?_
  refine J_aload_n C 0 dX0_jointOf_4 rfl ?_
  refine gf_1_2 C dX0_jointOf_5 q_85 ?_
  refine J_iload_n C 1 dX0_jointOf_8 rfl ?_
  refine J_iadd C dX0_jointOf_9 ?_
  refine J_sipush C dX0_jointOf_10 (zi9 rfl rfl) (by decide) ?_
  refine J_irem C dX0_jointOf_13 (by decide) ?_
  refine J_bind fun i_2 e_3 => ?_
  subst e_3
  refine J_g fun h_4 => ?_
  refine J_iald (t := 20) (N := 300) C (Nat.le_of_ble_eq_true rfl) rfl rfl h_4 dX0_jointOf_14 ?_
  exact J_iret C dX0_jointOf_15 (by decide) (by decide)
def fX10_bell (s0 : zS) (i0 : Nat) (x1 : Int) (x2 : Int) : Option (Int × zS) :=
  if x1 < 0 then (some ((-9), s0)) else (nm_ (gR s0 0 i0 7) fun (r_1 : Option Nat) => Option.bind r_1 fun i_2 => if x1 < gI s0 1 i_2 3 then (if x2 = 0 then (nm_ (gR s0 0 i0 7) fun (r_4 : Option Nat) => Option.bind r_4 fun i_5 => cl_ (fX0_jointOf s0 i_5 x1) fun (x_8 : Int) (s_7 : zS) => some (x_8, s_7)) else (nm_ (gR s0 0 i0 7) fun (r_9 : Option Nat) => Option.bind r_9 fun i_10 => cl_ (fX0_tickOf s0 i_10 x1) fun (x_13 : Int) (s_12 : zS) => some (x_13, s_12))) else (some ((-9), s0)))
set_option maxHeartbeats 4000000 in
set_option maxRecDepth 20000 in
theorem kX10_bell (s0 : zS) (i0 : Nat) (x1 : Int) (x2 : Int) : zCt zw yX10_bell cX10_bell 3 (some .int) 1 21 0 0 eI [.inr (0, some i0), .inl x1, .inl x2] s0 (fX10_bell s0 i0 x1 x2) := by
  refine zCt_on (own := RX10) (nm := "bell") rfl rfl (by decide) (Nat.le_of_ble_eq_true rfl) fun K C => ?_
  show zJ zw 3 K _ 0 0 0 [(0, .inr (0, some i0)), (1, .inl x1), (2, .inl x2)] [] s0 (fX10_bell s0 i0 x1 x2)
  unfold fX10_bell
  refine J_iload_n C 1 dX10_bell_0 rfl ?_
  refine J_if_lt C 15 dX10_bell_1 rfl (fun _ => ?_) (fun _ => ?_)
  · refine J_bipush C dX10_bell_15 (zi9 rfl rfl) (by decide) ?_
    exact J_iret C dX10_bell_17 (by decide) (by decide)
  · refine J_iload_n C 1 dX10_bell_4 rfl ?_
    refine J_aload_n C 0 dX10_bell_5 rfl ?_
    refine gf_0_7 C dX10_bell_6 q_263 ?_
    refine J_nmR fun r_1 => ?_
    refine J_bind fun i_2 e_3 => ?_
    subst e_3
    refine gf_1_3 C dX10_bell_9 q_87 ?_
    refine J_ic_lt C 18 dX10_bell_12 rfl (fun _ => ?_) (fun _ => ?_)
    · refine J_iload_n C 2 dX10_bell_18 rfl ?_
      refine J_if_eq C 33 dX10_bell_19 rfl (fun _ => ?_) (fun _ => ?_)
      · refine J_aload_n C 0 dX10_bell_33 rfl ?_
        refine gf_0_7 C dX10_bell_34 q_263 ?_
        refine J_nmR fun r_4 => ?_
        refine J_iload_n C 1 dX10_bell_37 rfl ?_
        refine J_bind fun i_5 e_6 => ?_
        subst e_6
        refine J_callVI (S := []) (avs := [.inl x1]) C zx1 yw_80 rfl (kX0_jointOf _ _ _) dX10_bell_38 rfl (Nat.le_of_ble_eq_true rfl) (by decide) fun x_8 s_7 => ?_
        exact J_iret C dX10_bell_41 (by decide) (by decide)
      · refine J_aload_n C 0 dX10_bell_22 rfl ?_
        refine gf_0_7 C dX10_bell_23 q_263 ?_
        refine J_nmR fun r_9 => ?_
        refine J_iload_n C 1 dX10_bell_26 rfl ?_
        refine J_bind fun i_10 e_11 => ?_
        subst e_11
        refine J_callVI (S := []) (avs := [.inl x1]) C zx1 yw_81 rfl (kX0_tickOf _ _ _) dX10_bell_27 rfl (Nat.le_of_ble_eq_true rfl) (by decide) fun x_13 s_12 => ?_
        refine J_goto C 41 dX10_bell_30 rfl ?_
        exact J_iret C dX10_bell_41 (by decide) (by decide)
    · refine J_bipush C dX10_bell_15 (zi9 rfl rfl) (by decide) ?_
      exact J_iret C dX10_bell_17 (by decide) (by decide)
def fX0_firstFrom_L2 (o0 : Nat) (c1 : Int) (c2 : Int) : Nat → zS → Int → Option (Int × zS)
  | 0, _, _ => none
  | n + 1, s0, x3 =>
    if x3 < gI s0 1 o0 3 then (cl_ (fX0_jointOf s0 o0 x3) fun (x_2 : Int) (s_1 : zS) => nm_ (fun (s_3 : zS) => nm_ (wr (x3 + 1)) fun (x_4 : Int) => fX0_firstFrom_L2 o0 c1 c2 n s_3 x_4) fun (j34 : zS → Option (Int × zS)) => if x_2 = c1 then (cl_ (fX0_tickOf s_1 o0 x3) fun (x_6 : Int) (s_5 : zS) => if x_6 < c2 then (j34 s_5) else (cl_ (fX0_tickOf s_5 o0 x3) fun (x_8 : Int) (s_7 : zS) => some (x_8, s_7))) else (j34 s_1)) else (some ((-9), s0))
def fX0_firstFrom (nf : Nat) (s0 : zS) (i0 : Nat) (x1 : Int) (x2 : Int) : Option (Int × zS) :=
  fX0_firstFrom_L2 i0 x1 x2 nf s0 0
set_option maxHeartbeats 4000000 in
set_option maxRecDepth 20000 in
theorem kX0_firstFrom_L2 {K : zKx} (C : zC zw 4 K RX0 cX0_firstFrom "firstFrom" (some .int) 1 21 0 0)  (o0 : Nat) (c1 : Int) (c2 : Int) : ∀ (n : Nat) (s0 : zS) (x3 : Int), zJ zw 4 K (zQm zw eI 0 0 K) 0 0 2 [(0, .inr (1, some o0)), (1, .inl c1), (2, .inl c2), (3, .inl x3)] [] s0 (fX0_firstFrom_L2 o0 c1 c2 n s0 x3) := by
  intro n
  induction n with
  | zero => intro s0 x3; exact J_none
  | succ n ih =>
    intro s0 x3
    rw [fX0_firstFrom_L2]
    refine J_iload_n C 3 dX0_firstFrom_2 rfl ?_
    refine J_aload_n C 0 dX0_firstFrom_3 rfl ?_
    refine gf_1_3 C dX0_firstFrom_4 q_86 ?_
    refine J_ic_ge C 40 dX0_firstFrom_7 rfl (fun _ => ?_) (fun _ => ?_)
    · refine J_bipush C dX0_firstFrom_40 (zi9 rfl rfl) (by decide) ?_
      exact J_iret C dX0_firstFrom_42 (by decide) (by decide)
    · refine J_aload_n C 0 dX0_firstFrom_10 rfl ?_
      refine J_iload_n C 3 dX0_firstFrom_11 rfl ?_
      refine J_callVI (S := []) (avs := [.inl x3]) C zx1 yw_83 rfl (kX0_jointOf _ _ _) dX0_firstFrom_12 rfl (Nat.le_of_ble_eq_true rfl) (by decide) fun x_2 s_1 => ?_
      refine J_iload_n C 1 dX0_firstFrom_15 rfl ?_
      refine J_join (fun j34 => ∀ (s_3 : zS), zJ zw 4 K (zQm zw eI 0 0 K) 0 0 34 [(0, .inr (1, some o0)), (1, .inl c1), (2, .inl c2), (3, .inl x3)] [] s_3 (j34 s_3)) ?_ fun j34 hj34 => ?_
      · intro s_3
        refine J_iinc C 3 dX0_firstFrom_34 (zi9 rfl rfl) (Nat.le_of_ble_eq_true rfl) rfl fun x_4 => ?_
        refine J_goto C 2 dX0_firstFrom_37 rfl ?_
        exact ih _ _
      · refine J_ic_ne C 34 dX0_firstFrom_16 rfl (fun _ => ?_) (fun _ => ?_)
        · exact hj34 _
        · refine J_aload_n C 0 dX0_firstFrom_19 rfl ?_
          refine J_iload_n C 3 dX0_firstFrom_20 rfl ?_
          refine J_callVI (S := []) (avs := [.inl x3]) C zx1 yw_82 rfl (kX0_tickOf _ _ _) dX0_firstFrom_21 rfl (Nat.le_of_ble_eq_true rfl) (by decide) fun x_6 s_5 => ?_
          refine J_iload_n C 2 dX0_firstFrom_24 rfl ?_
          refine J_ic_lt C 34 dX0_firstFrom_25 rfl (fun _ => ?_) (fun _ => ?_)
          · exact hj34 _
          · refine J_aload_n C 0 dX0_firstFrom_28 rfl ?_
            refine J_iload_n C 3 dX0_firstFrom_29 rfl ?_
            refine J_callVI (S := []) (avs := [.inl x3]) C zx1 yw_82 rfl (kX0_tickOf _ _ _) dX0_firstFrom_30 rfl (Nat.le_of_ble_eq_true rfl) (by decide) fun x_8 s_7 => ?_
            exact J_iret C dX0_firstFrom_33 (by decide) (by decide)
set_option maxHeartbeats 4000000 in
set_option maxRecDepth 20000 in
theorem kX0_firstFrom (nf : Nat) (s0 : zS) (i0 : Nat) (x1 : Int) (x2 : Int) : zCt zw yX0_firstFrom cX0_firstFrom 4 (some .int) 1 21 0 0 eI [.inr (1, some i0), .inl x1, .inl x2] s0 (fX0_firstFrom nf s0 i0 x1 x2) := by
  refine zCt_on (own := RX0) (nm := "firstFrom") rfl rfl (by decide) (Nat.le_of_ble_eq_true rfl) fun K C => ?_
  show zJ zw 4 K _ 0 0 0 [(0, .inr (1, some i0)), (1, .inl x1), (2, .inl x2)] [] s0 (fX0_firstFrom nf s0 i0 x1 x2)
  unfold fX0_firstFrom
  refine J_iconst C dX0_firstFrom_0 (zi9 rfl rfl) ?_
  refine J_istore_n (L' := [(0, .inr (1, some i0)), (1, .inl x1), (2, .inl x2), (3, .inl 0)]) C dX0_firstFrom_1 (Nat.le_of_ble_eq_true rfl) rfl ?_
  exact kX0_firstFrom_L2 C _ _ _ _ _ _
def fX10_mayBe_L36 (o0 : Nat) (nf : Nat) : Nat → zS → Int → Int → Option Nat → Option (Int × zS)
  | 0, _, _, _, _ => none
  | n + 1, s0, x3, x4, r5 =>
    Option.bind r5 fun i_7 => nm_ (gR s0 8 i_7 1) fun (r_9 : Option Nat) => Option.elim r_9 (some (x3, s0)) fun i_10 => nm_ (wr (x4 + (gI s0 8 i_7 3))) fun (x_12 : Int) => nm_ (gR s0 8 i_7 1) fun (r_13 : Option Nat) => Option.bind r_13 fun i_14 => nm_ (fun (s_16 : zS) (y_17 : Int) => if y_17 = (-9) then (some (x3, s_16)) else (if gI s_16 0 o0 13 < y_17 then (some (x3, s_16)) else (nm_ (wr (x3 + 1)) fun (x_18 : Int) => nm_ (gR s_16 8 i_7 1) fun (r_19 : Option Nat) => fX10_mayBe_L36 o0 nf n s_16 x_18 y_17 r_19))) fun (j96 : zS → Int → Option (Int × zS)) => if gI s0 8 i_14 2 = 1 then (nm_ (gR s0 8 i_7 1) fun (r_20 : Option Nat) => Option.bind r_20 fun i_21 => if gI s0 8 i_21 13 = 0 then (nm_ (gR s0 0 o0 7) fun (r_23 : Option Nat) => nm_ (gR s0 8 i_7 1) fun (r_24 : Option Nat) => Option.bind r_24 fun i_25 => Option.bind r_23 fun i_27 => cl_ (fX0_firstFrom nf s0 i_27 (gI s0 8 i_25 0) x_12) fun (x_30 : Int) (s_29 : zS) => j96 s_29 x_30) else (j96 s0 x_12)) else (j96 s0 x_12)
def fX10_mayBe (nf : Nat) (s0 : zS) (i0 : Nat) (x1 : Int) : Option (Int × zS) :=
  cl_ (fX10_findCup s0 i0 x1) fun (r_2 : Option Nat) (s_1 : zS) => Option.elim r_2 (some ((-1), s_1)) fun i_3 => if gI s_1 5 i_3 12 = 0 then (some ((-3), s_1)) else (nm_ (gI s_1 5 i_3 14) fun (x_5 : Int) => nm_ (gR s_1 5 i_3 1) fun (r_6 : Option Nat) => fX10_mayBe_L36 i0 nf nf s_1 0 x_5 r_6)
set_option maxHeartbeats 4000000 in
set_option maxRecDepth 20000 in
theorem kX10_mayBe_L36 {K : zKx} (C : zC zw 6 K RX10 cX10_mayBe "mayBe" (some .int) 2 44 0 0)  (nf : Nat) (o0 : Nat) : ∀ (n : Nat) (s0 : zS) (x3 : Int) (x4 : Int) (r5 : Option Nat), zJ zw 6 K (zQm zw eI 0 0 K) 0 0 36 [(0, .inr (0, some o0)), (3, .inl x3), (4, .inl x4), (5, .inr (8, r5))] [] s0 (fX10_mayBe_L36 o0 nf n s0 x3 x4 r5) := by
  intro n
  induction n with
  | zero => intro s0 x3 x4 r5; exact J_none
  | succ n ih =>
    intro s0 x3 x4 r5
    rw [fX10_mayBe_L36]
    refine J_aload C 3 dX10_mayBe_36 rfl ?_
    refine J_bind fun i_7 e_8 => ?_
    subst e_8
    refine gf_8_1 C dX10_mayBe_38 q_197 ?_
    refine J_nmR fun r_9 => ?_
    refine J_elim (fun e_11 => ?_) (fun i_10 e_11 => ?_)
    · subst e_11
      refine J_null_n C 127 dX10_mayBe_41 rfl ?_
      refine J_iload_n C 1 dX10_mayBe_127 rfl ?_
      exact J_iret C dX10_mayBe_128 (by decide) (by decide)
    · subst e_11
      refine J_null_s C dX10_mayBe_41 ?_
      refine J_iload C 2 dX10_mayBe_44 rfl ?_
      refine J_aload C 3 dX10_mayBe_46 rfl ?_
      refine gf_8_3 C dX10_mayBe_48 q_200 ?_
      refine J_iadd C dX10_mayBe_51 ?_
      refine J_nm fun x_12 => ?_
      refine J_istore (L' := [(0, .inr (0, some o0)), (3, .inl x3), (4, .inl x_12), (5, .inr (8, some i_7))]) C dX10_mayBe_52 (Nat.le_of_ble_eq_true rfl) rfl ?_
      refine J_aload C 3 dX10_mayBe_54 rfl ?_
      refine gf_8_1 C dX10_mayBe_56 q_197 ?_
      refine J_nmR fun r_13 => ?_
      refine J_bind fun i_14 e_15 => ?_
      subst e_15
      refine gf_8_2 C dX10_mayBe_59 q_199 ?_
      refine J_iconst C dX10_mayBe_62 (zi9 rfl rfl) ?_
      refine J_join (fun j96 => ∀ (s_16 : zS) (y_17 : Int), zJ zw 6 K (zQm zw eI 0 0 K) 0 0 96 [(0, .inr (0, some o0)), (3, .inl x3), (4, .inl y_17), (5, .inr (8, some i_7))] [] s_16 (j96 s_16 y_17)) ?_ fun j96 hj96 => ?_
      · intro s_16 y_17
        refine J_iload C 2 dX10_mayBe_96 rfl ?_
        refine J_bipush C dX10_mayBe_98 (zi9 rfl rfl) (by decide) ?_
        refine J_ic_eq C 112 dX10_mayBe_100 rfl (fun _ => ?_) (fun _ => ?_)
        · refine J_iload_n C 1 dX10_mayBe_112 rfl ?_
          exact J_iret C dX10_mayBe_113 (by decide) (by decide)
        · refine J_iload C 2 dX10_mayBe_103 rfl ?_
          refine J_aload_n C 0 dX10_mayBe_105 rfl ?_
          refine gf_0_13 C dX10_mayBe_106 q_269 ?_
          refine J_ic_le C 114 dX10_mayBe_109 rfl (fun _ => ?_) (fun _ => ?_)
          · refine J_iinc C 1 dX10_mayBe_114 (zi9 rfl rfl) (Nat.le_of_ble_eq_true rfl) rfl fun x_18 => ?_
            refine J_aload C 3 dX10_mayBe_117 rfl ?_
            refine gf_8_1 C dX10_mayBe_119 q_197 ?_
            refine J_nmR fun r_19 => ?_
            refine J_astore (L' := [(0, .inr (0, some o0)), (3, .inl x_18), (4, .inl y_17), (5, .inr (8, r_19))]) C dX10_mayBe_122 (Nat.le_of_ble_eq_true rfl) rfl ?_
            refine J_goto C 36 dX10_mayBe_124 rfl ?_
            exact ih _ _ _ _
          · refine J_iload_n C 1 dX10_mayBe_112 rfl ?_
            exact J_iret C dX10_mayBe_113 (by decide) (by decide)
      · refine J_ic_ne C 96 dX10_mayBe_63 rfl (fun _ => ?_) (fun _ => ?_)
        · exact hj96 _ _
        · refine J_aload C 3 dX10_mayBe_66 rfl ?_
          refine gf_8_1 C dX10_mayBe_68 q_197 ?_
          refine J_nmR fun r_20 => ?_
          refine J_bind fun i_21 e_22 => ?_
          subst e_22
          refine gf_8_13 C dX10_mayBe_71 q_218 ?_
          refine J_if_ne C 96 dX10_mayBe_74 rfl (fun _ => ?_) (fun _ => ?_)
          · exact hj96 _ _
          · refine J_aload_n C 0 dX10_mayBe_77 rfl ?_
            refine gf_0_7 C dX10_mayBe_78 q_263 ?_
            refine J_nmR fun r_23 => ?_
            refine J_aload C 3 dX10_mayBe_81 rfl ?_
            refine gf_8_1 C dX10_mayBe_83 q_197 ?_
            refine J_nmR fun r_24 => ?_
            refine J_bind fun i_25 e_26 => ?_
            subst e_26
            refine gf_8_0 C dX10_mayBe_86 q_194 ?_
            refine J_iload C 2 dX10_mayBe_89 rfl ?_
            refine J_bind fun i_27 e_28 => ?_
            subst e_28
            refine J_callVI (S := []) (avs := [.inl (gI s0 8 i_25 0), .inl x_12]) C zx1 yw_84 rfl (kX0_firstFrom _ _ _ _ _) dX10_mayBe_91 rfl (Nat.le_of_ble_eq_true rfl) (by decide) fun x_30 s_29 => ?_
            refine J_istore (L' := [(0, .inr (0, some o0)), (3, .inl x3), (4, .inl x_30), (5, .inr (8, some i_7))]) C dX10_mayBe_94 (Nat.le_of_ble_eq_true rfl) rfl ?_
            exact hj96 _ _
set_option maxHeartbeats 4000000 in
set_option maxRecDepth 20000 in
theorem kX10_mayBe (nf : Nat) (s0 : zS) (i0 : Nat) (x1 : Int) : zCt zw yX10_mayBe cX10_mayBe 6 (some .int) 2 44 0 0 eI [.inr (0, some i0), .inl x1] s0 (fX10_mayBe nf s0 i0 x1) := by
  refine zCt_on (own := RX10) (nm := "mayBe") rfl rfl (by decide) (Nat.le_of_ble_eq_true rfl) fun K C => ?_
  show zJ zw 6 K _ 0 0 0 [(0, .inr (0, some i0)), (1, .inl x1)] [] s0 (fX10_mayBe nf s0 i0 x1)
  unfold fX10_mayBe
  refine J_aload_n C 0 dX10_mayBe_0 rfl ?_
  refine J_iload_n C 1 dX10_mayBe_1 rfl ?_
  refine J_callVR (S := []) (avs := [.inl x1]) C zx0 yw_19 rfl (kX10_findCup _ _ _) dX10_mayBe_2 rfl (Nat.le_of_ble_eq_true rfl) (by decide) fun r_2 s_1 => ?_
  refine J_astore_n (L' := [(0, .inr (0, some i0)), (1, .inl x1), (2, .inr (5, r_2))]) C dX10_mayBe_5 (Nat.le_of_ble_eq_true rfl) rfl ?_
  refine J_aload_n C 2 dX10_mayBe_6 rfl ?_
  refine J_elim (fun e_4 => ?_) (fun i_3 e_4 => ?_)
  · subst e_4
    refine J_nonnull_n C dX10_mayBe_7 ?_
    refine J_iconst C dX10_mayBe_10 (zi9 rfl rfl) ?_
    exact J_iret C dX10_mayBe_11 (by decide) (by decide)
  · subst e_4
    refine J_nonnull_s C 12 dX10_mayBe_7 rfl ?_
    refine J_aload_n C 2 dX10_mayBe_12 rfl ?_
    refine gf_5_12 C dX10_mayBe_13 q_379 ?_
    refine J_if_ne C 22 dX10_mayBe_16 rfl (fun _ => ?_) (fun _ => ?_)
    · refine J_iconst C dX10_mayBe_22 (zi9 rfl rfl) ?_
      refine J_istore_n (L' := [(0, .inr (0, some i0)), (1, .inl x1), (2, .inr (5, some i_3)), (3, .inl 0)]) C dX10_mayBe_23 (Nat.le_of_ble_eq_true rfl) rfl ?_
      refine J_aload_n C 2 dX10_mayBe_24 rfl ?_
      refine gf_5_14 C dX10_mayBe_25 q_382 ?_
      refine J_nm fun x_5 => ?_
      refine J_istore (L' := [(0, .inr (0, some i0)), (1, .inl x1), (2, .inr (5, some i_3)), (3, .inl 0), (4, .inl x_5)]) C dX10_mayBe_28 (Nat.le_of_ble_eq_true rfl) rfl ?_
      refine J_aload_n C 2 dX10_mayBe_30 rfl ?_
      refine gf_5_1 C dX10_mayBe_31 q_356 ?_
      refine J_nmR fun r_6 => ?_
      refine J_astore (L' := [(0, .inr (0, some i0)), (1, .inl x1), (2, .inr (5, some i_3)), (3, .inl 0), (4, .inl x_5), (5, .inr (8, r_6))]) C dX10_mayBe_34 (Nat.le_of_ble_eq_true rfl) rfl ?_
      refine J_loc (L' := [(0, .inr (0, some i0)), (3, .inl 0), (4, .inl x_5), (5, .inr (8, r_6))]) [0, 3, 4, 5] rfl ?_
      exact kX10_mayBe_L36 C _ _ _ _ _ _ _
    · refine J_bipush C dX10_mayBe_19 (zi9 rfl rfl) (by decide) ?_
      exact J_iret C dX10_mayBe_21 (by decide) (by decide)
def fX10_cupsOut_L4 (o0 : Nat) : Nat → zS → Int → Int → Option (Int × zS)
  | 0, _, _, _ => none
  | n + 1, s0, x1, x2 =>
    if x2 < gI s0 0 o0 11 then (nm_ (gR s0 0 o0 1) fun (r_1 : Option Nat) => Option.bind r_1 fun i_2 => g_ ((0 : Int) ≤ x2 ∧ (x2 : Int) < 24) (nm_ (gR s0 12 i_2 (Int.toNat (x2))) fun (r_5 : Option Nat) => Option.bind r_5 fun i_6 => nm_ (fun (s_8 : zS) (y_9 : Int) => nm_ (wr (x2 + 1)) fun (x_10 : Int) => fX10_cupsOut_L4 o0 n s_8 y_9 x_10) fun (j27 : zS → Int → Option (Int × zS)) => if gI s0 5 i_6 3 = 0 then (j27 s0 x1) else (nm_ (wr (x1 + 1)) fun (x_11 : Int) => j27 s0 x_11))) else (some (x1, s0))
def fX10_cupsOut (nf : Nat) (s0 : zS) (i0 : Nat) : Option (Int × zS) :=
  fX10_cupsOut_L4 i0 nf s0 0 0
set_option maxHeartbeats 4000000 in
set_option maxRecDepth 20000 in
theorem kX10_cupsOut_L4 {K : zKx} (C : zC zw 3 K RX10 cX10_cupsOut "cupsOut" (some .int) 0 0 0 0)  (o0 : Nat) : ∀ (n : Nat) (s0 : zS) (x1 : Int) (x2 : Int), zJ zw 3 K (zQm zw eI 0 0 K) 0 0 4 [(0, .inr (0, some o0)), (1, .inl x1), (2, .inl x2)] [] s0 (fX10_cupsOut_L4 o0 n s0 x1 x2) := by
  intro n
  induction n with
  | zero => intro s0 x1 x2; exact J_none
  | succ n ih =>
    intro s0 x1 x2
    rw [fX10_cupsOut_L4]
    refine J_iload_n C 2 dX10_cupsOut_4 rfl ?_
    refine J_aload_n C 0 dX10_cupsOut_5 rfl ?_
    refine gf_0_11 C dX10_cupsOut_6 q_267 ?_
    refine J_ic_ge C 33 dX10_cupsOut_9 rfl (fun _ => ?_) (fun _ => ?_)
    · refine J_iload_n C 1 dX10_cupsOut_33 rfl ?_
      exact J_iret C dX10_cupsOut_34 (by decide) (by decide)
    · refine J_aload_n C 0 dX10_cupsOut_12 rfl ?_
      refine gf_0_1 C dX10_cupsOut_13 q_257 ?_
      refine J_nmR fun r_1 => ?_
      refine J_iload_n C 2 dX10_cupsOut_16 rfl ?_
      refine J_bind fun i_2 e_3 => ?_
      subst e_3
      refine J_g fun h_4 => ?_
      refine J_aald (t := 12) (N := 24) (u := 5) (a := 3) C (Nat.le_of_ble_eq_true rfl) rfl rfl (fun _ => rfl) h_4 dX10_cupsOut_17 ?_
      refine J_nmR fun r_5 => ?_
      refine J_bind fun i_6 e_7 => ?_
      subst e_7
      refine gf_5_3 C dX10_cupsOut_18 q_360 ?_
      refine J_join (fun j27 => ∀ (s_8 : zS) (y_9 : Int), zJ zw 3 K (zQm zw eI 0 0 K) 0 0 27 [(0, .inr (0, some o0)), (1, .inl y_9), (2, .inl x2)] [] s_8 (j27 s_8 y_9)) ?_ fun j27 hj27 => ?_
      · intro s_8 y_9
        refine J_iinc C 2 dX10_cupsOut_27 (zi9 rfl rfl) (Nat.le_of_ble_eq_true rfl) rfl fun x_10 => ?_
        refine J_goto C 4 dX10_cupsOut_30 rfl ?_
        exact ih _ _ _
      · refine J_if_eq C 27 dX10_cupsOut_21 rfl (fun _ => ?_) (fun _ => ?_)
        · exact hj27 _ _
        · refine J_iinc C 1 dX10_cupsOut_24 (zi9 rfl rfl) (Nat.le_of_ble_eq_true rfl) rfl fun x_11 => ?_
          exact hj27 _ _
set_option maxHeartbeats 4000000 in
set_option maxRecDepth 20000 in
theorem kX10_cupsOut (nf : Nat) (s0 : zS) (i0 : Nat) : zCt zw yX10_cupsOut cX10_cupsOut 3 (some .int) 0 0 0 0 eI [.inr (0, some i0)] s0 (fX10_cupsOut nf s0 i0) := by
  refine zCt_on (own := RX10) (nm := "cupsOut") rfl rfl (by decide) (Nat.le_of_ble_eq_true rfl) fun K C => ?_
  show zJ zw 3 K _ 0 0 0 [(0, .inr (0, some i0))] [] s0 (fX10_cupsOut nf s0 i0)
  unfold fX10_cupsOut
  refine J_iconst C dX10_cupsOut_0 (zi9 rfl rfl) ?_
  refine J_istore_n (L' := [(0, .inr (0, some i0)), (1, .inl 0)]) C dX10_cupsOut_1 (Nat.le_of_ble_eq_true rfl) rfl ?_
  refine J_iconst C dX10_cupsOut_2 (zi9 rfl rfl) ?_
  refine J_istore_n (L' := [(0, .inr (0, some i0)), (1, .inl 0), (2, .inl 0)]) C dX10_cupsOut_3 (Nat.le_of_ble_eq_true rfl) rfl ?_
  exact kX10_cupsOut_L4 C _ _ _ _ _
def fX10_cupsWorth_L4 (o0 : Nat) (nf : Nat) : Nat → zS → Int → Int → Option (Int × zS)
  | 0, _, _, _ => none
  | n + 1, s0, x1, x2 =>
    if x2 < gI s0 0 o0 11 then (nm_ (gR s0 0 o0 1) fun (r_1 : Option Nat) => Option.bind r_1 fun i_2 => g_ ((0 : Int) ≤ x2 ∧ (x2 : Int) < 24) (nm_ (gR s0 12 i_2 (Int.toNat (x2))) fun (r_5 : Option Nat) => Option.bind r_5 fun i_6 => nm_ (gR s0 5 i_6 2) fun (r_8 : Option Nat) => Option.bind r_8 fun i_9 => cl_ (fX3_worth nf s0 i_9) fun (x_12 : Int) (s_11 : zS) => nm_ (wr (x1 + x_12)) fun (x_13 : Int) => nm_ (wr (x2 + 1)) fun (x_14 : Int) => fX10_cupsWorth_L4 o0 nf n s_11 x_13 x_14)) else (some (x1, s0))
def fX10_cupsWorth (nf : Nat) (s0 : zS) (i0 : Nat) : Option (Int × zS) :=
  fX10_cupsWorth_L4 i0 nf nf s0 0 0
set_option maxHeartbeats 4000000 in
set_option maxRecDepth 20000 in
theorem kX10_cupsWorth_L4 {K : zKx} (C : zC zw 3 K RX10 cX10_cupsWorth "cupsWorth" (some .int) 1 22 0 0)  (nf : Nat) (o0 : Nat) : ∀ (n : Nat) (s0 : zS) (x1 : Int) (x2 : Int), zJ zw 3 K (zQm zw eI 0 0 K) 0 0 4 [(0, .inr (0, some o0)), (1, .inl x1), (2, .inl x2)] [] s0 (fX10_cupsWorth_L4 o0 nf n s0 x1 x2) := by
  intro n
  induction n with
  | zero => intro s0 x1 x2; exact J_none
  | succ n ih =>
    intro s0 x1 x2
    rw [fX10_cupsWorth_L4]
    refine J_iload_n C 2 dX10_cupsWorth_4 rfl ?_
    refine J_aload_n C 0 dX10_cupsWorth_5 rfl ?_
    refine gf_0_11 C dX10_cupsWorth_6 q_267 ?_
    refine J_ic_ge C 33 dX10_cupsWorth_9 rfl (fun _ => ?_) (fun _ => ?_)
    · refine J_iload_n C 1 dX10_cupsWorth_33 rfl ?_
      exact J_iret C dX10_cupsWorth_34 (by decide) (by decide)
    · refine J_iload_n C 1 dX10_cupsWorth_12 rfl ?_
      refine J_aload_n C 0 dX10_cupsWorth_13 rfl ?_
      refine gf_0_1 C dX10_cupsWorth_14 q_257 ?_
      refine J_nmR fun r_1 => ?_
      refine J_iload_n C 2 dX10_cupsWorth_17 rfl ?_
      refine J_bind fun i_2 e_3 => ?_
      subst e_3
      refine J_g fun h_4 => ?_
      refine J_aald (t := 12) (N := 24) (u := 5) (a := 3) C (Nat.le_of_ble_eq_true rfl) rfl rfl (fun _ => rfl) h_4 dX10_cupsWorth_18 ?_
      refine J_nmR fun r_5 => ?_
      refine J_bind fun i_6 e_7 => ?_
      subst e_7
      refine gf_5_2 C dX10_cupsWorth_19 q_358 ?_
      refine J_nmR fun r_8 => ?_
      refine J_bind fun i_9 e_10 => ?_
      subst e_10
      refine J_callVI (S := [.inl x1]) (avs := []) C zx4 yw_34 rfl (kX3_worth _ _ _) dX10_cupsWorth_22 rfl (Nat.le_of_ble_eq_true rfl) (by decide) fun x_12 s_11 => ?_
      refine J_iadd C dX10_cupsWorth_25 ?_
      refine J_nm fun x_13 => ?_
      refine J_istore_n (L' := [(0, .inr (0, some o0)), (1, .inl x_13), (2, .inl x2)]) C dX10_cupsWorth_26 (Nat.le_of_ble_eq_true rfl) rfl ?_
      refine J_iinc C 2 dX10_cupsWorth_27 (zi9 rfl rfl) (Nat.le_of_ble_eq_true rfl) rfl fun x_14 => ?_
      refine J_goto C 4 dX10_cupsWorth_30 rfl ?_
      exact ih _ _ _
set_option maxHeartbeats 4000000 in
set_option maxRecDepth 20000 in
theorem kX10_cupsWorth (nf : Nat) (s0 : zS) (i0 : Nat) : zCt zw yX10_cupsWorth cX10_cupsWorth 3 (some .int) 1 22 0 0 eI [.inr (0, some i0)] s0 (fX10_cupsWorth nf s0 i0) := by
  refine zCt_on (own := RX10) (nm := "cupsWorth") rfl rfl (by decide) (Nat.le_of_ble_eq_true rfl) fun K C => ?_
  show zJ zw 3 K _ 0 0 0 [(0, .inr (0, some i0))] [] s0 (fX10_cupsWorth nf s0 i0)
  unfold fX10_cupsWorth
  refine J_iconst C dX10_cupsWorth_0 (zi9 rfl rfl) ?_
  refine J_istore_n (L' := [(0, .inr (0, some i0)), (1, .inl 0)]) C dX10_cupsWorth_1 (Nat.le_of_ble_eq_true rfl) rfl ?_
  refine J_iconst C dX10_cupsWorth_2 (zi9 rfl rfl) ?_
  refine J_istore_n (L' := [(0, .inr (0, some i0)), (1, .inl 0), (2, .inl 0)]) C dX10_cupsWorth_3 (Nat.le_of_ble_eq_true rfl) rfl ?_
  exact kX10_cupsWorth_L4 C _ _ _ _ _ _
def fX10_total (nf : Nat) (s0 : zS) (i0 : Nat) (x1 : Int) : Option (Int × zS) :=
  if x1 = 0 then (some (gI s0 0 i0 10, s0)) else (if x1 = 1 then (some (gI s0 0 i0 11, s0)) else (if x1 = 2 then (some (gI s0 0 i0 13, s0)) else (if x1 = 3 then (cl_ (fX10_cupsOut nf s0 i0) fun (x_6 : Int) (s_5 : zS) => some (x_6, s_5)) else (if x1 = 4 then (some (gI s0 0 i0 12, s0)) else (if x1 = 5 then (some (gI s0 0 i0 15, s0)) else (if x1 = 6 then (some (gI s0 0 i0 16, s0)) else (if x1 = 7 then (nm_ (gR s0 0 i0 4) fun (r_11 : Option Nat) => Option.bind r_11 fun i_12 => cl_ (fX3_worth nf s0 i_12) fun (x_15 : Int) (s_14 : zS) => cl_ (fX10_cupsWorth nf s_14 i0) fun (x_17 : Int) (s_16 : zS) => some (wr (x_15 + x_17), s_16)) else (some ((-2), s0)))))))))
set_option maxHeartbeats 4000000 in
set_option maxRecDepth 20000 in
theorem kX10_total (nf : Nat) (s0 : zS) (i0 : Nat) (x1 : Int) : zCt zw yX10_total cX10_total 2 (some .int) 2 44 0 0 eI [.inr (0, some i0), .inl x1] s0 (fX10_total nf s0 i0 x1) := by
  refine zCt_on (own := RX10) (nm := "total") rfl rfl (by decide) (Nat.le_of_ble_eq_true rfl) fun K C => ?_
  show zJ zw 2 K _ 0 0 0 [(0, .inr (0, some i0)), (1, .inl x1)] [] s0 (fX10_total nf s0 i0 x1)
  unfold fX10_total
  refine J_iload_n C 1 dX10_total_0 rfl ?_
  refine J_if (fun h_1 => ?_) (fun h_1 => ?_)
  · refine J_swIn C 48 dX10_total_1 (by omega) (by omega) (by rw [h_1]; rfl) rfl ?_
    refine J_aload_n C 0 dX10_total_48 rfl ?_
    refine gf_0_10 C dX10_total_49 q_266 ?_
    exact J_iret C dX10_total_52 (by decide) (by decide)
  · refine J_if (fun h_2 => ?_) (fun h_2 => ?_)
    · refine J_swIn C 53 dX10_total_1 (by omega) (by omega) (by rw [h_2]; rfl) rfl ?_
      refine J_aload_n C 0 dX10_total_53 rfl ?_
      refine gf_0_11 C dX10_total_54 q_267 ?_
      exact J_iret C dX10_total_57 (by decide) (by decide)
    · refine J_if (fun h_3 => ?_) (fun h_3 => ?_)
      · refine J_swIn C 58 dX10_total_1 (by omega) (by omega) (by rw [h_3]; rfl) rfl ?_
        refine J_aload_n C 0 dX10_total_58 rfl ?_
        refine gf_0_13 C dX10_total_59 q_269 ?_
        exact J_iret C dX10_total_62 (by decide) (by decide)
      · refine J_if (fun h_4 => ?_) (fun h_4 => ?_)
        · refine J_swIn C 63 dX10_total_1 (by omega) (by omega) (by rw [h_4]; rfl) rfl ?_
          refine J_aload_n C 0 dX10_total_63 rfl ?_
          refine J_callVI (S := []) (avs := []) C zx0 yw_85 rfl (kX10_cupsOut _ _ _) dX10_total_64 rfl (Nat.le_of_ble_eq_true rfl) (by decide) fun x_6 s_5 => ?_
          exact J_iret C dX10_total_67 (by decide) (by decide)
        · refine J_if (fun h_7 => ?_) (fun h_7 => ?_)
          · refine J_swIn C 68 dX10_total_1 (by omega) (by omega) (by rw [h_7]; rfl) rfl ?_
            refine J_aload_n C 0 dX10_total_68 rfl ?_
            refine gf_0_12 C dX10_total_69 q_268 ?_
            exact J_iret C dX10_total_72 (by decide) (by decide)
          · refine J_if (fun h_8 => ?_) (fun h_8 => ?_)
            · refine J_swIn C 73 dX10_total_1 (by omega) (by omega) (by rw [h_8]; rfl) rfl ?_
              refine J_aload_n C 0 dX10_total_73 rfl ?_
              refine gf_0_15 C dX10_total_74 q_271 ?_
              exact J_iret C dX10_total_77 (by decide) (by decide)
            · refine J_if (fun h_9 => ?_) (fun h_9 => ?_)
              · refine J_swIn C 78 dX10_total_1 (by omega) (by omega) (by rw [h_9]; rfl) rfl ?_
                refine J_aload_n C 0 dX10_total_78 rfl ?_
                refine gf_0_16 C dX10_total_79 q_272 ?_
                exact J_iret C dX10_total_82 (by decide) (by decide)
              · refine J_if (fun h_10 => ?_) (fun h_10 => ?_)
                · refine J_swIn C 83 dX10_total_1 (by omega) (by omega) (by rw [h_10]; rfl) rfl ?_
                  refine J_aload_n C 0 dX10_total_83 rfl ?_
                  refine gf_0_4 C dX10_total_84 q_260 ?_
                  refine J_nmR fun r_11 => ?_
                  refine J_bind fun i_12 e_13 => ?_
                  subst e_13
                  refine J_callVI (S := []) (avs := []) C zx4 yw_34 rfl (kX3_worth _ _ _) dX10_total_87 rfl (Nat.le_of_ble_eq_true rfl) (by decide) fun x_15 s_14 => ?_
                  refine J_aload_n C 0 dX10_total_90 rfl ?_
                  refine J_callVI (S := [.inl x_15]) (avs := []) C zx0 yw_86 rfl (kX10_cupsWorth _ _ _) dX10_total_91 rfl (Nat.le_of_ble_eq_true rfl) (by decide) fun x_17 s_16 => ?_
                  refine J_iadd C dX10_total_94 ?_
                  exact J_iret C dX10_total_95 (by decide) (by decide)
                · refine J_swOut C 96 dX10_total_1 (by omega) rfl ?_
                  refine J_bipush C dX10_total_96 (zi9 rfl rfl) (by decide) ?_
                  exact J_iret C dX10_total_98 (by decide) (by decide)
def fX11_init (s0 : zS) (i0 : Nat) : Option (Unit × zS) :=
  up_ (sN s0 67) fun (s_1 : zS) => up_ (sR s_1 64 i0 1 (some (gN s0 67))) fun (s_2 : zS) => up_ (sN s_2 68) fun (s_3 : zS) => up_ (sR s_3 64 i0 2 (some (gN s_2 68))) fun (s_4 : zS) => up_ (sN s_4 69) fun (s_5 : zS) => up_ (sR s_5 64 i0 3 (some (gN s_4 69))) fun (s_6 : zS) => up_ (sN s_6 70) fun (s_7 : zS) => up_ (sR s_7 64 i0 4 (some (gN s_6 70))) fun (s_8 : zS) => up_ (sN s_8 71) fun (s_9 : zS) => up_ (sR s_9 64 i0 5 (some (gN s_8 71))) fun (s_10 : zS) => up_ (sN s_10 72) fun (s_11 : zS) => up_ (sR s_11 64 i0 6 (some (gN s_10 72))) fun (s_12 : zS) => up_ (sN s_12 73) fun (s_13 : zS) => up_ (sR s_13 64 i0 7 (some (gN s_12 73))) fun (s_14 : zS) => up_ (sN s_14 74) fun (s_15 : zS) => up_ (sR s_15 64 i0 8 (some (gN s_14 74))) fun (s_16 : zS) => up_ (sN s_16 75) fun (s_17 : zS) => up_ (sR s_17 64 i0 9 (some (gN s_16 75))) fun (s_18 : zS) => up_ (sN s_18 76) fun (s_19 : zS) => up_ (sR s_19 64 i0 10 (some (gN s_18 76))) fun (s_20 : zS) => up_ (sN s_20 77) fun (s_21 : zS) => up_ (sR s_21 64 i0 11 (some (gN s_20 77))) fun (s_22 : zS) => up_ (sN s_22 78) fun (s_23 : zS) => up_ (sR s_23 64 i0 12 (some (gN s_22 78))) fun (s_24 : zS) => up_ (sN s_24 81) fun (s_25 : zS) => up_ (sR s_25 64 i0 15 (some (gN s_24 81))) fun (s_26 : zS) => up_ (sN s_26 82) fun (s_27 : zS) => up_ (sR s_27 64 i0 16 (some (gN s_26 82))) fun (s_28 : zS) => up_ (sN s_28 83) fun (s_29 : zS) => up_ (sR s_29 64 i0 17 (some (gN s_28 83))) fun (s_30 : zS) => up_ (sN s_30 84) fun (s_31 : zS) => up_ (sR s_31 64 i0 18 (some (gN s_30 84))) fun (s_32 : zS) => up_ (sN s_32 85) fun (s_33 : zS) => up_ (sR s_33 64 i0 19 (some (gN s_32 85))) fun (s_34 : zS) => up_ (sN s_34 86) fun (s_35 : zS) => up_ (sR s_35 64 i0 20 (some (gN s_34 86))) fun (s_36 : zS) => up_ (sN s_36 87) fun (s_37 : zS) => up_ (sR s_37 64 i0 21 (some (gN s_36 87))) fun (s_38 : zS) => up_ (sN s_38 88) fun (s_39 : zS) => up_ (sR s_39 64 i0 22 (some (gN s_38 88))) fun (s_40 : zS) => up_ (sN s_40 89) fun (s_41 : zS) => up_ (sR s_41 64 i0 23 (some (gN s_40 89))) fun (s_42 : zS) => up_ (sN s_42 90) fun (s_43 : zS) => up_ (sR s_43 64 i0 24 (some (gN s_42 90))) fun (s_44 : zS) => up_ (sN s_44 91) fun (s_45 : zS) => up_ (sR s_45 64 i0 25 (some (gN s_44 91))) fun (s_46 : zS) => up_ (sN s_46 92) fun (s_47 : zS) => up_ (sR s_47 64 i0 26 (some (gN s_46 92))) fun (s_48 : zS) => up_ (sN s_48 95) fun (s_49 : zS) => up_ (sR s_49 64 i0 29 (some (gN s_48 95))) fun (s_50 : zS) => up_ (sN s_50 96) fun (s_51 : zS) => up_ (sR s_51 64 i0 30 (some (gN s_50 96))) fun (s_52 : zS) => up_ (sN s_52 97) fun (s_53 : zS) => up_ (sR s_53 64 i0 31 (some (gN s_52 97))) fun (s_54 : zS) => up_ (sN s_54 98) fun (s_55 : zS) => up_ (sR s_55 64 i0 32 (some (gN s_54 98))) fun (s_56 : zS) => up_ (sN s_56 99) fun (s_57 : zS) => up_ (sR s_57 64 i0 33 (some (gN s_56 99))) fun (s_58 : zS) => up_ (sN s_58 101) fun (s_59 : zS) => up_ (sR s_59 64 i0 35 (some (gN s_58 101))) fun (s_60 : zS) => up_ (sN s_60 102) fun (s_61 : zS) => up_ (sR s_61 64 i0 36 (some (gN s_60 102))) fun (s_62 : zS) => up_ (sN s_62 103) fun (s_63 : zS) => up_ (sR s_63 64 i0 37 (some (gN s_62 103))) fun (s_64 : zS) => up_ (sN s_64 106) fun (s_65 : zS) => up_ (sR s_65 64 i0 40 (some (gN s_64 106))) fun (s_66 : zS) => up_ (sN s_66 107) fun (s_67 : zS) => up_ (sR s_67 64 i0 41 (some (gN s_66 107))) fun (s_68 : zS) => up_ (sN s_68 108) fun (s_69 : zS) => up_ (sR s_69 64 i0 42 (some (gN s_68 108))) fun (s_70 : zS) => up_ (sN s_70 109) fun (s_71 : zS) => up_ (sR s_71 64 i0 43 (some (gN s_70 109))) fun (s_72 : zS) => up_ (sN s_72 110) fun (s_73 : zS) => up_ (sR s_73 64 i0 44 (some (gN s_72 110))) fun (s_74 : zS) => up_ (sN s_74 111) fun (s_75 : zS) => up_ (sR s_75 64 i0 45 (some (gN s_74 111))) fun (s_76 : zS) => up_ (sN s_76 115) fun (s_77 : zS) => up_ (sR s_77 64 i0 49 (some (gN s_76 115))) fun (s_78 : zS) => up_ (sN s_78 116) fun (s_79 : zS) => up_ (sR s_79 64 i0 50 (some (gN s_78 116))) fun (s_80 : zS) => up_ (sN s_80 117) fun (s_81 : zS) => up_ (sR s_81 64 i0 51 (some (gN s_80 117))) fun (s_82 : zS) => up_ (sN s_82 119) fun (s_83 : zS) => up_ (sR s_83 64 i0 53 (some (gN s_82 119))) fun (s_84 : zS) => up_ (sN s_84 122) fun (s_85 : zS) => up_ (sR s_85 64 i0 56 (some (gN s_84 122))) fun (s_86 : zS) => up_ (sN s_86 124) fun (s_87 : zS) => up_ (sR s_87 64 i0 58 (some (gN s_86 124))) fun (s_88 : zS) => up_ (sI s_88 64 i0 0 1) fun (s_89 : zS) => nm_ (gR s_89 64 i0 1) fun (r_90 : Option Nat) => Option.bind r_90 fun i_91 => g_ ((0 : Int) ≤ 0 ∧ (0 : Int) < 16) (up_ (sI s_89 67 i_91 (Int.toNat (0)) (-9)) fun (s_94 : zS) => some ((), s_94))
set_option maxHeartbeats 4000000 in
set_option maxRecDepth 20000 in
theorem kX11_init (s0 : zS) (i0 : Nat) : zCt zw yX11_init cX11_init 1 none 1 12 44 1516 eV [.inr (64, some i0)] s0 (fX11_init s0 i0) := by
  refine zCt_on (own := RX11) (nm := "<init>") rfl rfl (by decide) (Nat.le_of_ble_eq_true rfl) fun K C => ?_
  show zJ zw 1 K _ 0 0 0 [(0, .inr (64, some i0))] [] s0 (fX11_init s0 i0)
  unfold fX11_init
  refine J_aload_n C 0 dX11_init_0 rfl ?_
  refine J_objInit C dX11_init_1 q_843 q_22 q_23 (by decide) (Nat.le_of_ble_eq_true rfl) ?_
  refine J_aload_n C 0 dX11_init_4 rfl ?_
  refine J_bipush C dX11_init_5 (zi9 rfl rfl) (by decide) ?_
  refine J_newa (t := 67) (N := 16) C (Nat.le_of_ble_eq_true rfl) rfl rfl rfl (by decide) dX11_init_7 (by decide) q_42 (by decide) (by decide) fun s_1 => ?_
  refine pf_64_1 C ⟨rfl, rfl⟩ dX11_init_9 q_845 fun s_2 => ?_
  refine J_aload_n C 0 dX11_init_12 rfl ?_
  refine J_bipush C dX11_init_13 (zi9 rfl rfl) (by decide) ?_
  refine J_newa (t := 68) (N := 16) C (Nat.le_of_ble_eq_true rfl) rfl rfl rfl (by decide) dX11_init_15 (by decide) q_42 (by decide) (by decide) fun s_3 => ?_
  refine pf_64_2 C ⟨rfl, rfl⟩ dX11_init_17 q_846 fun s_4 => ?_
  refine J_aload_n C 0 dX11_init_20 rfl ?_
  refine J_bipush C dX11_init_21 (zi9 rfl rfl) (by decide) ?_
  refine J_newa (t := 69) (N := 16) C (Nat.le_of_ble_eq_true rfl) rfl rfl rfl (by decide) dX11_init_23 (by decide) q_42 (by decide) (by decide) fun s_5 => ?_
  refine pf_64_3 C ⟨rfl, rfl⟩ dX11_init_25 q_847 fun s_6 => ?_
  refine J_aload_n C 0 dX11_init_28 rfl ?_
  refine J_bipush C dX11_init_29 (zi9 rfl rfl) (by decide) ?_
  refine J_newa (t := 70) (N := 16) C (Nat.le_of_ble_eq_true rfl) rfl rfl rfl (by decide) dX11_init_31 (by decide) q_42 (by decide) (by decide) fun s_7 => ?_
  refine pf_64_4 C ⟨rfl, rfl⟩ dX11_init_33 q_848 fun s_8 => ?_
  refine J_aload_n C 0 dX11_init_36 rfl ?_
  refine J_bipush C dX11_init_37 (zi9 rfl rfl) (by decide) ?_
  refine J_newa (t := 71) (N := 16) C (Nat.le_of_ble_eq_true rfl) rfl rfl rfl (by decide) dX11_init_39 (by decide) q_134 (by decide) (by decide) fun s_9 => ?_
  refine pf_64_5 C ⟨rfl, rfl⟩ dX11_init_41 q_849 fun s_10 => ?_
  refine J_aload_n C 0 dX11_init_44 rfl ?_
  refine J_bipush C dX11_init_45 (zi9 rfl rfl) (by decide) ?_
  refine J_newa (t := 72) (N := 16) C (Nat.le_of_ble_eq_true rfl) rfl rfl rfl (by decide) dX11_init_47 (by decide) q_134 (by decide) (by decide) fun s_11 => ?_
  refine pf_64_6 C ⟨rfl, rfl⟩ dX11_init_49 q_850 fun s_12 => ?_
  refine J_aload_n C 0 dX11_init_52 rfl ?_
  refine J_bipush C dX11_init_53 (zi9 rfl rfl) (by decide) ?_
  refine J_newa (t := 73) (N := 16) C (Nat.le_of_ble_eq_true rfl) rfl rfl rfl (by decide) dX11_init_55 (by decide) q_42 (by decide) (by decide) fun s_13 => ?_
  refine pf_64_7 C ⟨rfl, rfl⟩ dX11_init_57 q_851 fun s_14 => ?_
  refine J_aload_n C 0 dX11_init_60 rfl ?_
  refine J_bipush C dX11_init_61 (zi9 rfl rfl) (by decide) ?_
  refine J_newa (t := 74) (N := 16) C (Nat.le_of_ble_eq_true rfl) rfl rfl rfl (by decide) dX11_init_63 (by decide) q_42 (by decide) (by decide) fun s_15 => ?_
  refine pf_64_8 C ⟨rfl, rfl⟩ dX11_init_65 q_852 fun s_16 => ?_
  refine J_aload_n C 0 dX11_init_68 rfl ?_
  refine J_bipush C dX11_init_69 (zi9 rfl rfl) (by decide) ?_
  refine J_newa (t := 75) (N := 16) C (Nat.le_of_ble_eq_true rfl) rfl rfl rfl (by decide) dX11_init_71 (by decide) q_42 (by decide) (by decide) fun s_17 => ?_
  refine pf_64_9 C ⟨rfl, rfl⟩ dX11_init_73 q_853 fun s_18 => ?_
  refine J_aload_n C 0 dX11_init_76 rfl ?_
  refine J_bipush C dX11_init_77 (zi9 rfl rfl) (by decide) ?_
  refine J_newa (t := 76) (N := 16) C (Nat.le_of_ble_eq_true rfl) rfl rfl rfl (by decide) dX11_init_79 (by decide) q_134 (by decide) (by decide) fun s_19 => ?_
  refine pf_64_10 C ⟨rfl, rfl⟩ dX11_init_81 q_854 fun s_20 => ?_
  refine J_aload_n C 0 dX11_init_84 rfl ?_
  refine J_bipush C dX11_init_85 (zi9 rfl rfl) (by decide) ?_
  refine J_newa (t := 77) (N := 16) C (Nat.le_of_ble_eq_true rfl) rfl rfl rfl (by decide) dX11_init_87 (by decide) q_42 (by decide) (by decide) fun s_21 => ?_
  refine pf_64_11 C ⟨rfl, rfl⟩ dX11_init_89 q_855 fun s_22 => ?_
  refine J_aload_n C 0 dX11_init_92 rfl ?_
  refine J_bipush C dX11_init_93 (zi9 rfl rfl) (by decide) ?_
  refine J_newa (t := 78) (N := 32) C (Nat.le_of_ble_eq_true rfl) rfl rfl rfl (by decide) dX11_init_95 (by decide) q_42 (by decide) (by decide) fun s_23 => ?_
  refine pf_64_12 C ⟨rfl, rfl⟩ dX11_init_97 q_856 fun s_24 => ?_
  refine J_aload_n C 0 dX11_init_100 rfl ?_
  refine J_bipush C dX11_init_101 (zi9 rfl rfl) (by decide) ?_
  refine J_newa (t := 81) (N := 24) C (Nat.le_of_ble_eq_true rfl) rfl rfl rfl (by decide) dX11_init_103 (by decide) q_42 (by decide) (by decide) fun s_25 => ?_
  refine pf_64_15 C ⟨rfl, rfl⟩ dX11_init_105 q_859 fun s_26 => ?_
  refine J_aload_n C 0 dX11_init_108 rfl ?_
  refine J_bipush C dX11_init_109 (zi9 rfl rfl) (by decide) ?_
  refine J_newa (t := 82) (N := 24) C (Nat.le_of_ble_eq_true rfl) rfl rfl rfl (by decide) dX11_init_111 (by decide) q_42 (by decide) (by decide) fun s_27 => ?_
  refine pf_64_16 C ⟨rfl, rfl⟩ dX11_init_113 q_860 fun s_28 => ?_
  refine J_aload_n C 0 dX11_init_116 rfl ?_
  refine J_bipush C dX11_init_117 (zi9 rfl rfl) (by decide) ?_
  refine J_newa (t := 83) (N := 24) C (Nat.le_of_ble_eq_true rfl) rfl rfl rfl (by decide) dX11_init_119 (by decide) q_42 (by decide) (by decide) fun s_29 => ?_
  refine pf_64_17 C ⟨rfl, rfl⟩ dX11_init_121 q_861 fun s_30 => ?_
  refine J_aload_n C 0 dX11_init_124 rfl ?_
  refine J_bipush C dX11_init_125 (zi9 rfl rfl) (by decide) ?_
  refine J_newa (t := 84) (N := 24) C (Nat.le_of_ble_eq_true rfl) rfl rfl rfl (by decide) dX11_init_127 (by decide) q_42 (by decide) (by decide) fun s_31 => ?_
  refine pf_64_18 C ⟨rfl, rfl⟩ dX11_init_129 q_862 fun s_32 => ?_
  refine J_aload_n C 0 dX11_init_132 rfl ?_
  refine J_bipush C dX11_init_133 (zi9 rfl rfl) (by decide) ?_
  refine J_newa (t := 85) (N := 24) C (Nat.le_of_ble_eq_true rfl) rfl rfl rfl (by decide) dX11_init_135 (by decide) q_134 (by decide) (by decide) fun s_33 => ?_
  refine pf_64_19 C ⟨rfl, rfl⟩ dX11_init_137 q_863 fun s_34 => ?_
  refine J_aload_n C 0 dX11_init_140 rfl ?_
  refine J_bipush C dX11_init_141 (zi9 rfl rfl) (by decide) ?_
  refine J_newa (t := 86) (N := 24) C (Nat.le_of_ble_eq_true rfl) rfl rfl rfl (by decide) dX11_init_143 (by decide) q_42 (by decide) (by decide) fun s_35 => ?_
  refine pf_64_20 C ⟨rfl, rfl⟩ dX11_init_145 q_864 fun s_36 => ?_
  refine J_aload_n C 0 dX11_init_148 rfl ?_
  refine J_bipush C dX11_init_149 (zi9 rfl rfl) (by decide) ?_
  refine J_newa (t := 87) (N := 24) C (Nat.le_of_ble_eq_true rfl) rfl rfl rfl (by decide) dX11_init_151 (by decide) q_42 (by decide) (by decide) fun s_37 => ?_
  refine pf_64_21 C ⟨rfl, rfl⟩ dX11_init_153 q_865 fun s_38 => ?_
  refine J_aload_n C 0 dX11_init_156 rfl ?_
  refine J_bipush C dX11_init_157 (zi9 rfl rfl) (by decide) ?_
  refine J_newa (t := 88) (N := 24) C (Nat.le_of_ble_eq_true rfl) rfl rfl rfl (by decide) dX11_init_159 (by decide) q_42 (by decide) (by decide) fun s_39 => ?_
  refine pf_64_22 C ⟨rfl, rfl⟩ dX11_init_161 q_866 fun s_40 => ?_
  refine J_aload_n C 0 dX11_init_164 rfl ?_
  refine J_bipush C dX11_init_165 (zi9 rfl rfl) (by decide) ?_
  refine J_newa (t := 89) (N := 24) C (Nat.le_of_ble_eq_true rfl) rfl rfl rfl (by decide) dX11_init_167 (by decide) q_42 (by decide) (by decide) fun s_41 => ?_
  refine pf_64_23 C ⟨rfl, rfl⟩ dX11_init_169 q_867 fun s_42 => ?_
  refine J_aload_n C 0 dX11_init_172 rfl ?_
  refine J_bipush C dX11_init_173 (zi9 rfl rfl) (by decide) ?_
  refine J_newa (t := 90) (N := 24) C (Nat.le_of_ble_eq_true rfl) rfl rfl rfl (by decide) dX11_init_175 (by decide) q_42 (by decide) (by decide) fun s_43 => ?_
  refine pf_64_24 C ⟨rfl, rfl⟩ dX11_init_177 q_868 fun s_44 => ?_
  refine J_aload_n C 0 dX11_init_180 rfl ?_
  refine J_sipush C dX11_init_181 (zi9 rfl rfl) (by decide) ?_
  refine J_newa (t := 91) (N := 144) C (Nat.le_of_ble_eq_true rfl) rfl rfl rfl (by decide) dX11_init_184 (by decide) q_42 (by decide) (by decide) fun s_45 => ?_
  refine pf_64_25 C ⟨rfl, rfl⟩ dX11_init_186 q_869 fun s_46 => ?_
  refine J_aload_n C 0 dX11_init_189 rfl ?_
  refine J_bipush C dX11_init_190 (zi9 rfl rfl) (by decide) ?_
  refine J_newa (t := 92) (N := 6) C (Nat.le_of_ble_eq_true rfl) rfl rfl rfl (by decide) dX11_init_192 (by decide) q_42 (by decide) (by decide) fun s_47 => ?_
  refine pf_64_26 C ⟨rfl, rfl⟩ dX11_init_194 q_870 fun s_48 => ?_
  refine J_aload_n C 0 dX11_init_197 rfl ?_
  refine J_bipush C dX11_init_198 (zi9 rfl rfl) (by decide) ?_
  refine J_newa (t := 95) (N := 16) C (Nat.le_of_ble_eq_true rfl) rfl rfl rfl (by decide) dX11_init_200 (by decide) q_42 (by decide) (by decide) fun s_49 => ?_
  refine pf_64_29 C ⟨rfl, rfl⟩ dX11_init_202 q_873 fun s_50 => ?_
  refine J_aload_n C 0 dX11_init_205 rfl ?_
  refine J_bipush C dX11_init_206 (zi9 rfl rfl) (by decide) ?_
  refine J_newa (t := 96) (N := 16) C (Nat.le_of_ble_eq_true rfl) rfl rfl rfl (by decide) dX11_init_208 (by decide) q_42 (by decide) (by decide) fun s_51 => ?_
  refine pf_64_30 C ⟨rfl, rfl⟩ dX11_init_210 q_874 fun s_52 => ?_
  refine J_aload_n C 0 dX11_init_213 rfl ?_
  refine J_bipush C dX11_init_214 (zi9 rfl rfl) (by decide) ?_
  refine J_newa (t := 97) (N := 16) C (Nat.le_of_ble_eq_true rfl) rfl rfl rfl (by decide) dX11_init_216 (by decide) q_42 (by decide) (by decide) fun s_53 => ?_
  refine pf_64_31 C ⟨rfl, rfl⟩ dX11_init_218 q_875 fun s_54 => ?_
  refine J_aload_n C 0 dX11_init_221 rfl ?_
  refine J_bipush C dX11_init_222 (zi9 rfl rfl) (by decide) ?_
  refine J_newa (t := 98) (N := 16) C (Nat.le_of_ble_eq_true rfl) rfl rfl rfl (by decide) dX11_init_224 (by decide) q_42 (by decide) (by decide) fun s_55 => ?_
  refine pf_64_32 C ⟨rfl, rfl⟩ dX11_init_226 q_876 fun s_56 => ?_
  refine J_aload_n C 0 dX11_init_229 rfl ?_
  refine J_bipush C dX11_init_230 (zi9 rfl rfl) (by decide) ?_
  refine J_newa (t := 99) (N := 16) C (Nat.le_of_ble_eq_true rfl) rfl rfl rfl (by decide) dX11_init_232 (by decide) q_42 (by decide) (by decide) fun s_57 => ?_
  refine pf_64_33 C ⟨rfl, rfl⟩ dX11_init_234 q_877 fun s_58 => ?_
  refine J_aload_n C 0 dX11_init_237 rfl ?_
  refine J_iconst C dX11_init_238 (zi9 rfl rfl) ?_
  refine J_newa (t := 101) (N := 4) C (Nat.le_of_ble_eq_true rfl) rfl rfl rfl (by decide) dX11_init_239 (by decide) q_42 (by decide) (by decide) fun s_59 => ?_
  refine pf_64_35 C ⟨rfl, rfl⟩ dX11_init_241 q_879 fun s_60 => ?_
  refine J_aload_n C 0 dX11_init_244 rfl ?_
  refine J_iconst C dX11_init_245 (zi9 rfl rfl) ?_
  refine J_newa (t := 102) (N := 4) C (Nat.le_of_ble_eq_true rfl) rfl rfl rfl (by decide) dX11_init_246 (by decide) q_42 (by decide) (by decide) fun s_61 => ?_
  refine pf_64_36 C ⟨rfl, rfl⟩ dX11_init_248 q_880 fun s_62 => ?_
  refine J_aload_n C 0 dX11_init_251 rfl ?_
  refine J_iconst C dX11_init_252 (zi9 rfl rfl) ?_
  refine J_newa (t := 103) (N := 4) C (Nat.le_of_ble_eq_true rfl) rfl rfl rfl (by decide) dX11_init_253 (by decide) q_42 (by decide) (by decide) fun s_63 => ?_
  refine pf_64_37 C ⟨rfl, rfl⟩ dX11_init_255 q_881 fun s_64 => ?_
  refine J_aload_n C 0 dX11_init_258 rfl ?_
  refine J_bipush C dX11_init_259 (zi9 rfl rfl) (by decide) ?_
  refine J_newa (t := 106) (N := 20) C (Nat.le_of_ble_eq_true rfl) rfl rfl rfl (by decide) dX11_init_261 (by decide) q_42 (by decide) (by decide) fun s_65 => ?_
  refine pf_64_40 C ⟨rfl, rfl⟩ dX11_init_263 q_884 fun s_66 => ?_
  refine J_aload_n C 0 dX11_init_266 rfl ?_
  refine J_bipush C dX11_init_267 (zi9 rfl rfl) (by decide) ?_
  refine J_newa (t := 107) (N := 20) C (Nat.le_of_ble_eq_true rfl) rfl rfl rfl (by decide) dX11_init_269 (by decide) q_42 (by decide) (by decide) fun s_67 => ?_
  refine pf_64_41 C ⟨rfl, rfl⟩ dX11_init_271 q_885 fun s_68 => ?_
  refine J_aload_n C 0 dX11_init_274 rfl ?_
  refine J_bipush C dX11_init_275 (zi9 rfl rfl) (by decide) ?_
  refine J_newa (t := 108) (N := 20) C (Nat.le_of_ble_eq_true rfl) rfl rfl rfl (by decide) dX11_init_277 (by decide) q_42 (by decide) (by decide) fun s_69 => ?_
  refine pf_64_42 C ⟨rfl, rfl⟩ dX11_init_279 q_886 fun s_70 => ?_
  refine J_aload_n C 0 dX11_init_282 rfl ?_
  refine J_bipush C dX11_init_283 (zi9 rfl rfl) (by decide) ?_
  refine J_newa (t := 109) (N := 24) C (Nat.le_of_ble_eq_true rfl) rfl rfl rfl (by decide) dX11_init_285 (by decide) q_42 (by decide) (by decide) fun s_71 => ?_
  refine pf_64_43 C ⟨rfl, rfl⟩ dX11_init_287 q_887 fun s_72 => ?_
  refine J_aload_n C 0 dX11_init_290 rfl ?_
  refine J_bipush C dX11_init_291 (zi9 rfl rfl) (by decide) ?_
  refine J_newa (t := 110) (N := 6) C (Nat.le_of_ble_eq_true rfl) rfl rfl rfl (by decide) dX11_init_293 (by decide) q_42 (by decide) (by decide) fun s_73 => ?_
  refine pf_64_44 C ⟨rfl, rfl⟩ dX11_init_295 q_888 fun s_74 => ?_
  refine J_aload_n C 0 dX11_init_298 rfl ?_
  refine J_bipush C dX11_init_299 (zi9 rfl rfl) (by decide) ?_
  refine J_newa (t := 111) (N := 6) C (Nat.le_of_ble_eq_true rfl) rfl rfl rfl (by decide) dX11_init_301 (by decide) q_42 (by decide) (by decide) fun s_75 => ?_
  refine pf_64_45 C ⟨rfl, rfl⟩ dX11_init_303 q_889 fun s_76 => ?_
  refine J_aload_n C 0 dX11_init_306 rfl ?_
  refine J_sipush C dX11_init_307 (zi9 rfl rfl) (by decide) ?_
  refine J_newa (t := 115) (N := 300) C (Nat.le_of_ble_eq_true rfl) rfl rfl rfl (by decide) dX11_init_310 (by decide) q_42 (by decide) (by decide) fun s_77 => ?_
  refine pf_64_49 C ⟨rfl, rfl⟩ dX11_init_312 q_893 fun s_78 => ?_
  refine J_aload_n C 0 dX11_init_315 rfl ?_
  refine J_sipush C dX11_init_316 (zi9 rfl rfl) (by decide) ?_
  refine J_newa (t := 116) (N := 300) C (Nat.le_of_ble_eq_true rfl) rfl rfl rfl (by decide) dX11_init_319 (by decide) q_42 (by decide) (by decide) fun s_79 => ?_
  refine pf_64_50 C ⟨rfl, rfl⟩ dX11_init_321 q_894 fun s_80 => ?_
  refine J_aload_n C 0 dX11_init_324 rfl ?_
  refine J_bipush C dX11_init_325 (zi9 rfl rfl) (by decide) ?_
  refine J_newa (t := 117) (N := 24) C (Nat.le_of_ble_eq_true rfl) rfl rfl rfl (by decide) dX11_init_327 (by decide) q_42 (by decide) (by decide) fun s_81 => ?_
  refine pf_64_51 C ⟨rfl, rfl⟩ dX11_init_329 q_895 fun s_82 => ?_
  refine J_aload_n C 0 dX11_init_332 rfl ?_
  refine J_iconst C dX11_init_333 (zi9 rfl rfl) ?_
  refine J_newa (t := 119) (N := 4) C (Nat.le_of_ble_eq_true rfl) rfl rfl rfl (by decide) dX11_init_334 (by decide) q_42 (by decide) (by decide) fun s_83 => ?_
  refine pf_64_53 C ⟨rfl, rfl⟩ dX11_init_336 q_897 fun s_84 => ?_
  refine J_aload_n C 0 dX11_init_339 rfl ?_
  refine J_bipush C dX11_init_340 (zi9 rfl rfl) (by decide) ?_
  refine J_newa (t := 122) (N := 6) C (Nat.le_of_ble_eq_true rfl) rfl rfl rfl (by decide) dX11_init_342 (by decide) q_42 (by decide) (by decide) fun s_85 => ?_
  refine pf_64_56 C ⟨rfl, rfl⟩ dX11_init_344 q_900 fun s_86 => ?_
  refine J_aload_n C 0 dX11_init_347 rfl ?_
  refine J_bipush C dX11_init_348 (zi9 rfl rfl) (by decide) ?_
  refine J_newa (t := 124) (N := 96) C (Nat.le_of_ble_eq_true rfl) rfl rfl rfl (by decide) dX11_init_350 (by decide) q_42 (by decide) (by decide) fun s_87 => ?_
  refine pf_64_58 C ⟨rfl, rfl⟩ dX11_init_352 q_902 fun s_88 => ?_
  refine J_aload_n C 0 dX11_init_355 rfl ?_
  refine J_iconst C dX11_init_356 (zi9 rfl rfl) ?_
  refine pf_64_0 C dX11_init_357 q_844 fun s_89 => ?_
  refine J_aload_n C 0 dX11_init_360 rfl ?_
  refine gf_64_1 C dX11_init_361 q_845 ?_
  refine J_nmR fun r_90 => ?_
  refine J_iconst C dX11_init_364 (zi9 rfl rfl) ?_
  refine J_bipush C dX11_init_365 (zi9 rfl rfl) (by decide) ?_
  refine J_bind fun i_91 e_92 => ?_
  subst e_92
  refine J_g fun h_93 => ?_
  refine J_iast (t := 67) (N := 16) C (Nat.le_of_ble_eq_true rfl) rfl rfl h_93 dX11_init_367 fun s_94 => ?_
  exact J_vret C dX11_init_368 (by decide) (by decide)
