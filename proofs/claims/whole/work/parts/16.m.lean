def fX11_serve_L2 (o0 : Nat) (nf : Nat) : Nat → zS → Int → Option (Unit × zS)
  | 0, _, _ => none
  | n + 1, s0, x1 =>
    if x1 < gI s0 64 o0 34 then (nm_ (gR s0 64 o0 36) fun (r_1 : Option Nat) => Option.bind r_1 fun i_2 => g_ ((0 : Int) ≤ x1 ∧ (x1 : Int) < 4) (nm_ (fun (s_5 : zS) => nm_ (wr (x1 + 1)) fun (x_6 : Int) => fX11_serve_L2 o0 nf n s_5 x_6) fun (j60 : zS → Option (Unit × zS)) => if gI s0 102 i_2 (Int.toNat (x1)) = (-9) then (j60 s0) else (nm_ (gR s0 64 o0 37) fun (r_7 : Option Nat) => Option.bind r_7 fun i_8 => g_ ((0 : Int) ≤ x1 ∧ (x1 : Int) < 4) (g_ ((0 : Int) ≤ x1 ∧ (x1 : Int) < 4) (up_ (sI s0 103 i_8 (Int.toNat (x1)) (wr ((gI s0 103 i_8 (Int.toNat (x1))) - 1))) fun (s_12 : zS) => nm_ (gR s_12 64 o0 37) fun (r_13 : Option Nat) => Option.bind r_13 fun i_14 => g_ ((0 : Int) ≤ x1 ∧ (x1 : Int) < 4) (if gI s_12 103 i_14 (Int.toNat (x1)) = 0 then (nm_ (gR s_12 64 o0 36) fun (r_17 : Option Nat) => Option.bind r_17 fun i_18 => g_ ((0 : Int) ≤ x1 ∧ (x1 : Int) < 4) (nm_ (gI s_12 102 i_18 (Int.toNat (x1))) fun (x_21 : Int) => nm_ (gR s_12 64 o0 36) fun (r_22 : Option Nat) => Option.bind r_22 fun i_23 => g_ ((0 : Int) ≤ x1 ∧ (x1 : Int) < 4) (up_ (sI s_12 102 i_23 (Int.toNat (x1)) (-9)) fun (s_26 : zS) => cl_ (fX11_settle nf s_26 o0 x_21) fun (_ : Unit) (s_27 : zS) => j60 s_27))) else (j60 s_12))))))) else (some ((), s0))
def fX11_serve (nf : Nat) (s0 : zS) (i0 : Nat) : Option (Unit × zS) :=
  fX11_serve_L2 i0 nf nf s0 0
set_option maxHeartbeats 4000000 in
set_option maxRecDepth 20000 in
theorem kX11_serve_L2 {K : zKx} (C : zC zw 3 K RX11 cX11_serve "serve" none 4 96 0 0)  (nf : Nat) (o0 : Nat) : ∀ (n : Nat) (s0 : zS) (x1 : Int), zJ zw 3 K (zQm zw eV 0 0 K) 0 0 2 [(0, .inr (64, some o0)), (1, .inl x1)] [] s0 (fX11_serve_L2 o0 nf n s0 x1) := by
  intro n
  induction n with
  | zero => intro s0 x1; exact J_none
  | succ n ih =>
    intro s0 x1
    rw [fX11_serve_L2]
    refine J_iload_n C 1 dX11_serve_2 rfl ?_
    refine J_aload_n C 0 dX11_serve_3 rfl ?_
    refine gf_64_34 C dX11_serve_4 q_878 ?_
    refine J_ic_ge C 66 dX11_serve_7 rfl (fun _ => ?_) (fun _ => ?_)
    · exact J_vret C dX11_serve_66 (by decide) (by decide)
    · refine J_aload_n C 0 dX11_serve_10 rfl ?_
      refine gf_64_36 C dX11_serve_11 q_880 ?_
      refine J_nmR fun r_1 => ?_
      refine J_iload_n C 1 dX11_serve_14 rfl ?_
      refine J_bind fun i_2 e_3 => ?_
      subst e_3
      refine J_g fun h_4 => ?_
      refine J_iald (t := 102) (N := 4) C (Nat.le_of_ble_eq_true rfl) rfl rfl h_4 dX11_serve_15 ?_
      refine J_bipush C dX11_serve_16 (zi9 rfl rfl) (by decide) ?_
      refine J_join (fun j60 => ∀ (s_5 : zS), zJ zw 3 K (zQm zw eV 0 0 K) 0 0 60 [(0, .inr (64, some o0)), (1, .inl x1)] [] s_5 (j60 s_5)) ?_ fun j60 hj60 => ?_
      · intro s_5
        refine J_iinc C 1 dX11_serve_60 (zi9 rfl rfl) (Nat.le_of_ble_eq_true rfl) rfl fun x_6 => ?_
        refine J_goto C 2 dX11_serve_63 rfl ?_
        exact ih _ _
      · refine J_ic_eq C 60 dX11_serve_18 rfl (fun _ => ?_) (fun _ => ?_)
        · exact hj60 _
        · refine J_aload_n C 0 dX11_serve_21 rfl ?_
          refine gf_64_37 C dX11_serve_22 q_881 ?_
          refine J_nmR fun r_7 => ?_
          refine J_iload_n C 1 dX11_serve_25 rfl ?_
          refine J_dup2 C dX11_serve_26 ?_
          refine J_bind fun i_8 e_9 => ?_
          subst e_9
          refine J_g fun h_10 => ?_
          refine J_iald (t := 103) (N := 4) C (Nat.le_of_ble_eq_true rfl) rfl rfl h_10 dX11_serve_27 ?_
          refine J_iconst C dX11_serve_28 (zi9 rfl rfl) ?_
          refine J_isub C dX11_serve_29 ?_
          refine J_g fun h_11 => ?_
          refine J_iast (t := 103) (N := 4) C (Nat.le_of_ble_eq_true rfl) rfl rfl h_11 dX11_serve_30 fun s_12 => ?_
          refine J_aload_n C 0 dX11_serve_31 rfl ?_
          refine gf_64_37 C dX11_serve_32 q_881 ?_
          refine J_nmR fun r_13 => ?_
          refine J_iload_n C 1 dX11_serve_35 rfl ?_
          refine J_bind fun i_14 e_15 => ?_
          subst e_15
          refine J_g fun h_16 => ?_
          refine J_iald (t := 103) (N := 4) C (Nat.le_of_ble_eq_true rfl) rfl rfl h_16 dX11_serve_36 ?_
          refine J_if_ne C 60 dX11_serve_37 rfl (fun _ => ?_) (fun _ => ?_)
          · exact hj60 _
          · refine J_aload_n C 0 dX11_serve_40 rfl ?_
            refine gf_64_36 C dX11_serve_41 q_880 ?_
            refine J_nmR fun r_17 => ?_
            refine J_iload_n C 1 dX11_serve_44 rfl ?_
            refine J_bind fun i_18 e_19 => ?_
            subst e_19
            refine J_g fun h_20 => ?_
            refine J_iald (t := 102) (N := 4) C (Nat.le_of_ble_eq_true rfl) rfl rfl h_20 dX11_serve_45 ?_
            refine J_nm fun x_21 => ?_
            refine J_istore_n (L' := [(0, .inr (64, some o0)), (1, .inl x1), (2, .inl x_21)]) C dX11_serve_46 (Nat.le_of_ble_eq_true rfl) rfl ?_
            refine J_aload_n C 0 dX11_serve_47 rfl ?_
            refine gf_64_36 C dX11_serve_48 q_880 ?_
            refine J_nmR fun r_22 => ?_
            refine J_iload_n C 1 dX11_serve_51 rfl ?_
            refine J_bipush C dX11_serve_52 (zi9 rfl rfl) (by decide) ?_
            refine J_bind fun i_23 e_24 => ?_
            subst e_24
            refine J_g fun h_25 => ?_
            refine J_iast (t := 102) (N := 4) C (Nat.le_of_ble_eq_true rfl) rfl rfl h_25 dX11_serve_54 fun s_26 => ?_
            refine J_aload_n C 0 dX11_serve_55 rfl ?_
            refine J_iload_n C 2 dX11_serve_56 rfl ?_
            refine J_callVV (S := []) (avs := [.inl x_21]) C zx64 yw_106 rfl (kX11_settle _ _ _ _) dX11_serve_57 rfl (Nat.le_of_ble_eq_true rfl) (by decide) fun _ s_27 => ?_
            refine J_loc (L' := [(0, .inr (64, some o0)), (1, .inl x1)]) [0, 1] rfl ?_
            exact hj60 _
set_option maxHeartbeats 4000000 in
set_option maxRecDepth 20000 in
theorem kX11_serve (nf : Nat) (s0 : zS) (i0 : Nat) : zCt zw yX11_serve cX11_serve 3 none 4 96 0 0 eV [.inr (64, some i0)] s0 (fX11_serve nf s0 i0) := by
  refine zCt_on (own := RX11) (nm := "serve") rfl rfl (by decide) (Nat.le_of_ble_eq_true rfl) fun K C => ?_
  show zJ zw 3 K _ 0 0 0 [(0, .inr (64, some i0))] [] s0 (fX11_serve nf s0 i0)
  unfold fX11_serve
  refine J_iconst C dX11_serve_0 (zi9 rfl rfl) ?_
  refine J_istore_n (L' := [(0, .inr (64, some i0)), (1, .inl 0)]) C dX11_serve_1 (Nat.le_of_ble_eq_true rfl) rfl ?_
  exact kX11_serve_L2 C _ _ _ _ _
def fX11_bring_L4 (o0 : Nat) : Nat → zS → Int → Int → Option (Unit × zS)
  | 0, _, _, _ => none
  | n + 1, s0, x1, x2 =>
    if x2 < gI s0 64 o0 39 then (nm_ (gR s0 64 o0 42) fun (r_2 : Option Nat) => Option.bind r_2 fun i_3 => g_ ((0 : Int) ≤ x2 ∧ (x2 : Int) < 20) (nm_ (fun (s_6 : zS) (y_7 : Int) => nm_ (wr (x2 + 1)) fun (x_8 : Int) => fX11_bring_L4 o0 n s_6 y_7 x_8) fun (j87 : zS → Int → Option (Unit × zS)) => if gI s0 108 i_3 (Int.toNat (x2)) = gI s0 64 o0 13 then (nm_ (gR s0 64 o0 26) fun (r_37 : Option Nat) => nm_ (gR s0 64 o0 40) fun (r_38 : Option Nat) => Option.bind r_38 fun i_39 => g_ ((0 : Int) ≤ x2 ∧ (x2 : Int) < 20) (Option.bind r_37 fun i_42 => g_ ((0 : Int) ≤ gI s0 106 i_39 (Int.toNat (x2)) ∧ (gI s0 106 i_39 (Int.toNat (x2)) : Int) < 6) (nm_ (gR s0 64 o0 41) fun (r_45 : Option Nat) => Option.bind r_45 fun i_46 => g_ ((0 : Int) ≤ x2 ∧ (x2 : Int) < 20) (g_ ((0 : Int) ≤ gI s0 106 i_39 (Int.toNat (x2)) ∧ (gI s0 106 i_39 (Int.toNat (x2)) : Int) < 6) (up_ (sI s0 92 i_42 (Int.toNat (gI s0 106 i_39 (Int.toNat (x2)))) (wr ((gI s0 92 i_42 (Int.toNat (gI s0 106 i_39 (Int.toNat (x2))))) + (gI s0 107 i_46 (Int.toNat (x2)))))) fun (s_50 : zS) => j87 s_50 x1))))) else (nm_ (gR s0 64 o0 40) fun (r_9 : Option Nat) => nm_ (gR s0 64 o0 40) fun (r_10 : Option Nat) => Option.bind r_10 fun i_11 => g_ ((0 : Int) ≤ x2 ∧ (x2 : Int) < 20) (Option.bind r_9 fun i_14 => g_ ((0 : Int) ≤ x1 ∧ (x1 : Int) < 20) (up_ (sI s0 106 i_14 (Int.toNat (x1)) (gI s0 106 i_11 (Int.toNat (x2)))) fun (s_17 : zS) => nm_ (gR s_17 64 o0 41) fun (r_18 : Option Nat) => nm_ (gR s_17 64 o0 41) fun (r_19 : Option Nat) => Option.bind r_19 fun i_20 => g_ ((0 : Int) ≤ x2 ∧ (x2 : Int) < 20) (Option.bind r_18 fun i_23 => g_ ((0 : Int) ≤ x1 ∧ (x1 : Int) < 20) (up_ (sI s_17 107 i_23 (Int.toNat (x1)) (gI s_17 107 i_20 (Int.toNat (x2)))) fun (s_26 : zS) => nm_ (gR s_26 64 o0 42) fun (r_27 : Option Nat) => nm_ (gR s_26 64 o0 42) fun (r_28 : Option Nat) => Option.bind r_28 fun i_29 => g_ ((0 : Int) ≤ x2 ∧ (x2 : Int) < 20) (Option.bind r_27 fun i_32 => g_ ((0 : Int) ≤ x1 ∧ (x1 : Int) < 20) (up_ (sI s_26 108 i_32 (Int.toNat (x1)) (gI s_26 108 i_29 (Int.toNat (x2)))) fun (s_35 : zS) => nm_ (wr (x1 + 1)) fun (x_36 : Int) => j87 s_35 x_36))))))))) else (up_ (sI s0 64 o0 39 x1) fun (s_1 : zS) => some ((), s_1))
def fX11_bring (nf : Nat) (s0 : zS) (i0 : Nat) : Option (Unit × zS) :=
  fX11_bring_L4 i0 nf s0 0 0
set_option maxHeartbeats 4000000 in
set_option maxRecDepth 20000 in
theorem kX11_bring_L4 {K : zKx} (C : zC zw 3 K RX11 cX11_bring "bring" none 0 0 0 0)  (o0 : Nat) : ∀ (n : Nat) (s0 : zS) (x1 : Int) (x2 : Int), zJ zw 3 K (zQm zw eV 0 0 K) 0 0 4 [(0, .inr (64, some o0)), (1, .inl x1), (2, .inl x2)] [] s0 (fX11_bring_L4 o0 n s0 x1 x2) := by
  intro n
  induction n with
  | zero => intro s0 x1 x2; exact J_none
  | succ n ih =>
    intro s0 x1 x2
    rw [fX11_bring_L4]
    refine J_iload_n C 2 dX11_bring_4 rfl ?_
    refine J_aload_n C 0 dX11_bring_5 rfl ?_
    refine gf_64_39 C dX11_bring_6 q_883 ?_
    refine J_ic_ge C 93 dX11_bring_9 rfl (fun _ => ?_) (fun _ => ?_)
    · refine J_aload_n C 0 dX11_bring_93 rfl ?_
      refine J_iload_n C 1 dX11_bring_94 rfl ?_
      refine pf_64_39 C dX11_bring_95 q_883 fun s_1 => ?_
      exact J_vret C dX11_bring_98 (by decide) (by decide)
    · refine J_aload_n C 0 dX11_bring_12 rfl ?_
      refine gf_64_42 C dX11_bring_13 q_886 ?_
      refine J_nmR fun r_2 => ?_
      refine J_iload_n C 2 dX11_bring_16 rfl ?_
      refine J_bind fun i_3 e_4 => ?_
      subst e_4
      refine J_g fun h_5 => ?_
      refine J_iald (t := 108) (N := 20) C (Nat.le_of_ble_eq_true rfl) rfl rfl h_5 dX11_bring_17 ?_
      refine J_aload_n C 0 dX11_bring_18 rfl ?_
      refine gf_64_13 C dX11_bring_19 q_857 ?_
      refine J_join (fun j87 => ∀ (s_6 : zS) (y_7 : Int), zJ zw 3 K (zQm zw eV 0 0 K) 0 0 87 [(0, .inr (64, some o0)), (1, .inl y_7), (2, .inl x2)] [] s_6 (j87 s_6 y_7)) ?_ fun j87 hj87 => ?_
      · intro s_6 y_7
        refine J_iinc C 2 dX11_bring_87 (zi9 rfl rfl) (Nat.le_of_ble_eq_true rfl) rfl fun x_8 => ?_
        refine J_goto C 4 dX11_bring_90 rfl ?_
        exact ih _ _ _
      · refine J_ic_ne C 48 dX11_bring_22 rfl (fun _ => ?_) (fun _ => ?_)
        · refine J_aload_n C 0 dX11_bring_48 rfl ?_
          refine gf_64_40 C dX11_bring_49 q_884 ?_
          refine J_nmR fun r_9 => ?_
          refine J_iload_n C 1 dX11_bring_52 rfl ?_
          refine J_aload_n C 0 dX11_bring_53 rfl ?_
          refine gf_64_40 C dX11_bring_54 q_884 ?_
          refine J_nmR fun r_10 => ?_
          refine J_iload_n C 2 dX11_bring_57 rfl ?_
          refine J_bind fun i_11 e_12 => ?_
          subst e_12
          refine J_g fun h_13 => ?_
          refine J_iald (t := 106) (N := 20) C (Nat.le_of_ble_eq_true rfl) rfl rfl h_13 dX11_bring_58 ?_
          refine J_bind fun i_14 e_15 => ?_
          subst e_15
          refine J_g fun h_16 => ?_
          refine J_iast (t := 106) (N := 20) C (Nat.le_of_ble_eq_true rfl) rfl rfl h_16 dX11_bring_59 fun s_17 => ?_
          refine J_aload_n C 0 dX11_bring_60 rfl ?_
          refine gf_64_41 C dX11_bring_61 q_885 ?_
          refine J_nmR fun r_18 => ?_
          refine J_iload_n C 1 dX11_bring_64 rfl ?_
          refine J_aload_n C 0 dX11_bring_65 rfl ?_
          refine gf_64_41 C dX11_bring_66 q_885 ?_
          refine J_nmR fun r_19 => ?_
          refine J_iload_n C 2 dX11_bring_69 rfl ?_
          refine J_bind fun i_20 e_21 => ?_
          subst e_21
          refine J_g fun h_22 => ?_
          refine J_iald (t := 107) (N := 20) C (Nat.le_of_ble_eq_true rfl) rfl rfl h_22 dX11_bring_70 ?_
          refine J_bind fun i_23 e_24 => ?_
          subst e_24
          refine J_g fun h_25 => ?_
          refine J_iast (t := 107) (N := 20) C (Nat.le_of_ble_eq_true rfl) rfl rfl h_25 dX11_bring_71 fun s_26 => ?_
          refine J_aload_n C 0 dX11_bring_72 rfl ?_
          refine gf_64_42 C dX11_bring_73 q_886 ?_
          refine J_nmR fun r_27 => ?_
          refine J_iload_n C 1 dX11_bring_76 rfl ?_
          refine J_aload_n C 0 dX11_bring_77 rfl ?_
          refine gf_64_42 C dX11_bring_78 q_886 ?_
          refine J_nmR fun r_28 => ?_
          refine J_iload_n C 2 dX11_bring_81 rfl ?_
          refine J_bind fun i_29 e_30 => ?_
          subst e_30
          refine J_g fun h_31 => ?_
          refine J_iald (t := 108) (N := 20) C (Nat.le_of_ble_eq_true rfl) rfl rfl h_31 dX11_bring_82 ?_
          refine J_bind fun i_32 e_33 => ?_
          subst e_33
          refine J_g fun h_34 => ?_
          refine J_iast (t := 108) (N := 20) C (Nat.le_of_ble_eq_true rfl) rfl rfl h_34 dX11_bring_83 fun s_35 => ?_
          refine J_iinc C 1 dX11_bring_84 (zi9 rfl rfl) (Nat.le_of_ble_eq_true rfl) rfl fun x_36 => ?_
          exact hj87 _ _
        · refine J_aload_n C 0 dX11_bring_25 rfl ?_
          refine gf_64_26 C dX11_bring_26 q_870 ?_
          refine J_nmR fun r_37 => ?_
          refine J_aload_n C 0 dX11_bring_29 rfl ?_
          refine gf_64_40 C dX11_bring_30 q_884 ?_
          refine J_nmR fun r_38 => ?_
          refine J_iload_n C 2 dX11_bring_33 rfl ?_
          refine J_bind fun i_39 e_40 => ?_
          subst e_40
          refine J_g fun h_41 => ?_
          refine J_iald (t := 106) (N := 20) C (Nat.le_of_ble_eq_true rfl) rfl rfl h_41 dX11_bring_34 ?_
          refine J_dup2 C dX11_bring_35 ?_
          refine J_bind fun i_42 e_43 => ?_
          subst e_43
          refine J_g fun h_44 => ?_
          refine J_iald (t := 92) (N := 6) C (Nat.le_of_ble_eq_true rfl) rfl rfl h_44 dX11_bring_36 ?_
          refine J_aload_n C 0 dX11_bring_37 rfl ?_
          refine gf_64_41 C dX11_bring_38 q_885 ?_
          refine J_nmR fun r_45 => ?_
          refine J_iload_n C 2 dX11_bring_41 rfl ?_
          refine J_bind fun i_46 e_47 => ?_
          subst e_47
          refine J_g fun h_48 => ?_
          refine J_iald (t := 107) (N := 20) C (Nat.le_of_ble_eq_true rfl) rfl rfl h_48 dX11_bring_42 ?_
          refine J_iadd C dX11_bring_43 ?_
          refine J_g fun h_49 => ?_
          refine J_iast (t := 92) (N := 6) C (Nat.le_of_ble_eq_true rfl) rfl rfl h_49 dX11_bring_44 fun s_50 => ?_
          refine J_goto C 87 dX11_bring_45 rfl ?_
          exact hj87 _ _
set_option maxHeartbeats 4000000 in
set_option maxRecDepth 20000 in
theorem kX11_bring (nf : Nat) (s0 : zS) (i0 : Nat) : zCt zw yX11_bring cX11_bring 3 none 0 0 0 0 eV [.inr (64, some i0)] s0 (fX11_bring nf s0 i0) := by
  refine zCt_on (own := RX11) (nm := "bring") rfl rfl (by decide) (Nat.le_of_ble_eq_true rfl) fun K C => ?_
  show zJ zw 3 K _ 0 0 0 [(0, .inr (64, some i0))] [] s0 (fX11_bring nf s0 i0)
  unfold fX11_bring
  refine J_iconst C dX11_bring_0 (zi9 rfl rfl) ?_
  refine J_istore_n (L' := [(0, .inr (64, some i0)), (1, .inl 0)]) C dX11_bring_1 (Nat.le_of_ble_eq_true rfl) rfl ?_
  refine J_iconst C dX11_bring_2 (zi9 rfl rfl) ?_
  refine J_istore_n (L' := [(0, .inr (64, some i0)), (1, .inl 0), (2, .inl 0)]) C dX11_bring_3 (Nat.le_of_ble_eq_true rfl) rfl ?_
  exact kX11_bring_L4 C _ _ _ _ _
def fX11_sentOf (s0 : zS) (i0 : Nat) (x1 : Int) : Option (Int × zS) :=
  nm_ (gR s0 64 i0 22) fun (r_1 : Option Nat) => Option.bind r_1 fun i_2 => g_ ((0 : Int) ≤ x1 ∧ (x1 : Int) < 24) (if gI s0 88 i_2 (Int.toNat (x1)) = 0 then (some (0, s0)) else (nm_ (gR s0 64 i0 24) fun (r_5 : Option Nat) => Option.bind r_5 fun i_6 => g_ ((0 : Int) ≤ x1 ∧ (x1 : Int) < 24) (some (gI s0 90 i_6 (Int.toNat (x1)), s0))))
set_option maxHeartbeats 4000000 in
set_option maxRecDepth 20000 in
theorem kX11_sentOf (s0 : zS) (i0 : Nat) (x1 : Int) : zCt zw yX11_sentOf cX11_sentOf 2 (some .int) 0 0 0 0 eI [.inr (64, some i0), .inl x1] s0 (fX11_sentOf s0 i0 x1) := by
  refine zCt_on (own := RX11) (nm := "sentOf") rfl rfl (by decide) (Nat.le_of_ble_eq_true rfl) fun K C => ?_
  show zJ zw 2 K _ 0 0 0 [(0, .inr (64, some i0)), (1, .inl x1)] [] s0 (fX11_sentOf s0 i0 x1)
  unfold fX11_sentOf
  refine J_aload_n C 0 dX11_sentOf_0 rfl ?_
  refine gf_64_22 C dX11_sentOf_1 q_866 ?_
  refine J_nmR fun r_1 => ?_
  refine J_iload_n C 1 dX11_sentOf_4 rfl ?_
  refine J_bind fun i_2 e_3 => ?_
  subst e_3
  refine J_g fun h_4 => ?_
  refine J_iald (t := 88) (N := 24) C (Nat.le_of_ble_eq_true rfl) rfl rfl h_4 dX11_sentOf_5 ?_
  refine J_if_ne C 13 dX11_sentOf_6 rfl (fun _ => ?_) (fun _ => ?_)
  · refine J_aload_n C 0 dX11_sentOf_13 rfl ?_
    refine gf_64_24 C dX11_sentOf_14 q_868 ?_
    refine J_nmR fun r_5 => ?_
    refine J_iload_n C 1 dX11_sentOf_17 rfl ?_
    refine J_bind fun i_6 e_7 => ?_
    subst e_7
    refine J_g fun h_8 => ?_
    refine J_iald (t := 90) (N := 24) C (Nat.le_of_ble_eq_true rfl) rfl rfl h_8 dX11_sentOf_18 ?_
    exact J_iret C dX11_sentOf_19 (by decide) (by decide)
  · refine J_iconst C dX11_sentOf_9 (zi9 rfl rfl) ?_
    refine J_goto C 19 dX11_sentOf_10 rfl ?_
    exact J_iret C dX11_sentOf_19 (by decide) (by decide)
def fX11_isAhead (s0 : zS) (i0 : Nat) (x1 : Int) (x2 : Int) (x3 : Int) : Option (Int × zS) :=
  nm_ (fun (s_1 : zS) (u_2 : Int) => nm_ (fun (s_3 : zS) (y_4 : Int) => if y_4 < 0 then (some (1, s_3)) else (if y_4 = 0 then (if x1 < x2 then (some (1, s_3)) else (some (0, s_3))) else (some (0, s_3)))) fun (j79 : zS → Int → Option (Int × zS)) => if u_2 = 0 then (if x3 = 2 then (nm_ (gR s_1 64 i0 18) fun (r_5 : Option Nat) => Option.bind r_5 fun i_6 => g_ ((0 : Int) ≤ x1 ∧ (x1 : Int) < 24) (nm_ (gR s_1 64 i0 18) fun (r_9 : Option Nat) => Option.bind r_9 fun i_10 => g_ ((0 : Int) ≤ x2 ∧ (x2 : Int) < 24) (nm_ (wr ((gI s_1 84 i_6 (Int.toNat (x1))) - (gI s_1 84 i_10 (Int.toNat (x2))))) fun (x_13 : Int) => j79 s_1 x_13))) else (j79 s_1 u_2)) else (j79 s_1 u_2)) fun (j52 : zS → Int → Option (Int × zS)) => if x3 = 0 then (nm_ (gR s0 64 i0 18) fun (r_26 : Option Nat) => Option.bind r_26 fun i_27 => g_ ((0 : Int) ≤ x1 ∧ (x1 : Int) < 24) (nm_ (gR s0 64 i0 18) fun (r_30 : Option Nat) => Option.bind r_30 fun i_31 => g_ ((0 : Int) ≤ x2 ∧ (x2 : Int) < 24) (j52 s0 (wr ((gI s0 84 i_27 (Int.toNat (x1))) - (gI s0 84 i_31 (Int.toNat (x2)))))))) else (if x3 = 1 then (cl_ (fX11_sentOf s0 i0 x1) fun (x_23 : Int) (s_22 : zS) => cl_ (fX11_sentOf s_22 i0 x2) fun (x_25 : Int) (s_24 : zS) => j52 s_24 (wr (x_23 - x_25))) else (nm_ (gR s0 64 i0 15) fun (r_14 : Option Nat) => Option.bind r_14 fun i_15 => g_ ((0 : Int) ≤ x1 ∧ (x1 : Int) < 24) (nm_ (gR s0 64 i0 15) fun (r_18 : Option Nat) => Option.bind r_18 fun i_19 => g_ ((0 : Int) ≤ x2 ∧ (x2 : Int) < 24) (j52 s0 (wr ((gI s0 81 i_15 (Int.toNat (x1))) - (gI s0 81 i_19 (Int.toNat (x2)))))))))
set_option maxHeartbeats 4000000 in
set_option maxRecDepth 20000 in
theorem kX11_isAhead (s0 : zS) (i0 : Nat) (x1 : Int) (x2 : Int) (x3 : Int) : zCt zw yX11_isAhead cX11_isAhead 5 (some .boolean) 1 21 0 0 eI [.inr (64, some i0), .inl x1, .inl x2, .inl x3] s0 (fX11_isAhead s0 i0 x1 x2 x3) := by
  refine zCt_on (own := RX11) (nm := "isAhead") rfl rfl (by decide) (Nat.le_of_ble_eq_true rfl) fun K C => ?_
  show zJ zw 5 K _ 0 0 0 [(0, .inr (64, some i0)), (1, .inl x1), (2, .inl x2), (3, .inl x3)] [] s0 (fX11_isAhead s0 i0 x1 x2 x3)
  unfold fX11_isAhead
  refine J_iload_n C 3 dX11_isAhead_0 rfl ?_
  refine J_join (fun j52 => ∀ (s_1 : zS) (u_2 : Int), zJ zw 5 K (zQm zw eI 0 0 K) 0 0 52 [(0, .inr (64, some i0)), (1, .inl x1), (2, .inl x2), (3, .inl x3)] [.inl u_2] s_1 (j52 s_1 u_2)) ?_ fun j52 hj52 => ?_
  · intro s_1 u_2
    refine J_istore (L' := [(0, .inr (64, some i0)), (1, .inl x1), (2, .inl x2), (3, .inl x3), (4, .inl u_2)]) C dX11_isAhead_52 (Nat.le_of_ble_eq_true rfl) rfl ?_
    refine J_iload C 4 dX11_isAhead_54 rfl ?_
    refine J_join (fun j79 => ∀ (s_3 : zS) (y_4 : Int), zJ zw 5 K (zQm zw eI 0 0 K) 0 0 79 [(1, .inl x1), (2, .inl x2), (4, .inl y_4)] [] s_3 (j79 s_3 y_4)) ?_ fun j79 hj79 => ?_
    · intro s_3 y_4
      refine J_iload C 2 dX11_isAhead_79 rfl ?_
      refine J_if_lt C 94 dX11_isAhead_81 rfl (fun _ => ?_) (fun _ => ?_)
      · refine J_iconst C dX11_isAhead_94 (zi9 rfl rfl) ?_
        refine J_goto C 99 dX11_isAhead_95 rfl ?_
        exact J_zret C (by decide) dX11_isAhead_99 (by decide) (by decide)
      · refine J_iload C 2 dX11_isAhead_84 rfl ?_
        refine J_if_ne C 98 dX11_isAhead_86 rfl (fun _ => ?_) (fun _ => ?_)
        · refine J_iconst C dX11_isAhead_98 (zi9 rfl rfl) ?_
          exact J_zret C (by decide) dX11_isAhead_99 (by decide) (by decide)
        · refine J_iload_n C 0 dX11_isAhead_89 rfl ?_
          refine J_iload_n C 1 dX11_isAhead_90 rfl ?_
          refine J_ic_ge C 98 dX11_isAhead_91 rfl (fun _ => ?_) (fun _ => ?_)
          · refine J_iconst C dX11_isAhead_98 (zi9 rfl rfl) ?_
            exact J_zret C (by decide) dX11_isAhead_99 (by decide) (by decide)
          · refine J_iconst C dX11_isAhead_94 (zi9 rfl rfl) ?_
            refine J_goto C 99 dX11_isAhead_95 rfl ?_
            exact J_zret C (by decide) dX11_isAhead_99 (by decide) (by decide)
    · refine J_if_ne C 79 dX11_isAhead_56 rfl (fun _ => ?_) (fun _ => ?_)
      · refine J_loc (L' := [(1, .inl x1), (2, .inl x2), (4, .inl u_2)]) [1, 2, 4] rfl ?_
        exact hj79 _ _
      · refine J_iload_n C 3 dX11_isAhead_59 rfl ?_
        refine J_iconst C dX11_isAhead_60 (zi9 rfl rfl) ?_
        refine J_ic_ne C 79 dX11_isAhead_61 rfl (fun _ => ?_) (fun _ => ?_)
        · refine J_loc (L' := [(1, .inl x1), (2, .inl x2), (4, .inl u_2)]) [1, 2, 4] rfl ?_
          exact hj79 _ _
        · refine J_aload_n C 0 dX11_isAhead_64 rfl ?_
          refine gf_64_18 C dX11_isAhead_65 q_862 ?_
          refine J_nmR fun r_5 => ?_
          refine J_iload_n C 1 dX11_isAhead_68 rfl ?_
          refine J_bind fun i_6 e_7 => ?_
          subst e_7
          refine J_g fun h_8 => ?_
          refine J_iald (t := 84) (N := 24) C (Nat.le_of_ble_eq_true rfl) rfl rfl h_8 dX11_isAhead_69 ?_
          refine J_aload_n C 0 dX11_isAhead_70 rfl ?_
          refine gf_64_18 C dX11_isAhead_71 q_862 ?_
          refine J_nmR fun r_9 => ?_
          refine J_iload_n C 2 dX11_isAhead_74 rfl ?_
          refine J_bind fun i_10 e_11 => ?_
          subst e_11
          refine J_g fun h_12 => ?_
          refine J_iald (t := 84) (N := 24) C (Nat.le_of_ble_eq_true rfl) rfl rfl h_12 dX11_isAhead_75 ?_
          refine J_isub C dX11_isAhead_76 ?_
          refine J_nm fun x_13 => ?_
          refine J_istore (L' := [(0, .inr (64, some i0)), (1, .inl x1), (2, .inl x2), (3, .inl x3), (4, .inl x_13)]) C dX11_isAhead_77 (Nat.le_of_ble_eq_true rfl) rfl ?_
          refine J_loc (L' := [(1, .inl x1), (2, .inl x2), (4, .inl x_13)]) [1, 2, 4] rfl ?_
          exact hj79 _ _
  · refine J_if_ne C 20 dX11_isAhead_1 rfl (fun _ => ?_) (fun _ => ?_)
    · refine J_iload_n C 3 dX11_isAhead_20 rfl ?_
      refine J_iconst C dX11_isAhead_21 (zi9 rfl rfl) ?_
      refine J_ic_ne C 39 dX11_isAhead_22 rfl (fun _ => ?_) (fun _ => ?_)
      · refine J_aload_n C 0 dX11_isAhead_39 rfl ?_
        refine gf_64_15 C dX11_isAhead_40 q_859 ?_
        refine J_nmR fun r_14 => ?_
        refine J_iload_n C 1 dX11_isAhead_43 rfl ?_
        refine J_bind fun i_15 e_16 => ?_
        subst e_16
        refine J_g fun h_17 => ?_
        refine J_iald (t := 81) (N := 24) C (Nat.le_of_ble_eq_true rfl) rfl rfl h_17 dX11_isAhead_44 ?_
        refine J_aload_n C 0 dX11_isAhead_45 rfl ?_
        refine gf_64_15 C dX11_isAhead_46 q_859 ?_
        refine J_nmR fun r_18 => ?_
        refine J_iload_n C 2 dX11_isAhead_49 rfl ?_
        refine J_bind fun i_19 e_20 => ?_
        subst e_20
        refine J_g fun h_21 => ?_
        refine J_iald (t := 81) (N := 24) C (Nat.le_of_ble_eq_true rfl) rfl rfl h_21 dX11_isAhead_50 ?_
        refine J_isub C dX11_isAhead_51 ?_
        exact hj52 _ _
      · refine J_aload_n C 0 dX11_isAhead_25 rfl ?_
        refine J_iload_n C 1 dX11_isAhead_26 rfl ?_
        refine J_callVI (S := []) (avs := [.inl x1]) C zx64 yw_107 rfl (kX11_sentOf _ _ _) dX11_isAhead_27 rfl (Nat.le_of_ble_eq_true rfl) (by decide) fun x_23 s_22 => ?_
        refine J_aload_n C 0 dX11_isAhead_30 rfl ?_
        refine J_iload_n C 2 dX11_isAhead_31 rfl ?_
        refine J_callVI (S := [.inl x_23]) (avs := [.inl x2]) C zx64 yw_107 rfl (kX11_sentOf _ _ _) dX11_isAhead_32 rfl (Nat.le_of_ble_eq_true rfl) (by decide) fun x_25 s_24 => ?_
        refine J_isub C dX11_isAhead_35 ?_
        refine J_goto C 52 dX11_isAhead_36 rfl ?_
        exact hj52 _ _
    · refine J_aload_n C 0 dX11_isAhead_4 rfl ?_
      refine gf_64_18 C dX11_isAhead_5 q_862 ?_
      refine J_nmR fun r_26 => ?_
      refine J_iload_n C 1 dX11_isAhead_8 rfl ?_
      refine J_bind fun i_27 e_28 => ?_
      subst e_28
      refine J_g fun h_29 => ?_
      refine J_iald (t := 84) (N := 24) C (Nat.le_of_ble_eq_true rfl) rfl rfl h_29 dX11_isAhead_9 ?_
      refine J_aload_n C 0 dX11_isAhead_10 rfl ?_
      refine gf_64_18 C dX11_isAhead_11 q_862 ?_
      refine J_nmR fun r_30 => ?_
      refine J_iload_n C 2 dX11_isAhead_14 rfl ?_
      refine J_bind fun i_31 e_32 => ?_
      subst e_32
      refine J_g fun h_33 => ?_
      refine J_iald (t := 84) (N := 24) C (Nat.le_of_ble_eq_true rfl) rfl rfl h_33 dX11_isAhead_15 ?_
      refine J_isub C dX11_isAhead_16 ?_
      refine J_goto C 52 dX11_isAhead_17 rfl ?_
      exact hj52 _ _
def fX11_layRow_L30 (k71 : zS → Int → Option (Unit × zS)) (o0 : Nat) (c1 : Int) (c2 : Int) (nf : Nat) : Nat → zS → Int → Option (Unit × zS)
  | 0, _, _ => none
  | n + 1, s0, x3 =>
    if 0 < x3 then (nm_ (gR s0 64 o0 51) fun (r_9 : Option Nat) => Option.bind r_9 fun i_10 => g_ ((0 : Int) ≤ wr (x3 - 1) ∧ (wr (x3 - 1) : Int) < 24) (cl_ (fX11_isAhead s0 o0 c2 (gI s0 117 i_10 (Int.toNat (wr (x3 - 1)))) c1) fun (x_14 : Int) (s_13 : zS) => if x_14 = 0 then (k71 s_13 x3) else (nm_ (gR s_13 64 o0 51) fun (r_15 : Option Nat) => nm_ (gR s_13 64 o0 51) fun (r_16 : Option Nat) => Option.bind r_16 fun i_17 => g_ ((0 : Int) ≤ wr (x3 - 1) ∧ (wr (x3 - 1) : Int) < 24) (Option.bind r_15 fun i_20 => g_ ((0 : Int) ≤ x3 ∧ (x3 : Int) < 24) (up_ (sI s_13 117 i_20 (Int.toNat (x3)) (gI s_13 117 i_17 (Int.toNat (wr (x3 - 1))))) fun (s_23 : zS) => nm_ (wr (x3 + (-1))) fun (x_24 : Int) => fX11_layRow_L30 k71 o0 c1 c2 nf n s_23 x_24))))) else (k71 s0 x3)
def fX11_layRow_L7 (o0 : Nat) (c1 : Int) (nf : Nat) : Nat → zS → Int → Option (Unit × zS)
  | 0, _, _ => none
  | n + 1, s0, x2 =>
    if x2 < gI s0 64 o0 14 then (nm_ (gR s0 64 o0 16) fun (r_2 : Option Nat) => Option.bind r_2 fun i_3 => g_ ((0 : Int) ≤ x2 ∧ (x2 : Int) < 24) (nm_ (fun (s_6 : zS) => nm_ (wr (x2 + 1)) fun (x_7 : Int) => fX11_layRow_L7 o0 c1 nf n s_6 x_7) fun (j88 : zS → Option (Unit × zS)) => if gI s0 82 i_3 (Int.toNat (x2)) = 3 then (nm_ (gI s0 64 o0 52) fun (x_8 : Int) => fX11_layRow_L30 (fun (s_10 : zS) (y_9 : Int) => nm_ (gR s_10 64 o0 51) fun (r_11 : Option Nat) => Option.bind r_11 fun i_12 => g_ ((0 : Int) ≤ y_9 ∧ (y_9 : Int) < 24) (up_ (sI s_10 117 i_12 (Int.toNat (y_9)) x2) fun (s_15 : zS) => up_ (sI s_15 64 o0 52 (wr ((gI s_15 64 o0 52) + 1))) fun (s_16 : zS) => j88 s_16)) o0 c1 x2 nf nf s0 x_8) else (j88 s0))) else (some ((), s0))
def fX11_layRow (nf : Nat) (s0 : zS) (i0 : Nat) (x1 : Int) : Option (Unit × zS) :=
  up_ (sI s0 64 i0 52 0) fun (s_1 : zS) => fX11_layRow_L7 i0 x1 nf nf s_1 0
set_option maxHeartbeats 4000000 in
set_option maxRecDepth 20000 in
theorem kX11_layRow_L30 {K : zKx} (C : zC zw 4 K RX11 cX11_layRow "layRow" none 2 45 0 0)  (nf : Nat) (o0 : Nat) (c1 : Int) (c2 : Int) (k71 : zS → Int → Option (Unit × zS)) (hk71 : ∀ (s1 : zS) (z3 : Int), zJ zw 4 K (zQm zw eV 0 0 K) 0 0 71 [(0, .inr (64, some o0)), (1, .inl c1), (2, .inl c2), (3, .inl z3)] [] s1 (k71 s1 z3)) : ∀ (n : Nat) (s0 : zS) (x3 : Int), zJ zw 4 K (zQm zw eV 0 0 K) 0 0 30 [(0, .inr (64, some o0)), (1, .inl c1), (2, .inl c2), (3, .inl x3)] [] s0 (fX11_layRow_L30 k71 o0 c1 c2 nf n s0 x3) := by
  intro n
  induction n with
  | zero => intro s0 x3; exact J_none
  | succ n ih =>
    intro s0 x3
    rw [fX11_layRow_L30]
    refine J_iload_n C 3 dX11_layRow_30 rfl ?_
    refine J_if_le C 71 dX11_layRow_31 rfl (fun _ => ?_) (fun _ => ?_)
    · exact hk71 _ _
    · refine J_aload_n C 0 dX11_layRow_34 rfl ?_
      refine J_iload_n C 2 dX11_layRow_35 rfl ?_
      refine J_aload_n C 0 dX11_layRow_36 rfl ?_
      refine gf_64_51 C dX11_layRow_37 q_895 ?_
      refine J_nmR fun r_9 => ?_
      refine J_iload_n C 3 dX11_layRow_40 rfl ?_
      refine J_iconst C dX11_layRow_41 (zi9 rfl rfl) ?_
      refine J_isub C dX11_layRow_42 ?_
      refine J_bind fun i_10 e_11 => ?_
      subst e_11
      refine J_g fun h_12 => ?_
      refine J_iald (t := 117) (N := 24) C (Nat.le_of_ble_eq_true rfl) rfl rfl h_12 dX11_layRow_43 ?_
      refine J_iload_n C 1 dX11_layRow_44 rfl ?_
      refine J_callVI (S := []) (avs := [.inl c2, .inl (gI s0 117 i_10 (Int.toNat (wr (x3 - 1)))), .inl c1]) C zx64 yw_108 rfl (kX11_isAhead _ _ _ _ _) dX11_layRow_45 rfl (Nat.le_of_ble_eq_true rfl) (by decide) fun x_14 s_13 => ?_
      refine J_if_eq C 71 dX11_layRow_48 rfl (fun _ => ?_) (fun _ => ?_)
      · exact hk71 _ _
      · refine J_aload_n C 0 dX11_layRow_51 rfl ?_
        refine gf_64_51 C dX11_layRow_52 q_895 ?_
        refine J_nmR fun r_15 => ?_
        refine J_iload_n C 3 dX11_layRow_55 rfl ?_
        refine J_aload_n C 0 dX11_layRow_56 rfl ?_
        refine gf_64_51 C dX11_layRow_57 q_895 ?_
        refine J_nmR fun r_16 => ?_
        refine J_iload_n C 3 dX11_layRow_60 rfl ?_
        refine J_iconst C dX11_layRow_61 (zi9 rfl rfl) ?_
        refine J_isub C dX11_layRow_62 ?_
        refine J_bind fun i_17 e_18 => ?_
        subst e_18
        refine J_g fun h_19 => ?_
        refine J_iald (t := 117) (N := 24) C (Nat.le_of_ble_eq_true rfl) rfl rfl h_19 dX11_layRow_63 ?_
        refine J_bind fun i_20 e_21 => ?_
        subst e_21
        refine J_g fun h_22 => ?_
        refine J_iast (t := 117) (N := 24) C (Nat.le_of_ble_eq_true rfl) rfl rfl h_22 dX11_layRow_64 fun s_23 => ?_
        refine J_iinc C 3 dX11_layRow_65 (zi9 rfl rfl) (Nat.le_of_ble_eq_true rfl) rfl fun x_24 => ?_
        refine J_goto C 30 dX11_layRow_68 rfl ?_
        exact ih _ _
set_option maxHeartbeats 4000000 in
set_option maxRecDepth 20000 in
theorem kX11_layRow_L7 {K : zKx} (C : zC zw 4 K RX11 cX11_layRow "layRow" none 2 45 0 0)  (nf : Nat) (o0 : Nat) (c1 : Int) : ∀ (n : Nat) (s0 : zS) (x2 : Int), zJ zw 4 K (zQm zw eV 0 0 K) 0 0 7 [(0, .inr (64, some o0)), (1, .inl c1), (2, .inl x2)] [] s0 (fX11_layRow_L7 o0 c1 nf n s0 x2) := by
  intro n
  induction n with
  | zero => intro s0 x2; exact J_none
  | succ n ih =>
    intro s0 x2
    rw [fX11_layRow_L7]
    refine J_iload_n C 2 dX11_layRow_7 rfl ?_
    refine J_aload_n C 0 dX11_layRow_8 rfl ?_
    refine gf_64_14 C dX11_layRow_9 q_858 ?_
    refine J_ic_ge C 94 dX11_layRow_12 rfl (fun _ => ?_) (fun _ => ?_)
    · exact J_vret C dX11_layRow_94 (by decide) (by decide)
    · refine J_aload_n C 0 dX11_layRow_15 rfl ?_
      refine gf_64_16 C dX11_layRow_16 q_860 ?_
      refine J_nmR fun r_2 => ?_
      refine J_iload_n C 2 dX11_layRow_19 rfl ?_
      refine J_bind fun i_3 e_4 => ?_
      subst e_4
      refine J_g fun h_5 => ?_
      refine J_iald (t := 82) (N := 24) C (Nat.le_of_ble_eq_true rfl) rfl rfl h_5 dX11_layRow_20 ?_
      refine J_iconst C dX11_layRow_21 (zi9 rfl rfl) ?_
      refine J_join (fun j88 => ∀ (s_6 : zS), zJ zw 4 K (zQm zw eV 0 0 K) 0 0 88 [(0, .inr (64, some o0)), (1, .inl c1), (2, .inl x2)] [] s_6 (j88 s_6)) ?_ fun j88 hj88 => ?_
      · intro s_6
        refine J_iinc C 2 dX11_layRow_88 (zi9 rfl rfl) (Nat.le_of_ble_eq_true rfl) rfl fun x_7 => ?_
        refine J_goto C 7 dX11_layRow_91 rfl ?_
        exact ih _ _
      · refine J_ic_ne C 88 dX11_layRow_22 rfl (fun _ => ?_) (fun _ => ?_)
        · exact hj88 _
        · refine J_aload_n C 0 dX11_layRow_25 rfl ?_
          refine gf_64_52 C dX11_layRow_26 q_896 ?_
          refine J_nm fun x_8 => ?_
          refine J_istore_n (L' := [(0, .inr (64, some o0)), (1, .inl c1), (2, .inl x2), (3, .inl x_8)]) C dX11_layRow_29 (Nat.le_of_ble_eq_true rfl) rfl ?_
          refine kX11_layRow_L30 C _ _ _ _ _ ?_ _ _ _
          intro s_10 y_9
          refine J_aload_n C 0 dX11_layRow_71 rfl ?_
          refine gf_64_51 C dX11_layRow_72 q_895 ?_
          refine J_nmR fun r_11 => ?_
          refine J_iload_n C 3 dX11_layRow_75 rfl ?_
          refine J_iload_n C 2 dX11_layRow_76 rfl ?_
          refine J_bind fun i_12 e_13 => ?_
          subst e_13
          refine J_g fun h_14 => ?_
          refine J_iast (t := 117) (N := 24) C (Nat.le_of_ble_eq_true rfl) rfl rfl h_14 dX11_layRow_77 fun s_15 => ?_
          refine J_aload_n C 0 dX11_layRow_78 rfl ?_
          refine J_dup C dX11_layRow_79 ?_
          refine gf_64_52 C dX11_layRow_80 q_896 ?_
          refine J_iconst C dX11_layRow_83 (zi9 rfl rfl) ?_
          refine J_iadd C dX11_layRow_84 ?_
          refine pf_64_52 C dX11_layRow_85 q_896 fun s_16 => ?_
          refine J_loc (L' := [(0, .inr (64, some o0)), (1, .inl c1), (2, .inl x2)]) [0, 1, 2] rfl ?_
          exact hj88 _
set_option maxHeartbeats 4000000 in
set_option maxRecDepth 20000 in
theorem kX11_layRow (nf : Nat) (s0 : zS) (i0 : Nat) (x1 : Int) : zCt zw yX11_layRow cX11_layRow 4 none 2 45 0 0 eV [.inr (64, some i0), .inl x1] s0 (fX11_layRow nf s0 i0 x1) := by
  refine zCt_on (own := RX11) (nm := "layRow") rfl rfl (by decide) (Nat.le_of_ble_eq_true rfl) fun K C => ?_
  show zJ zw 4 K _ 0 0 0 [(0, .inr (64, some i0)), (1, .inl x1)] [] s0 (fX11_layRow nf s0 i0 x1)
  unfold fX11_layRow
  refine J_aload_n C 0 dX11_layRow_0 rfl ?_
  refine J_iconst C dX11_layRow_1 (zi9 rfl rfl) ?_
  refine pf_64_52 C dX11_layRow_2 q_896 fun s_1 => ?_
  refine J_iconst C dX11_layRow_5 (zi9 rfl rfl) ?_
  refine J_istore_n (L' := [(0, .inr (64, some i0)), (1, .inl x1), (2, .inl 0)]) C dX11_layRow_6 (Nat.le_of_ble_eq_true rfl) rfl ?_
  exact kX11_layRow_L7 C _ _ _ _ _ _
def fX11_takeOn_L2 (o0 : Nat) (nf : Nat) : Nat → zS → Int → Option (Unit × zS)
  | 0, _, _ => none
  | n + 1, s0, x1 =>
    if x1 < gI s0 64 o0 34 then (nm_ (gR s0 64 o0 36) fun (r_1 : Option Nat) => Option.bind r_1 fun i_2 => g_ ((0 : Int) ≤ x1 ∧ (x1 : Int) < 4) (nm_ (fun (s_5 : zS) => nm_ (wr (x1 + 1)) fun (x_6 : Int) => fX11_takeOn_L2 o0 nf n s_5 x_6) fun (j72 : zS → Option (Unit × zS)) => if gI s0 102 i_2 (Int.toNat (x1)) = (-9) then (cl_ (fX11_layRow nf s0 o0 (gI s0 64 o0 38)) fun (_ : Unit) (s_7 : zS) => if 0 < gI s_7 64 o0 52 then (nm_ (gR s_7 64 o0 36) fun (r_8 : Option Nat) => nm_ (gR s_7 64 o0 51) fun (r_9 : Option Nat) => Option.bind r_9 fun i_10 => g_ ((0 : Int) ≤ 0 ∧ (0 : Int) < 24) (Option.bind r_8 fun i_13 => g_ ((0 : Int) ≤ x1 ∧ (x1 : Int) < 4) (up_ (sI s_7 102 i_13 (Int.toNat (x1)) (gI s_7 117 i_10 (Int.toNat (0)))) fun (s_16 : zS) => nm_ (gR s_16 64 o0 37) fun (r_17 : Option Nat) => nm_ (gR s_16 64 o0 35) fun (r_18 : Option Nat) => Option.bind r_18 fun i_19 => g_ ((0 : Int) ≤ x1 ∧ (x1 : Int) < 4) (Option.bind r_17 fun i_22 => g_ ((0 : Int) ≤ x1 ∧ (x1 : Int) < 4) (up_ (sI s_16 103 i_22 (Int.toNat (x1)) (gI s_16 101 i_19 (Int.toNat (x1)))) fun (s_25 : zS) => nm_ (gR s_25 64 o0 16) fun (r_26 : Option Nat) => nm_ (gR s_25 64 o0 51) fun (r_27 : Option Nat) => Option.bind r_27 fun i_28 => g_ ((0 : Int) ≤ 0 ∧ (0 : Int) < 24) (Option.bind r_26 fun i_31 => g_ ((0 : Int) ≤ gI s_25 117 i_28 (Int.toNat (0)) ∧ (gI s_25 117 i_28 (Int.toNat (0)) : Int) < 24) (up_ (sI s_25 82 i_31 (Int.toNat (gI s_25 117 i_28 (Int.toNat (0)))) 4) fun (s_34 : zS) => j72 s_34))))))) else (j72 s_7)) else (j72 s0))) else (some ((), s0))
def fX11_takeOn (nf : Nat) (s0 : zS) (i0 : Nat) : Option (Unit × zS) :=
  fX11_takeOn_L2 i0 nf nf s0 0
set_option maxHeartbeats 4000000 in
set_option maxRecDepth 20000 in
theorem kX11_takeOn_L2 {K : zKx} (C : zC zw 2 K RX11 cX11_takeOn "takeOn" none 3 68 0 0)  (nf : Nat) (o0 : Nat) : ∀ (n : Nat) (s0 : zS) (x1 : Int), zJ zw 2 K (zQm zw eV 0 0 K) 0 0 2 [(0, .inr (64, some o0)), (1, .inl x1)] [] s0 (fX11_takeOn_L2 o0 nf n s0 x1) := by
  intro n
  induction n with
  | zero => intro s0 x1; exact J_none
  | succ n ih =>
    intro s0 x1
    rw [fX11_takeOn_L2]
    refine J_iload_n C 1 dX11_takeOn_2 rfl ?_
    refine J_aload_n C 0 dX11_takeOn_3 rfl ?_
    refine gf_64_34 C dX11_takeOn_4 q_878 ?_
    refine J_ic_ge C 78 dX11_takeOn_7 rfl (fun _ => ?_) (fun _ => ?_)
    · exact J_vret C dX11_takeOn_78 (by decide) (by decide)
    · refine J_aload_n C 0 dX11_takeOn_10 rfl ?_
      refine gf_64_36 C dX11_takeOn_11 q_880 ?_
      refine J_nmR fun r_1 => ?_
      refine J_iload_n C 1 dX11_takeOn_14 rfl ?_
      refine J_bind fun i_2 e_3 => ?_
      subst e_3
      refine J_g fun h_4 => ?_
      refine J_iald (t := 102) (N := 4) C (Nat.le_of_ble_eq_true rfl) rfl rfl h_4 dX11_takeOn_15 ?_
      refine J_bipush C dX11_takeOn_16 (zi9 rfl rfl) (by decide) ?_
      refine J_join (fun j72 => ∀ (s_5 : zS), zJ zw 2 K (zQm zw eV 0 0 K) 0 0 72 [(0, .inr (64, some o0)), (1, .inl x1)] [] s_5 (j72 s_5)) ?_ fun j72 hj72 => ?_
      · intro s_5
        refine J_iinc C 1 dX11_takeOn_72 (zi9 rfl rfl) (Nat.le_of_ble_eq_true rfl) rfl fun x_6 => ?_
        refine J_goto C 2 dX11_takeOn_75 rfl ?_
        exact ih _ _
      · refine J_ic_ne C 72 dX11_takeOn_18 rfl (fun _ => ?_) (fun _ => ?_)
        · exact hj72 _
        · refine J_aload_n C 0 dX11_takeOn_21 rfl ?_
          refine J_aload_n C 0 dX11_takeOn_22 rfl ?_
          refine gf_64_38 C dX11_takeOn_23 q_882 ?_
          refine J_callVV (S := []) (avs := [.inl (gI s0 64 o0 38)]) C zx64 yw_109 rfl (kX11_layRow _ _ _ _) dX11_takeOn_26 rfl (Nat.le_of_ble_eq_true rfl) (by decide) fun _ s_7 => ?_
          refine J_aload_n C 0 dX11_takeOn_29 rfl ?_
          refine gf_64_52 C dX11_takeOn_30 q_896 ?_
          refine J_if_le C 72 dX11_takeOn_33 rfl (fun _ => ?_) (fun _ => ?_)
          · exact hj72 _
          · refine J_aload_n C 0 dX11_takeOn_36 rfl ?_
            refine gf_64_36 C dX11_takeOn_37 q_880 ?_
            refine J_nmR fun r_8 => ?_
            refine J_iload_n C 1 dX11_takeOn_40 rfl ?_
            refine J_aload_n C 0 dX11_takeOn_41 rfl ?_
            refine gf_64_51 C dX11_takeOn_42 q_895 ?_
            refine J_nmR fun r_9 => ?_
            refine J_iconst C dX11_takeOn_45 (zi9 rfl rfl) ?_
            refine J_bind fun i_10 e_11 => ?_
            subst e_11
            refine J_g fun h_12 => ?_
            refine J_iald (t := 117) (N := 24) C (Nat.le_of_ble_eq_true rfl) rfl rfl h_12 dX11_takeOn_46 ?_
            refine J_bind fun i_13 e_14 => ?_
            subst e_14
            refine J_g fun h_15 => ?_
            refine J_iast (t := 102) (N := 4) C (Nat.le_of_ble_eq_true rfl) rfl rfl h_15 dX11_takeOn_47 fun s_16 => ?_
            refine J_aload_n C 0 dX11_takeOn_48 rfl ?_
            refine gf_64_37 C dX11_takeOn_49 q_881 ?_
            refine J_nmR fun r_17 => ?_
            refine J_iload_n C 1 dX11_takeOn_52 rfl ?_
            refine J_aload_n C 0 dX11_takeOn_53 rfl ?_
            refine gf_64_35 C dX11_takeOn_54 q_879 ?_
            refine J_nmR fun r_18 => ?_
            refine J_iload_n C 1 dX11_takeOn_57 rfl ?_
            refine J_bind fun i_19 e_20 => ?_
            subst e_20
            refine J_g fun h_21 => ?_
            refine J_iald (t := 101) (N := 4) C (Nat.le_of_ble_eq_true rfl) rfl rfl h_21 dX11_takeOn_58 ?_
            refine J_bind fun i_22 e_23 => ?_
            subst e_23
            refine J_g fun h_24 => ?_
            refine J_iast (t := 103) (N := 4) C (Nat.le_of_ble_eq_true rfl) rfl rfl h_24 dX11_takeOn_59 fun s_25 => ?_
            refine J_aload_n C 0 dX11_takeOn_60 rfl ?_
            refine gf_64_16 C dX11_takeOn_61 q_860 ?_
            refine J_nmR fun r_26 => ?_
            refine J_aload_n C 0 dX11_takeOn_64 rfl ?_
            refine gf_64_51 C dX11_takeOn_65 q_895 ?_
            refine J_nmR fun r_27 => ?_
            refine J_iconst C dX11_takeOn_68 (zi9 rfl rfl) ?_
            refine J_bind fun i_28 e_29 => ?_
            subst e_29
            refine J_g fun h_30 => ?_
            refine J_iald (t := 117) (N := 24) C (Nat.le_of_ble_eq_true rfl) rfl rfl h_30 dX11_takeOn_69 ?_
            refine J_iconst C dX11_takeOn_70 (zi9 rfl rfl) ?_
            refine J_bind fun i_31 e_32 => ?_
            subst e_32
            refine J_g fun h_33 => ?_
            refine J_iast (t := 82) (N := 24) C (Nat.le_of_ble_eq_true rfl) rfl rfl h_33 dX11_takeOn_71 fun s_34 => ?_
            exact hj72 _
set_option maxHeartbeats 4000000 in
set_option maxRecDepth 20000 in
theorem kX11_takeOn (nf : Nat) (s0 : zS) (i0 : Nat) : zCt zw yX11_takeOn cX11_takeOn 2 none 3 68 0 0 eV [.inr (64, some i0)] s0 (fX11_takeOn nf s0 i0) := by
  refine zCt_on (own := RX11) (nm := "takeOn") rfl rfl (by decide) (Nat.le_of_ble_eq_true rfl) fun K C => ?_
  show zJ zw 2 K _ 0 0 0 [(0, .inr (64, some i0))] [] s0 (fX11_takeOn nf s0 i0)
  unfold fX11_takeOn
  refine J_iconst C dX11_takeOn_0 (zi9 rfl rfl) ?_
  refine J_istore_n (L' := [(0, .inr (64, some i0)), (1, .inl 0)]) C dX11_takeOn_1 (Nat.le_of_ble_eq_true rfl) rfl ?_
  exact kX11_takeOn_L2 C _ _ _ _ _
def fX11_isEarlier (s0 : zS) (i0 : Nat) (x1 : Int) (x2 : Int) : Option (Int × zS) :=
  if x2 = (-9) then (some (1, s0)) else (nm_ (gR s0 64 i0 18) fun (r_1 : Option Nat) => Option.bind r_1 fun i_2 => g_ ((0 : Int) ≤ x1 ∧ (x1 : Int) < 24) (nm_ (gR s0 64 i0 18) fun (r_5 : Option Nat) => Option.bind r_5 fun i_6 => g_ ((0 : Int) ≤ x2 ∧ (x2 : Int) < 24) (if gI s0 84 i_2 (Int.toNat (x1)) < gI s0 84 i_6 (Int.toNat (x2)) then (some (1, s0)) else (nm_ (gR s0 64 i0 18) fun (r_9 : Option Nat) => Option.bind r_9 fun i_10 => g_ ((0 : Int) ≤ x1 ∧ (x1 : Int) < 24) (nm_ (gR s0 64 i0 18) fun (r_13 : Option Nat) => Option.bind r_13 fun i_14 => g_ ((0 : Int) ≤ x2 ∧ (x2 : Int) < 24) (if gI s0 84 i_10 (Int.toNat (x1)) = gI s0 84 i_14 (Int.toNat (x2)) then (if x1 < x2 then (some (1, s0)) else (some (0, s0))) else (some (0, s0))))))))
set_option maxHeartbeats 4000000 in
set_option maxRecDepth 20000 in
theorem kX11_isEarlier (s0 : zS) (i0 : Nat) (x1 : Int) (x2 : Int) : zCt zw yX11_isEarlier cX11_isEarlier 3 (some .boolean) 0 0 0 0 eI [.inr (64, some i0), .inl x1, .inl x2] s0 (fX11_isEarlier s0 i0 x1 x2) := by
  refine zCt_on (own := RX11) (nm := "isEarlier") rfl rfl (by decide) (Nat.le_of_ble_eq_true rfl) fun K C => ?_
  show zJ zw 3 K _ 0 0 0 [(0, .inr (64, some i0)), (1, .inl x1), (2, .inl x2)] [] s0 (fX11_isEarlier s0 i0 x1 x2)
  unfold fX11_isEarlier
  refine J_iload_n C 2 dX11_isEarlier_0 rfl ?_
  refine J_bipush C dX11_isEarlier_1 (zi9 rfl rfl) (by decide) ?_
  refine J_ic_eq C 41 dX11_isEarlier_3 rfl (fun _ => ?_) (fun _ => ?_)
  · refine J_iconst C dX11_isEarlier_41 (zi9 rfl rfl) ?_
    refine J_goto C 46 dX11_isEarlier_42 rfl ?_
    exact J_zret C (by decide) dX11_isEarlier_46 (by decide) (by decide)
  · refine J_aload_n C 0 dX11_isEarlier_6 rfl ?_
    refine gf_64_18 C dX11_isEarlier_7 q_862 ?_
    refine J_nmR fun r_1 => ?_
    refine J_iload_n C 1 dX11_isEarlier_10 rfl ?_
    refine J_bind fun i_2 e_3 => ?_
    subst e_3
    refine J_g fun h_4 => ?_
    refine J_iald (t := 84) (N := 24) C (Nat.le_of_ble_eq_true rfl) rfl rfl h_4 dX11_isEarlier_11 ?_
    refine J_aload_n C 0 dX11_isEarlier_12 rfl ?_
    refine gf_64_18 C dX11_isEarlier_13 q_862 ?_
    refine J_nmR fun r_5 => ?_
    refine J_iload_n C 2 dX11_isEarlier_16 rfl ?_
    refine J_bind fun i_6 e_7 => ?_
    subst e_7
    refine J_g fun h_8 => ?_
    refine J_iald (t := 84) (N := 24) C (Nat.le_of_ble_eq_true rfl) rfl rfl h_8 dX11_isEarlier_17 ?_
    refine J_ic_lt C 41 dX11_isEarlier_18 rfl (fun _ => ?_) (fun _ => ?_)
    · refine J_iconst C dX11_isEarlier_41 (zi9 rfl rfl) ?_
      refine J_goto C 46 dX11_isEarlier_42 rfl ?_
      exact J_zret C (by decide) dX11_isEarlier_46 (by decide) (by decide)
    · refine J_aload_n C 0 dX11_isEarlier_21 rfl ?_
      refine gf_64_18 C dX11_isEarlier_22 q_862 ?_
      refine J_nmR fun r_9 => ?_
      refine J_iload_n C 1 dX11_isEarlier_25 rfl ?_
      refine J_bind fun i_10 e_11 => ?_
      subst e_11
      refine J_g fun h_12 => ?_
      refine J_iald (t := 84) (N := 24) C (Nat.le_of_ble_eq_true rfl) rfl rfl h_12 dX11_isEarlier_26 ?_
      refine J_aload_n C 0 dX11_isEarlier_27 rfl ?_
      refine gf_64_18 C dX11_isEarlier_28 q_862 ?_
      refine J_nmR fun r_13 => ?_
      refine J_iload_n C 2 dX11_isEarlier_31 rfl ?_
      refine J_bind fun i_14 e_15 => ?_
      subst e_15
      refine J_g fun h_16 => ?_
      refine J_iald (t := 84) (N := 24) C (Nat.le_of_ble_eq_true rfl) rfl rfl h_16 dX11_isEarlier_32 ?_
      refine J_ic_ne C 45 dX11_isEarlier_33 rfl (fun _ => ?_) (fun _ => ?_)
      · refine J_iconst C dX11_isEarlier_45 (zi9 rfl rfl) ?_
        exact J_zret C (by decide) dX11_isEarlier_46 (by decide) (by decide)
      · refine J_iload_n C 1 dX11_isEarlier_36 rfl ?_
        refine J_iload_n C 2 dX11_isEarlier_37 rfl ?_
        refine J_ic_ge C 45 dX11_isEarlier_38 rfl (fun _ => ?_) (fun _ => ?_)
        · refine J_iconst C dX11_isEarlier_45 (zi9 rfl rfl) ?_
          exact J_zret C (by decide) dX11_isEarlier_46 (by decide) (by decide)
        · refine J_iconst C dX11_isEarlier_41 (zi9 rfl rfl) ?_
          refine J_goto C 46 dX11_isEarlier_42 rfl ?_
          exact J_zret C (by decide) dX11_isEarlier_46 (by decide) (by decide)
def fX11_waitsUp (s0 : zS) (i0 : Nat) (x1 : Int) (x2 : Int) (x3 : Int) : Option (Int × zS) :=
  nm_ (gR s0 64 i0 16) fun (r_1 : Option Nat) => Option.bind r_1 fun i_2 => g_ ((0 : Int) ≤ x1 ∧ (x1 : Int) < 24) (if gI s0 82 i_2 (Int.toNat (x1)) = 1 then (nm_ (gR s0 64 i0 17) fun (r_5 : Option Nat) => Option.bind r_5 fun i_6 => g_ ((0 : Int) ≤ x1 ∧ (x1 : Int) < 24) (if gI s0 83 i_6 (Int.toNat (x1)) = x2 then (nm_ (gR s0 64 i0 19) fun (r_9 : Option Nat) => Option.bind r_9 fun i_10 => g_ ((0 : Int) ≤ x1 ∧ (x1 : Int) < 24) (if gI s0 85 i_10 (Int.toNat (x1)) = 0 then (some (0, s0)) else (if x3 = (-9) then (some (1, s0)) else (nm_ (gR s0 64 i0 21) fun (r_13 : Option Nat) => Option.bind r_13 fun i_14 => g_ ((0 : Int) ≤ x1 ∧ (x1 : Int) < 24) (if gI s0 87 i_14 (Int.toNat (x1)) = x3 then (some (1, s0)) else (some (0, s0))))))) else (some (0, s0)))) else (some (0, s0)))
set_option maxHeartbeats 4000000 in
set_option maxRecDepth 20000 in
theorem kX11_waitsUp (s0 : zS) (i0 : Nat) (x1 : Int) (x2 : Int) (x3 : Int) : zCt zw yX11_waitsUp cX11_waitsUp 4 (some .boolean) 0 0 0 0 eI [.inr (64, some i0), .inl x1, .inl x2, .inl x3] s0 (fX11_waitsUp s0 i0 x1 x2 x3) := by
  refine zCt_on (own := RX11) (nm := "waitsUp") rfl rfl (by decide) (Nat.le_of_ble_eq_true rfl) fun K C => ?_
  show zJ zw 4 K _ 0 0 0 [(0, .inr (64, some i0)), (1, .inl x1), (2, .inl x2), (3, .inl x3)] [] s0 (fX11_waitsUp s0 i0 x1 x2 x3)
  unfold fX11_waitsUp
  refine J_aload_n C 0 dX11_waitsUp_0 rfl ?_
  refine gf_64_16 C dX11_waitsUp_1 q_860 ?_
  refine J_nmR fun r_1 => ?_
  refine J_iload_n C 1 dX11_waitsUp_4 rfl ?_
  refine J_bind fun i_2 e_3 => ?_
  subst e_3
  refine J_g fun h_4 => ?_
  refine J_iald (t := 82) (N := 24) C (Nat.le_of_ble_eq_true rfl) rfl rfl h_4 dX11_waitsUp_5 ?_
  refine J_iconst C dX11_waitsUp_6 (zi9 rfl rfl) ?_
  refine J_ic_ne C 49 dX11_waitsUp_7 rfl (fun _ => ?_) (fun _ => ?_)
  · refine J_iconst C dX11_waitsUp_49 (zi9 rfl rfl) ?_
    exact J_zret C (by decide) dX11_waitsUp_50 (by decide) (by decide)
  · refine J_aload_n C 0 dX11_waitsUp_10 rfl ?_
    refine gf_64_17 C dX11_waitsUp_11 q_861 ?_
    refine J_nmR fun r_5 => ?_
    refine J_iload_n C 1 dX11_waitsUp_14 rfl ?_
    refine J_bind fun i_6 e_7 => ?_
    subst e_7
    refine J_g fun h_8 => ?_
    refine J_iald (t := 83) (N := 24) C (Nat.le_of_ble_eq_true rfl) rfl rfl h_8 dX11_waitsUp_15 ?_
    refine J_iload_n C 2 dX11_waitsUp_16 rfl ?_
    refine J_ic_ne C 49 dX11_waitsUp_17 rfl (fun _ => ?_) (fun _ => ?_)
    · refine J_iconst C dX11_waitsUp_49 (zi9 rfl rfl) ?_
      exact J_zret C (by decide) dX11_waitsUp_50 (by decide) (by decide)
    · refine J_aload_n C 0 dX11_waitsUp_20 rfl ?_
      refine gf_64_19 C dX11_waitsUp_21 q_863 ?_
      refine J_nmR fun r_9 => ?_
      refine J_iload_n C 1 dX11_waitsUp_24 rfl ?_
      refine J_bind fun i_10 e_11 => ?_
      subst e_11
      refine J_g fun h_12 => ?_
      refine J_bald (t := 85) (N := 24) C (Nat.le_of_ble_eq_true rfl) rfl rfl h_12 dX11_waitsUp_25 ?_
      refine J_if_eq C 49 dX11_waitsUp_26 rfl (fun _ => ?_) (fun _ => ?_)
      · refine J_iconst C dX11_waitsUp_49 (zi9 rfl rfl) ?_
        exact J_zret C (by decide) dX11_waitsUp_50 (by decide) (by decide)
      · refine J_iload_n C 3 dX11_waitsUp_29 rfl ?_
        refine J_bipush C dX11_waitsUp_30 (zi9 rfl rfl) (by decide) ?_
        refine J_ic_eq C 45 dX11_waitsUp_32 rfl (fun _ => ?_) (fun _ => ?_)
        · refine J_iconst C dX11_waitsUp_45 (zi9 rfl rfl) ?_
          refine J_goto C 50 dX11_waitsUp_46 rfl ?_
          exact J_zret C (by decide) dX11_waitsUp_50 (by decide) (by decide)
        · refine J_aload_n C 0 dX11_waitsUp_35 rfl ?_
          refine gf_64_21 C dX11_waitsUp_36 q_865 ?_
          refine J_nmR fun r_13 => ?_
          refine J_iload_n C 1 dX11_waitsUp_39 rfl ?_
          refine J_bind fun i_14 e_15 => ?_
          subst e_15
          refine J_g fun h_16 => ?_
          refine J_iald (t := 87) (N := 24) C (Nat.le_of_ble_eq_true rfl) rfl rfl h_16 dX11_waitsUp_40 ?_
          refine J_iload_n C 3 dX11_waitsUp_41 rfl ?_
          refine J_ic_ne C 49 dX11_waitsUp_42 rfl (fun _ => ?_) (fun _ => ?_)
          · refine J_iconst C dX11_waitsUp_49 (zi9 rfl rfl) ?_
            exact J_zret C (by decide) dX11_waitsUp_50 (by decide) (by decide)
          · refine J_iconst C dX11_waitsUp_45 (zi9 rfl rfl) ?_
            refine J_goto C 50 dX11_waitsUp_46 rfl ?_
            exact J_zret C (by decide) dX11_waitsUp_50 (by decide) (by decide)
def fX11_firstUp_L6 (o0 : Nat) (c1 : Int) (c2 : Int) : Nat → zS → Int → Int → Option (Int × zS)
  | 0, _, _, _ => none
  | n + 1, s0, x3, x4 =>
    if x4 < gI s0 64 o0 14 then (cl_ (fX11_waitsUp s0 o0 x4 c1 c2) fun (x_2 : Int) (s_1 : zS) => nm_ (fun (s_3 : zS) (u_4 : Int) => nm_ (wr (x4 + 1)) fun (x_5 : Int) => fX11_firstUp_L6 o0 c1 c2 n s_3 u_4 x_5) fun (j42 : zS → Int → Option (Int × zS)) => nm_ (fun (s_6 : zS) => j42 s_6 x3) fun (j41 : zS → Option (Int × zS)) => if x_2 = 0 then (j41 s_1) else (cl_ (fX11_isEarlier s_1 o0 x4 x3) fun (x_8 : Int) (s_7 : zS) => if x_8 = 0 then (j41 s_7) else (j42 s_7 x4))) else (some (x3, s0))
def fX11_firstUp (nf : Nat) (s0 : zS) (i0 : Nat) (x1 : Int) (x2 : Int) : Option (Int × zS) :=
  fX11_firstUp_L6 i0 x1 x2 nf s0 (-9) 0
set_option maxHeartbeats 4000000 in
set_option maxRecDepth 20000 in
theorem kX11_firstUp_L6 {K : zKx} (C : zC zw 5 K RX11 cX11_firstUp "firstUp" (some .int) 1 23 0 0)  (o0 : Nat) (c1 : Int) (c2 : Int) : ∀ (n : Nat) (s0 : zS) (x3 : Int) (x4 : Int), zJ zw 5 K (zQm zw eI 0 0 K) 0 0 6 [(0, .inr (64, some o0)), (1, .inl c1), (2, .inl c2), (3, .inl x3), (4, .inl x4)] [] s0 (fX11_firstUp_L6 o0 c1 c2 n s0 x3 x4) := by
  intro n
  induction n with
  | zero => intro s0 x3 x4; exact J_none
  | succ n ih =>
    intro s0 x3 x4
    rw [fX11_firstUp_L6]
    refine J_iload C 4 dX11_firstUp_6 rfl ?_
    refine J_aload_n C 0 dX11_firstUp_8 rfl ?_
    refine gf_64_14 C dX11_firstUp_9 q_858 ?_
    refine J_ic_ge C 49 dX11_firstUp_12 rfl (fun _ => ?_) (fun _ => ?_)
    · refine J_iload_n C 3 dX11_firstUp_49 rfl ?_
      exact J_iret C dX11_firstUp_50 (by decide) (by decide)
    · refine J_aload_n C 0 dX11_firstUp_15 rfl ?_
      refine J_iload C 4 dX11_firstUp_16 rfl ?_
      refine J_iload_n C 1 dX11_firstUp_18 rfl ?_
      refine J_iload_n C 2 dX11_firstUp_19 rfl ?_
      refine J_callVI (S := []) (avs := [.inl x4, .inl c1, .inl c2]) C zx64 yw_111 rfl (kX11_waitsUp _ _ _ _ _) dX11_firstUp_20 rfl (Nat.le_of_ble_eq_true rfl) (by decide) fun x_2 s_1 => ?_
      refine J_join (fun j42 => ∀ (s_3 : zS) (u_4 : Int), zJ zw 5 K (zQm zw eI 0 0 K) 0 0 42 [(0, .inr (64, some o0)), (1, .inl c1), (2, .inl c2), (4, .inl x4)] [.inl u_4] s_3 (j42 s_3 u_4)) ?_ fun j42 hj42 => ?_
      · intro s_3 u_4
        refine J_istore_n (L' := [(0, .inr (64, some o0)), (1, .inl c1), (2, .inl c2), (3, .inl u_4), (4, .inl x4)]) C dX11_firstUp_42 (Nat.le_of_ble_eq_true rfl) rfl ?_
        refine J_iinc C 4 dX11_firstUp_43 (zi9 rfl rfl) (Nat.le_of_ble_eq_true rfl) rfl fun x_5 => ?_
        refine J_goto C 6 dX11_firstUp_46 rfl ?_
        exact ih _ _ _
      · refine J_join (fun j41 => ∀ (s_6 : zS), zJ zw 5 K (zQm zw eI 0 0 K) 0 0 41 [(0, .inr (64, some o0)), (1, .inl c1), (2, .inl c2), (3, .inl x3), (4, .inl x4)] [] s_6 (j41 s_6)) ?_ fun j41 hj41 => ?_
        · intro s_6
          refine J_iload_n C 3 dX11_firstUp_41 rfl ?_
          refine J_loc (L' := [(0, .inr (64, some o0)), (1, .inl c1), (2, .inl c2), (4, .inl x4)]) [0, 1, 2, 4] rfl ?_
          exact hj42 _ _
        · refine J_if_eq C 41 dX11_firstUp_23 rfl (fun _ => ?_) (fun _ => ?_)
          · exact hj41 _
          · refine J_aload_n C 0 dX11_firstUp_26 rfl ?_
            refine J_iload C 4 dX11_firstUp_27 rfl ?_
            refine J_iload_n C 3 dX11_firstUp_29 rfl ?_
            refine J_callVI (S := []) (avs := [.inl x4, .inl x3]) C zx64 yw_110 rfl (kX11_isEarlier _ _ _ _) dX11_firstUp_30 rfl (Nat.le_of_ble_eq_true rfl) (by decide) fun x_8 s_7 => ?_
            refine J_if_eq C 41 dX11_firstUp_33 rfl (fun _ => ?_) (fun _ => ?_)
            · exact hj41 _
            · refine J_iload C 4 dX11_firstUp_36 rfl ?_
              refine J_goto C 42 dX11_firstUp_38 rfl ?_
              refine J_loc (L' := [(0, .inr (64, some o0)), (1, .inl c1), (2, .inl c2), (4, .inl x4)]) [0, 1, 2, 4] rfl ?_
              exact hj42 _ _
set_option maxHeartbeats 4000000 in
set_option maxRecDepth 20000 in
theorem kX11_firstUp (nf : Nat) (s0 : zS) (i0 : Nat) (x1 : Int) (x2 : Int) : zCt zw yX11_firstUp cX11_firstUp 5 (some .int) 1 23 0 0 eI [.inr (64, some i0), .inl x1, .inl x2] s0 (fX11_firstUp nf s0 i0 x1 x2) := by
  refine zCt_on (own := RX11) (nm := "firstUp") rfl rfl (by decide) (Nat.le_of_ble_eq_true rfl) fun K C => ?_
  show zJ zw 5 K _ 0 0 0 [(0, .inr (64, some i0)), (1, .inl x1), (2, .inl x2)] [] s0 (fX11_firstUp nf s0 i0 x1 x2)
  unfold fX11_firstUp
  refine J_bipush C dX11_firstUp_0 (zi9 rfl rfl) (by decide) ?_
  refine J_istore_n (L' := [(0, .inr (64, some i0)), (1, .inl x1), (2, .inl x2), (3, .inl (-9))]) C dX11_firstUp_2 (Nat.le_of_ble_eq_true rfl) rfl ?_
  refine J_iconst C dX11_firstUp_3 (zi9 rfl rfl) ?_
  refine J_istore (L' := [(0, .inr (64, some i0)), (1, .inl x1), (2, .inl x2), (3, .inl (-9)), (4, .inl 0)]) C dX11_firstUp_4 (Nat.le_of_ble_eq_true rfl) rfl ?_
  exact kX11_firstUp_L6 C _ _ _ _ _ _ _
def fX11_upOf_L61 (o0 : Nat) (c1 : Int) (nf : Nat) : Nat → zS → Int → Int → Option (Int × zS)
  | 0, _, _, _ => none
  | n + 1, s0, x2, x3 =>
    if x3 < gI s0 64 o0 0 then (nm_ (fun (s_17 : zS) (u_18 : Int) => nm_ (gR s_17 64 o0 1) fun (r_19 : Option Nat) => Option.bind r_19 fun i_20 => g_ ((0 : Int) ≤ u_18 ∧ (u_18 : Int) < 16) (nm_ (fun (s_23 : zS) (u_24 : Int) => if u_24 = (-9) then (nm_ (wr (x3 + 1)) fun (x_25 : Int) => fX11_upOf_L61 o0 c1 nf n s_23 u_18 x_25) else (some (u_24, s_23))) fun (j108 : zS → Int → Option (Int × zS)) => if gI s_17 67 i_20 (Int.toNat (u_18)) = c1 then (cl_ (fX11_firstUp nf s_17 o0 c1 u_18) fun (x_27 : Int) (s_26 : zS) => j108 s_26 x_27) else (j108 s_17 (-9)))) fun (j86 : zS → Int → Option (Int × zS)) => if wr (x2 + 1) < gI s0 64 o0 0 then (j86 s0 (wr (x2 + 1))) else (j86 s0 1)) else (some ((-9), s0))
def fX11_upOf (nf : Nat) (s0 : zS) (i0 : Nat) (x1 : Int) : Option (Int × zS) :=
  nm_ (gR s0 64 i0 2) fun (r_1 : Option Nat) => Option.bind r_1 fun i_2 => g_ ((0 : Int) ≤ x1 ∧ (x1 : Int) < 16) (if gI s0 68 i_2 (Int.toNat (x1)) = 2 then (cl_ (fX11_firstUp nf s0 i0 x1 (-9)) fun (x_6 : Int) (s_5 : zS) => some (x_6, s_5)) else (nm_ (gR s0 64 i0 7) fun (r_7 : Option Nat) => Option.bind r_7 fun i_8 => g_ ((0 : Int) ≤ x1 ∧ (x1 : Int) < 16) (if gI s0 73 i_8 (Int.toNat (x1)) = 0 then (cl_ (fX11_firstUp nf s0 i0 x1 (-9)) fun (x_27 : Int) (s_26 : zS) => some (x_27, s_26)) else (nm_ (gR s0 64 i0 7) fun (r_11 : Option Nat) => Option.bind r_11 fun i_12 => g_ ((0 : Int) ≤ x1 ∧ (x1 : Int) < 16) (nm_ (fun (s_15 : zS) (u_16 : Int) => fX11_upOf_L61 i0 x1 nf nf s_15 u_16 0) fun (j58 : zS → Int → Option (Int × zS)) => nm_ (fun (s_17 : zS) => j58 s_17 0) fun (j57 : zS → Option (Int × zS)) => if gI s0 73 i_12 (Int.toNat (x1)) = 2 then (nm_ (gR s0 64 i0 11) fun (r_18 : Option Nat) => Option.bind r_18 fun i_19 => g_ ((0 : Int) ≤ x1 ∧ (x1 : Int) < 16) (if gI s0 77 i_19 (Int.toNat (x1)) = (-9) then (j57 s0) else (nm_ (gR s0 64 i0 11) fun (r_22 : Option Nat) => Option.bind r_22 fun i_23 => g_ ((0 : Int) ≤ x1 ∧ (x1 : Int) < 16) (j58 s0 (gI s0 77 i_23 (Int.toNat (x1))))))) else (j57 s0))))))
set_option maxHeartbeats 4000000 in
set_option maxRecDepth 20000 in
theorem kX11_upOf_L61 {K : zKx} (C : zC zw 5 K RX11 cX11_upOf "upOf" (some .int) 2 47 0 0)  (nf : Nat) (o0 : Nat) (c1 : Int) : ∀ (n : Nat) (s0 : zS) (x2 : Int) (x3 : Int), zJ zw 5 K (zQm zw eI 0 0 K) 0 0 61 [(0, .inr (64, some o0)), (1, .inl c1), (2, .inl x2), (3, .inl x3)] [] s0 (fX11_upOf_L61 o0 c1 nf n s0 x2 x3) := by
  intro n
  induction n with
  | zero => intro s0 x2 x3; exact J_none
  | succ n ih =>
    intro s0 x2 x3
    rw [fX11_upOf_L61]
    refine J_iload_n C 3 dX11_upOf_61 rfl ?_
    refine J_aload_n C 0 dX11_upOf_62 rfl ?_
    refine gf_64_0 C dX11_upOf_63 q_844 ?_
    refine J_ic_ge C 126 dX11_upOf_66 rfl (fun _ => ?_) (fun _ => ?_)
    · refine J_bipush C dX11_upOf_126 (zi9 rfl rfl) (by decide) ?_
      exact J_iret C dX11_upOf_128 (by decide) (by decide)
    · refine J_iload_n C 2 dX11_upOf_69 rfl ?_
      refine J_iconst C dX11_upOf_70 (zi9 rfl rfl) ?_
      refine J_iadd C dX11_upOf_71 ?_
      refine J_aload_n C 0 dX11_upOf_72 rfl ?_
      refine gf_64_0 C dX11_upOf_73 q_844 ?_
      refine J_join (fun j86 => ∀ (s_17 : zS) (u_18 : Int), zJ zw 5 K (zQm zw eI 0 0 K) 0 0 86 [(0, .inr (64, some o0)), (1, .inl c1), (3, .inl x3)] [.inl u_18] s_17 (j86 s_17 u_18)) ?_ fun j86 hj86 => ?_
      · intro s_17 u_18
        refine J_istore_n (L' := [(0, .inr (64, some o0)), (1, .inl c1), (2, .inl u_18), (3, .inl x3)]) C dX11_upOf_86 (Nat.le_of_ble_eq_true rfl) rfl ?_
        refine J_aload_n C 0 dX11_upOf_87 rfl ?_
        refine gf_64_1 C dX11_upOf_88 q_845 ?_
        refine J_nmR fun r_19 => ?_
        refine J_iload_n C 2 dX11_upOf_91 rfl ?_
        refine J_bind fun i_20 e_21 => ?_
        subst e_21
        refine J_g fun h_22 => ?_
        refine J_iald (t := 67) (N := 16) C (Nat.le_of_ble_eq_true rfl) rfl rfl h_22 dX11_upOf_92 ?_
        refine J_iload_n C 1 dX11_upOf_93 rfl ?_
        refine J_join (fun j108 => ∀ (s_23 : zS) (u_24 : Int), zJ zw 5 K (zQm zw eI 0 0 K) 0 0 108 [(0, .inr (64, some o0)), (1, .inl c1), (2, .inl u_18), (3, .inl x3)] [.inl u_24] s_23 (j108 s_23 u_24)) ?_ fun j108 hj108 => ?_
        · intro s_23 u_24
          refine J_istore (L' := [(0, .inr (64, some o0)), (1, .inl c1), (2, .inl u_18), (3, .inl x3), (4, .inl u_24)]) C dX11_upOf_108 (Nat.le_of_ble_eq_true rfl) rfl ?_
          refine J_iload C 4 dX11_upOf_110 rfl ?_
          refine J_bipush C dX11_upOf_112 (zi9 rfl rfl) (by decide) ?_
          refine J_ic_eq C 120 dX11_upOf_114 rfl (fun _ => ?_) (fun _ => ?_)
          · refine J_iinc C 3 dX11_upOf_120 (zi9 rfl rfl) (Nat.le_of_ble_eq_true rfl) rfl fun x_25 => ?_
            refine J_goto C 61 dX11_upOf_123 rfl ?_
            refine J_loc (L' := [(0, .inr (64, some o0)), (1, .inl c1), (2, .inl u_18), (3, .inl x_25)]) [0, 1, 2, 3] rfl ?_
            exact ih _ _ _
          · refine J_iload C 4 dX11_upOf_117 rfl ?_
            exact J_iret C dX11_upOf_119 (by decide) (by decide)
        · refine J_ic_ne C 106 dX11_upOf_94 rfl (fun _ => ?_) (fun _ => ?_)
          · refine J_bipush C dX11_upOf_106 (zi9 rfl rfl) (by decide) ?_
            exact hj108 _ _
          · refine J_aload_n C 0 dX11_upOf_97 rfl ?_
            refine J_iload_n C 1 dX11_upOf_98 rfl ?_
            refine J_iload_n C 2 dX11_upOf_99 rfl ?_
            refine J_callVI (S := []) (avs := [.inl c1, .inl u_18]) C zx64 yw_112 rfl (kX11_firstUp _ _ _ _ _) dX11_upOf_100 rfl (Nat.le_of_ble_eq_true rfl) (by decide) fun x_27 s_26 => ?_
            refine J_goto C 108 dX11_upOf_103 rfl ?_
            exact hj108 _ _
      · refine J_ic_lt C 83 dX11_upOf_76 rfl (fun _ => ?_) (fun _ => ?_)
        · refine J_iload_n C 2 dX11_upOf_83 rfl ?_
          refine J_iconst C dX11_upOf_84 (zi9 rfl rfl) ?_
          refine J_iadd C dX11_upOf_85 ?_
          refine J_loc (L' := [(0, .inr (64, some o0)), (1, .inl c1), (3, .inl x3)]) [0, 1, 3] rfl ?_
          exact hj86 _ _
        · refine J_iconst C dX11_upOf_79 (zi9 rfl rfl) ?_
          refine J_goto C 86 dX11_upOf_80 rfl ?_
          refine J_loc (L' := [(0, .inr (64, some o0)), (1, .inl c1), (3, .inl x3)]) [0, 1, 3] rfl ?_
          exact hj86 _ _
set_option maxHeartbeats 4000000 in
set_option maxRecDepth 20000 in
theorem kX11_upOf (nf : Nat) (s0 : zS) (i0 : Nat) (x1 : Int) : zCt zw yX11_upOf cX11_upOf 5 (some .int) 2 47 0 0 eI [.inr (64, some i0), .inl x1] s0 (fX11_upOf nf s0 i0 x1) := by
  refine zCt_on (own := RX11) (nm := "upOf") rfl rfl (by decide) (Nat.le_of_ble_eq_true rfl) fun K C => ?_
  show zJ zw 5 K _ 0 0 0 [(0, .inr (64, some i0)), (1, .inl x1)] [] s0 (fX11_upOf nf s0 i0 x1)
  unfold fX11_upOf
  refine J_aload_n C 0 dX11_upOf_0 rfl ?_
  refine gf_64_2 C dX11_upOf_1 q_846 ?_
  refine J_nmR fun r_1 => ?_
  refine J_iload_n C 1 dX11_upOf_4 rfl ?_
  refine J_bind fun i_2 e_3 => ?_
  subst e_3
  refine J_g fun h_4 => ?_
  refine J_iald (t := 68) (N := 16) C (Nat.le_of_ble_eq_true rfl) rfl rfl h_4 dX11_upOf_5 ?_
  refine J_iconst C dX11_upOf_6 (zi9 rfl rfl) ?_
  refine J_ic_eq C 19 dX11_upOf_7 rfl (fun _ => ?_) (fun _ => ?_)
  · refine J_aload_n C 0 dX11_upOf_19 rfl ?_
    refine J_iload_n C 1 dX11_upOf_20 rfl ?_
    refine J_bipush C dX11_upOf_21 (zi9 rfl rfl) (by decide) ?_
    refine J_callVI (S := []) (avs := [.inl x1, .inl (-9)]) C zx64 yw_112 rfl (kX11_firstUp _ _ _ _ _) dX11_upOf_23 rfl (Nat.le_of_ble_eq_true rfl) (by decide) fun x_6 s_5 => ?_
    exact J_iret C dX11_upOf_26 (by decide) (by decide)
  · refine J_aload_n C 0 dX11_upOf_10 rfl ?_
    refine gf_64_7 C dX11_upOf_11 q_851 ?_
    refine J_nmR fun r_7 => ?_
    refine J_iload_n C 1 dX11_upOf_14 rfl ?_
    refine J_bind fun i_8 e_9 => ?_
    subst e_9
    refine J_g fun h_10 => ?_
    refine J_iald (t := 73) (N := 16) C (Nat.le_of_ble_eq_true rfl) rfl rfl h_10 dX11_upOf_15 ?_
    refine J_if_ne C 27 dX11_upOf_16 rfl (fun _ => ?_) (fun _ => ?_)
    · refine J_aload_n C 0 dX11_upOf_27 rfl ?_
      refine gf_64_7 C dX11_upOf_28 q_851 ?_
      refine J_nmR fun r_11 => ?_
      refine J_iload_n C 1 dX11_upOf_31 rfl ?_
      refine J_bind fun i_12 e_13 => ?_
      subst e_13
      refine J_g fun h_14 => ?_
      refine J_iald (t := 73) (N := 16) C (Nat.le_of_ble_eq_true rfl) rfl rfl h_14 dX11_upOf_32 ?_
      refine J_iconst C dX11_upOf_33 (zi9 rfl rfl) ?_
      refine J_join (fun j58 => ∀ (s_15 : zS) (u_16 : Int), zJ zw 5 K (zQm zw eI 0 0 K) 0 0 58 [(0, .inr (64, some i0)), (1, .inl x1)] [.inl u_16] s_15 (j58 s_15 u_16)) ?_ fun j58 hj58 => ?_
      · intro s_15 u_16
        refine J_istore_n (L' := [(0, .inr (64, some i0)), (1, .inl x1), (2, .inl u_16)]) C dX11_upOf_58 (Nat.le_of_ble_eq_true rfl) rfl ?_
        refine J_iconst C dX11_upOf_59 (zi9 rfl rfl) ?_
        refine J_istore_n (L' := [(0, .inr (64, some i0)), (1, .inl x1), (2, .inl u_16), (3, .inl 0)]) C dX11_upOf_60 (Nat.le_of_ble_eq_true rfl) rfl ?_
        exact kX11_upOf_L61 C _ _ _ _ _ _ _
      · refine J_join (fun j57 => ∀ (s_17 : zS), zJ zw 5 K (zQm zw eI 0 0 K) 0 0 57 [(0, .inr (64, some i0)), (1, .inl x1)] [] s_17 (j57 s_17)) ?_ fun j57 hj57 => ?_
        · intro s_17
          refine J_iconst C dX11_upOf_57 (zi9 rfl rfl) ?_
          exact hj58 _ _
        · refine J_ic_ne C 57 dX11_upOf_34 rfl (fun _ => ?_) (fun _ => ?_)
          · exact hj57 _
          · refine J_aload_n C 0 dX11_upOf_37 rfl ?_
            refine gf_64_11 C dX11_upOf_38 q_855 ?_
            refine J_nmR fun r_18 => ?_
            refine J_iload_n C 1 dX11_upOf_41 rfl ?_
            refine J_bind fun i_19 e_20 => ?_
            subst e_20
            refine J_g fun h_21 => ?_
            refine J_iald (t := 77) (N := 16) C (Nat.le_of_ble_eq_true rfl) rfl rfl h_21 dX11_upOf_42 ?_
            refine J_bipush C dX11_upOf_43 (zi9 rfl rfl) (by decide) ?_
            refine J_ic_eq C 57 dX11_upOf_45 rfl (fun _ => ?_) (fun _ => ?_)
            · exact hj57 _
            · refine J_aload_n C 0 dX11_upOf_48 rfl ?_
              refine gf_64_11 C dX11_upOf_49 q_855 ?_
              refine J_nmR fun r_22 => ?_
              refine J_iload_n C 1 dX11_upOf_52 rfl ?_
              refine J_bind fun i_23 e_24 => ?_
              subst e_24
              refine J_g fun h_25 => ?_
              refine J_iald (t := 77) (N := 16) C (Nat.le_of_ble_eq_true rfl) rfl rfl h_25 dX11_upOf_53 ?_
              refine J_goto C 58 dX11_upOf_54 rfl ?_
              exact hj58 _ _
    · refine J_aload_n C 0 dX11_upOf_19 rfl ?_
      refine J_iload_n C 1 dX11_upOf_20 rfl ?_
      refine J_bipush C dX11_upOf_21 (zi9 rfl rfl) (by decide) ?_
      refine J_callVI (S := []) (avs := [.inl x1, .inl (-9)]) C zx64 yw_112 rfl (kX11_firstUp _ _ _ _ _) dX11_upOf_23 rfl (Nat.le_of_ble_eq_true rfl) (by decide) fun x_27 s_26 => ?_
      exact J_iret C dX11_upOf_26 (by decide) (by decide)
def fX11_downOf_L5 (o0 : Nat) (c1 : Int) : Nat → zS → Int → Int → Option (Int × zS)
  | 0, _, _, _ => none
  | n + 1, s0, x2, x3 =>
    if x3 < gI s0 64 o0 14 then (nm_ (gR s0 64 o0 16) fun (r_1 : Option Nat) => Option.bind r_1 fun i_2 => g_ ((0 : Int) ≤ x3 ∧ (x3 : Int) < 24) (nm_ (fun (s_5 : zS) (u_6 : Int) => nm_ (fun (s_7 : zS) (u_8 : Int) => nm_ (wr (x3 + 1)) fun (x_9 : Int) => fX11_downOf_L5 o0 c1 n s_7 u_8 x_9) fun (j83 : zS → Int → Option (Int × zS)) => nm_ (fun (s_10 : zS) => j83 s_10 x2) fun (j82 : zS → Option (Int × zS)) => if u_6 = 0 then (j82 s_5) else (cl_ (fX11_isEarlier s_5 o0 x3 x2) fun (x_12 : Int) (s_11 : zS) => if x_12 = 0 then (j82 s_11) else (j83 s_11 x3))) fun (j62 : zS → Int → Option (Int × zS)) => nm_ (fun (s_13 : zS) => j62 s_13 0) fun (j61 : zS → Option (Int × zS)) => if gI s0 82 i_2 (Int.toNat (x3)) = 1 then (nm_ (gR s0 64 o0 17) fun (r_14 : Option Nat) => Option.bind r_14 fun i_15 => g_ ((0 : Int) ≤ x3 ∧ (x3 : Int) < 24) (nm_ (gR s0 64 o0 1) fun (r_18 : Option Nat) => Option.bind r_18 fun i_19 => g_ ((0 : Int) ≤ c1 ∧ (c1 : Int) < 16) (if gI s0 83 i_15 (Int.toNat (x3)) = gI s0 67 i_19 (Int.toNat (c1)) then (nm_ (gR s0 64 o0 19) fun (r_22 : Option Nat) => Option.bind r_22 fun i_23 => g_ ((0 : Int) ≤ x3 ∧ (x3 : Int) < 24) (if gI s0 85 i_23 (Int.toNat (x3)) = 0 then (nm_ (gR s0 64 o0 20) fun (r_26 : Option Nat) => Option.bind r_26 fun i_27 => g_ ((0 : Int) ≤ x3 ∧ (x3 : Int) < 24) (if gI s0 86 i_27 (Int.toNat (x3)) = c1 then (j62 s0 1) else (j61 s0))) else (j61 s0))) else (j61 s0)))) else (j61 s0))) else (some (x2, s0))
def fX11_downOf (nf : Nat) (s0 : zS) (i0 : Nat) (x1 : Int) : Option (Int × zS) :=
  fX11_downOf_L5 i0 x1 nf s0 (-9) 0
set_option maxHeartbeats 4000000 in
set_option maxRecDepth 20000 in
theorem kX11_downOf_L5 {K : zKx} (C : zC zw 5 K RX11 cX11_downOf "downOf" (some .int) 1 22 0 0)  (o0 : Nat) (c1 : Int) : ∀ (n : Nat) (s0 : zS) (x2 : Int) (x3 : Int), zJ zw 5 K (zQm zw eI 0 0 K) 0 0 5 [(0, .inr (64, some o0)), (1, .inl c1), (2, .inl x2), (3, .inl x3)] [] s0 (fX11_downOf_L5 o0 c1 n s0 x2 x3) := by
  intro n
  induction n with
  | zero => intro s0 x2 x3; exact J_none
  | succ n ih =>
    intro s0 x2 x3
    rw [fX11_downOf_L5]
    refine J_iload_n C 3 dX11_downOf_5 rfl ?_
    refine J_aload_n C 0 dX11_downOf_6 rfl ?_
    refine gf_64_14 C dX11_downOf_7 q_858 ?_
    refine J_ic_ge C 90 dX11_downOf_10 rfl (fun _ => ?_) (fun _ => ?_)
    · refine J_iload_n C 2 dX11_downOf_90 rfl ?_
      exact J_iret C dX11_downOf_91 (by decide) (by decide)
    · refine J_aload_n C 0 dX11_downOf_13 rfl ?_
      refine gf_64_16 C dX11_downOf_14 q_860 ?_
      refine J_nmR fun r_1 => ?_
      refine J_iload_n C 3 dX11_downOf_17 rfl ?_
      refine J_bind fun i_2 e_3 => ?_
      subst e_3
      refine J_g fun h_4 => ?_
      refine J_iald (t := 82) (N := 24) C (Nat.le_of_ble_eq_true rfl) rfl rfl h_4 dX11_downOf_18 ?_
      refine J_iconst C dX11_downOf_19 (zi9 rfl rfl) ?_
      refine J_join (fun j62 => ∀ (s_5 : zS) (u_6 : Int), zJ zw 5 K (zQm zw eI 0 0 K) 0 0 62 [(0, .inr (64, some o0)), (1, .inl c1), (2, .inl x2), (3, .inl x3)] [.inl u_6] s_5 (j62 s_5 u_6)) ?_ fun j62 hj62 => ?_
      · intro s_5 u_6
        refine J_istore (L' := [(0, .inr (64, some o0)), (1, .inl c1), (2, .inl x2), (3, .inl x3), (4, .inl u_6)]) C dX11_downOf_62 (Nat.le_of_ble_eq_true rfl) rfl ?_
        refine J_iload C 4 dX11_downOf_64 rfl ?_
        refine J_join (fun j83 => ∀ (s_7 : zS) (u_8 : Int), zJ zw 5 K (zQm zw eI 0 0 K) 0 0 83 [(0, .inr (64, some o0)), (1, .inl c1), (3, .inl x3)] [.inl u_8] s_7 (j83 s_7 u_8)) ?_ fun j83 hj83 => ?_
        · intro s_7 u_8
          refine J_istore_n (L' := [(0, .inr (64, some o0)), (1, .inl c1), (2, .inl u_8), (3, .inl x3)]) C dX11_downOf_83 (Nat.le_of_ble_eq_true rfl) rfl ?_
          refine J_iinc C 3 dX11_downOf_84 (zi9 rfl rfl) (Nat.le_of_ble_eq_true rfl) rfl fun x_9 => ?_
          refine J_goto C 5 dX11_downOf_87 rfl ?_
          exact ih _ _ _
        · refine J_join (fun j82 => ∀ (s_10 : zS), zJ zw 5 K (zQm zw eI 0 0 K) 0 0 82 [(0, .inr (64, some o0)), (1, .inl c1), (2, .inl x2), (3, .inl x3)] [] s_10 (j82 s_10)) ?_ fun j82 hj82 => ?_
          · intro s_10
            refine J_iload_n C 2 dX11_downOf_82 rfl ?_
            refine J_loc (L' := [(0, .inr (64, some o0)), (1, .inl c1), (3, .inl x3)]) [0, 1, 3] rfl ?_
            exact hj83 _ _
          · refine J_if_eq C 82 dX11_downOf_66 rfl (fun _ => ?_) (fun _ => ?_)
            · refine J_loc (L' := [(0, .inr (64, some o0)), (1, .inl c1), (2, .inl x2), (3, .inl x3)]) [0, 1, 2, 3] rfl ?_
              exact hj82 _
            · refine J_aload_n C 0 dX11_downOf_69 rfl ?_
              refine J_iload_n C 3 dX11_downOf_70 rfl ?_
              refine J_iload_n C 2 dX11_downOf_71 rfl ?_
              refine J_callVI (S := []) (avs := [.inl x3, .inl x2]) C zx64 yw_110 rfl (kX11_isEarlier _ _ _ _) dX11_downOf_72 rfl (Nat.le_of_ble_eq_true rfl) (by decide) fun x_12 s_11 => ?_
              refine J_if_eq C 82 dX11_downOf_75 rfl (fun _ => ?_) (fun _ => ?_)
              · refine J_loc (L' := [(0, .inr (64, some o0)), (1, .inl c1), (2, .inl x2), (3, .inl x3)]) [0, 1, 2, 3] rfl ?_
                exact hj82 _
              · refine J_iload_n C 3 dX11_downOf_78 rfl ?_
                refine J_goto C 83 dX11_downOf_79 rfl ?_
                refine J_loc (L' := [(0, .inr (64, some o0)), (1, .inl c1), (3, .inl x3)]) [0, 1, 3] rfl ?_
                exact hj83 _ _
      · refine J_join (fun j61 => ∀ (s_13 : zS), zJ zw 5 K (zQm zw eI 0 0 K) 0 0 61 [(0, .inr (64, some o0)), (1, .inl c1), (2, .inl x2), (3, .inl x3)] [] s_13 (j61 s_13)) ?_ fun j61 hj61 => ?_
        · intro s_13
          refine J_iconst C dX11_downOf_61 (zi9 rfl rfl) ?_
          exact hj62 _ _
        · refine J_ic_ne C 61 dX11_downOf_20 rfl (fun _ => ?_) (fun _ => ?_)
          · exact hj61 _
          · refine J_aload_n C 0 dX11_downOf_23 rfl ?_
            refine gf_64_17 C dX11_downOf_24 q_861 ?_
            refine J_nmR fun r_14 => ?_
            refine J_iload_n C 3 dX11_downOf_27 rfl ?_
            refine J_bind fun i_15 e_16 => ?_
            subst e_16
            refine J_g fun h_17 => ?_
            refine J_iald (t := 83) (N := 24) C (Nat.le_of_ble_eq_true rfl) rfl rfl h_17 dX11_downOf_28 ?_
            refine J_aload_n C 0 dX11_downOf_29 rfl ?_
            refine gf_64_1 C dX11_downOf_30 q_845 ?_
            refine J_nmR fun r_18 => ?_
            refine J_iload_n C 1 dX11_downOf_33 rfl ?_
            refine J_bind fun i_19 e_20 => ?_
            subst e_20
            refine J_g fun h_21 => ?_
            refine J_iald (t := 67) (N := 16) C (Nat.le_of_ble_eq_true rfl) rfl rfl h_21 dX11_downOf_34 ?_
            refine J_ic_ne C 61 dX11_downOf_35 rfl (fun _ => ?_) (fun _ => ?_)
            · exact hj61 _
            · refine J_aload_n C 0 dX11_downOf_38 rfl ?_
              refine gf_64_19 C dX11_downOf_39 q_863 ?_
              refine J_nmR fun r_22 => ?_
              refine J_iload_n C 3 dX11_downOf_42 rfl ?_
              refine J_bind fun i_23 e_24 => ?_
              subst e_24
              refine J_g fun h_25 => ?_
              refine J_bald (t := 85) (N := 24) C (Nat.le_of_ble_eq_true rfl) rfl rfl h_25 dX11_downOf_43 ?_
              refine J_if_ne C 61 dX11_downOf_44 rfl (fun _ => ?_) (fun _ => ?_)
              · exact hj61 _
              · refine J_aload_n C 0 dX11_downOf_47 rfl ?_
                refine gf_64_20 C dX11_downOf_48 q_864 ?_
                refine J_nmR fun r_26 => ?_
                refine J_iload_n C 3 dX11_downOf_51 rfl ?_
                refine J_bind fun i_27 e_28 => ?_
                subst e_28
                refine J_g fun h_29 => ?_
                refine J_iald (t := 86) (N := 24) C (Nat.le_of_ble_eq_true rfl) rfl rfl h_29 dX11_downOf_52 ?_
                refine J_iload_n C 1 dX11_downOf_53 rfl ?_
                refine J_ic_ne C 61 dX11_downOf_54 rfl (fun _ => ?_) (fun _ => ?_)
                · exact hj61 _
                · refine J_iconst C dX11_downOf_57 (zi9 rfl rfl) ?_
                  refine J_goto C 62 dX11_downOf_58 rfl ?_
                  exact hj62 _ _
set_option maxHeartbeats 4000000 in
set_option maxRecDepth 20000 in
theorem kX11_downOf (nf : Nat) (s0 : zS) (i0 : Nat) (x1 : Int) : zCt zw yX11_downOf cX11_downOf 5 (some .int) 1 22 0 0 eI [.inr (64, some i0), .inl x1] s0 (fX11_downOf nf s0 i0 x1) := by
  refine zCt_on (own := RX11) (nm := "downOf") rfl rfl (by decide) (Nat.le_of_ble_eq_true rfl) fun K C => ?_
  show zJ zw 5 K _ 0 0 0 [(0, .inr (64, some i0)), (1, .inl x1)] [] s0 (fX11_downOf nf s0 i0 x1)
  unfold fX11_downOf
  refine J_bipush C dX11_downOf_0 (zi9 rfl rfl) (by decide) ?_
  refine J_istore_n (L' := [(0, .inr (64, some i0)), (1, .inl x1), (2, .inl (-9))]) C dX11_downOf_2 (Nat.le_of_ble_eq_true rfl) rfl ?_
  refine J_iconst C dX11_downOf_3 (zi9 rfl rfl) ?_
  refine J_istore_n (L' := [(0, .inr (64, some i0)), (1, .inl x1), (2, .inl (-9)), (3, .inl 0)]) C dX11_downOf_4 (Nat.le_of_ble_eq_true rfl) rfl ?_
  exact kX11_downOf_L5 C _ _ _ _ _ _
def fX11_onMany_L5 (o0 : Nat) (c1 : Int) (c2 : Int) : Nat → zS → Int → Int → Option (Int × zS)
  | 0, _, _, _ => none
  | n + 1, s0, x3, x4 =>
    if x4 < gI s0 64 o0 14 then (nm_ (gR s0 64 o0 16) fun (r_1 : Option Nat) => Option.bind r_1 fun i_2 => g_ ((0 : Int) ≤ x4 ∧ (x4 : Int) < 24) (nm_ (fun (s_5 : zS) (u_6 : Int) => nm_ (wr (x3 + u_6)) fun (x_7 : Int) => nm_ (wr (x4 + 1)) fun (x_8 : Int) => fX11_onMany_L5 o0 c1 c2 n s_5 x_7 x_8) fun (j53 : zS → Int → Option (Int × zS)) => nm_ (fun (s_9 : zS) => j53 s_9 0) fun (j52 : zS → Option (Int × zS)) => if gI s0 82 i_2 (Int.toNat (x4)) = 2 then (nm_ (gR s0 64 o0 17) fun (r_10 : Option Nat) => Option.bind r_10 fun i_11 => g_ ((0 : Int) ≤ x4 ∧ (x4 : Int) < 24) (if gI s0 83 i_11 (Int.toNat (x4)) = c1 then (nm_ (gR s0 64 o0 19) fun (r_14 : Option Nat) => Option.bind r_14 fun i_15 => g_ ((0 : Int) ≤ x4 ∧ (x4 : Int) < 24) (if gI s0 85 i_15 (Int.toNat (x4)) = c2 then (j53 s0 1) else (j52 s0))) else (j52 s0))) else (j52 s0))) else (some (x3, s0))
def fX11_onMany (nf : Nat) (s0 : zS) (i0 : Nat) (x1 : Int) (x2 : Int) : Option (Int × zS) :=
  fX11_onMany_L5 i0 x1 x2 nf s0 0 0
set_option maxHeartbeats 4000000 in
set_option maxRecDepth 20000 in
theorem kX11_onMany_L5 {K : zKx} (C : zC zw 5 K RX11 cX11_onMany "onMany" (some .int) 0 0 0 0)  (o0 : Nat) (c1 : Int) (c2 : Int) : ∀ (n : Nat) (s0 : zS) (x3 : Int) (x4 : Int), zJ zw 5 K (zQm zw eI 0 0 K) 0 0 5 [(0, .inr (64, some o0)), (1, .inl c1), (2, .inl c2), (3, .inl x3), (4, .inl x4)] [] s0 (fX11_onMany_L5 o0 c1 c2 n s0 x3 x4) := by
  intro n
  induction n with
  | zero => intro s0 x3 x4; exact J_none
  | succ n ih =>
    intro s0 x3 x4
    rw [fX11_onMany_L5]
    refine J_iload C 4 dX11_onMany_5 rfl ?_
    refine J_aload_n C 0 dX11_onMany_7 rfl ?_
    refine gf_64_14 C dX11_onMany_8 q_858 ?_
    refine J_ic_ge C 61 dX11_onMany_11 rfl (fun _ => ?_) (fun _ => ?_)
    · refine J_iload_n C 3 dX11_onMany_61 rfl ?_
      exact J_iret C dX11_onMany_62 (by decide) (by decide)
    · refine J_iload_n C 3 dX11_onMany_14 rfl ?_
      refine J_aload_n C 0 dX11_onMany_15 rfl ?_
      refine gf_64_16 C dX11_onMany_16 q_860 ?_
      refine J_nmR fun r_1 => ?_
      refine J_iload C 4 dX11_onMany_19 rfl ?_
      refine J_bind fun i_2 e_3 => ?_
      subst e_3
      refine J_g fun h_4 => ?_
      refine J_iald (t := 82) (N := 24) C (Nat.le_of_ble_eq_true rfl) rfl rfl h_4 dX11_onMany_21 ?_
      refine J_iconst C dX11_onMany_22 (zi9 rfl rfl) ?_
      refine J_join (fun j53 => ∀ (s_5 : zS) (u_6 : Int), zJ zw 5 K (zQm zw eI 0 0 K) 0 0 53 [(0, .inr (64, some o0)), (1, .inl c1), (2, .inl c2), (4, .inl x4)] [.inl u_6, .inl x3] s_5 (j53 s_5 u_6)) ?_ fun j53 hj53 => ?_
      · intro s_5 u_6
        refine J_iadd C dX11_onMany_53 ?_
        refine J_nm fun x_7 => ?_
        refine J_istore_n (L' := [(0, .inr (64, some o0)), (1, .inl c1), (2, .inl c2), (3, .inl x_7), (4, .inl x4)]) C dX11_onMany_54 (Nat.le_of_ble_eq_true rfl) rfl ?_
        refine J_iinc C 4 dX11_onMany_55 (zi9 rfl rfl) (Nat.le_of_ble_eq_true rfl) rfl fun x_8 => ?_
        refine J_goto C 5 dX11_onMany_58 rfl ?_
        exact ih _ _ _
      · refine J_join (fun j52 => ∀ (s_9 : zS), zJ zw 5 K (zQm zw eI 0 0 K) 0 0 52 [(0, .inr (64, some o0)), (1, .inl c1), (2, .inl c2), (4, .inl x4)] [.inl x3] s_9 (j52 s_9)) ?_ fun j52 hj52 => ?_
        · intro s_9
          refine J_iconst C dX11_onMany_52 (zi9 rfl rfl) ?_
          exact hj53 _ _
        · refine J_ic_ne C 52 dX11_onMany_23 rfl (fun _ => ?_) (fun _ => ?_)
          · refine J_loc (L' := [(0, .inr (64, some o0)), (1, .inl c1), (2, .inl c2), (4, .inl x4)]) [0, 1, 2, 4] rfl ?_
            exact hj52 _
          · refine J_aload_n C 0 dX11_onMany_26 rfl ?_
            refine gf_64_17 C dX11_onMany_27 q_861 ?_
            refine J_nmR fun r_10 => ?_
            refine J_iload C 4 dX11_onMany_30 rfl ?_
            refine J_bind fun i_11 e_12 => ?_
            subst e_12
            refine J_g fun h_13 => ?_
            refine J_iald (t := 83) (N := 24) C (Nat.le_of_ble_eq_true rfl) rfl rfl h_13 dX11_onMany_32 ?_
            refine J_iload_n C 1 dX11_onMany_33 rfl ?_
            refine J_ic_ne C 52 dX11_onMany_34 rfl (fun _ => ?_) (fun _ => ?_)
            · refine J_loc (L' := [(0, .inr (64, some o0)), (1, .inl c1), (2, .inl c2), (4, .inl x4)]) [0, 1, 2, 4] rfl ?_
              exact hj52 _
            · refine J_aload_n C 0 dX11_onMany_37 rfl ?_
              refine gf_64_19 C dX11_onMany_38 q_863 ?_
              refine J_nmR fun r_14 => ?_
              refine J_iload C 4 dX11_onMany_41 rfl ?_
              refine J_bind fun i_15 e_16 => ?_
              subst e_16
              refine J_g fun h_17 => ?_
              refine J_bald (t := 85) (N := 24) C (Nat.le_of_ble_eq_true rfl) rfl rfl h_17 dX11_onMany_43 ?_
              refine J_iload_n C 2 dX11_onMany_44 rfl ?_
              refine J_ic_ne C 52 dX11_onMany_45 rfl (fun _ => ?_) (fun _ => ?_)
              · refine J_loc (L' := [(0, .inr (64, some o0)), (1, .inl c1), (2, .inl c2), (4, .inl x4)]) [0, 1, 2, 4] rfl ?_
                exact hj52 _
              · refine J_iconst C dX11_onMany_48 (zi9 rfl rfl) ?_
                refine J_goto C 53 dX11_onMany_49 rfl ?_
                refine J_loc (L' := [(0, .inr (64, some o0)), (1, .inl c1), (2, .inl c2), (4, .inl x4)]) [0, 1, 2, 4] rfl ?_
                exact hj53 _ _
set_option maxHeartbeats 4000000 in
set_option maxRecDepth 20000 in
theorem kX11_onMany (nf : Nat) (s0 : zS) (i0 : Nat) (x1 : Int) (x2 : Int) : zCt zw yX11_onMany cX11_onMany 5 (some .int) 0 0 0 0 eI [.inr (64, some i0), .inl x1, .inl x2] s0 (fX11_onMany nf s0 i0 x1 x2) := by
  refine zCt_on (own := RX11) (nm := "onMany") rfl rfl (by decide) (Nat.le_of_ble_eq_true rfl) fun K C => ?_
  show zJ zw 5 K _ 0 0 0 [(0, .inr (64, some i0)), (1, .inl x1), (2, .inl x2)] [] s0 (fX11_onMany nf s0 i0 x1 x2)
  unfold fX11_onMany
  refine J_iconst C dX11_onMany_0 (zi9 rfl rfl) ?_
  refine J_istore_n (L' := [(0, .inr (64, some i0)), (1, .inl x1), (2, .inl x2), (3, .inl 0)]) C dX11_onMany_1 (Nat.le_of_ble_eq_true rfl) rfl ?_
  refine J_iconst C dX11_onMany_2 (zi9 rfl rfl) ?_
  refine J_istore (L' := [(0, .inr (64, some i0)), (1, .inl x1), (2, .inl x2), (3, .inl 0), (4, .inl 0)]) C dX11_onMany_3 (Nat.le_of_ble_eq_true rfl) rfl ?_
  exact kX11_onMany_L5 C _ _ _ _ _ _ _
def fX11_isClear (s0 : zS) (i0 : Nat) (x1 : Int) (x2 : Int) : Option (Int × zS) :=
  nm_ (gR s0 64 i0 12) fun (r_1 : Option Nat) => nm_ (fun (s_2 : zS) (u_3 : Int) => Option.bind r_1 fun i_4 => g_ ((0 : Int) ≤ wr ((wr (2 * x1)) + u_3) ∧ (wr ((wr (2 * x1)) + u_3) : Int) < 32) (nm_ (gI s_2 78 i_4 (Int.toNat (wr ((wr (2 * x1)) + u_3)))) fun (x_7 : Int) => if x_7 = (-9) then (some (1, s_2)) else (nm_ (gR s_2 64 i0 4) fun (r_8 : Option Nat) => Option.bind r_8 fun i_9 => g_ ((0 : Int) ≤ x1 ∧ (x1 : Int) < 16) (if wr ((gI s_2 64 i0 13) - x_7) < gI s_2 70 i_9 (Int.toNat (x1)) then (some (0, s_2)) else (some (1, s_2)))))) fun (j16 : zS → Int → Option (Int × zS)) => if x2 = 0 then (j16 s0 0) else (j16 s0 1)
set_option maxHeartbeats 4000000 in
set_option maxRecDepth 20000 in
theorem kX11_isClear (s0 : zS) (i0 : Nat) (x1 : Int) (x2 : Int) : zCt zw yX11_isClear cX11_isClear 4 (some .boolean) 0 0 0 0 eI [.inr (64, some i0), .inl x1, .inl x2] s0 (fX11_isClear s0 i0 x1 x2) := by
  refine zCt_on (own := RX11) (nm := "isClear") rfl rfl (by decide) (Nat.le_of_ble_eq_true rfl) fun K C => ?_
  show zJ zw 4 K _ 0 0 0 [(0, .inr (64, some i0)), (1, .inl x1), (2, .inl x2)] [] s0 (fX11_isClear s0 i0 x1 x2)
  unfold fX11_isClear
  refine J_aload_n C 0 dX11_isClear_0 rfl ?_
  refine gf_64_12 C dX11_isClear_1 q_856 ?_
  refine J_nmR fun r_1 => ?_
  refine J_iconst C dX11_isClear_4 (zi9 rfl rfl) ?_
  refine J_iload_n C 1 dX11_isClear_5 rfl ?_
  refine J_imul C dX11_isClear_6 ?_
  refine J_iload_n C 2 dX11_isClear_7 rfl ?_
  refine J_join (fun j16 => ∀ (s_2 : zS) (u_3 : Int), zJ zw 4 K (zQm zw eI 0 0 K) 0 0 16 [(0, .inr (64, some i0)), (1, .inl x1)] [.inl u_3, .inl (wr (2 * x1)), .inr (78, r_1)] s_2 (j16 s_2 u_3)) ?_ fun j16 hj16 => ?_
  · intro s_2 u_3
    refine J_iadd C dX11_isClear_16 ?_
    refine J_bind fun i_4 e_5 => ?_
    subst e_5
    refine J_g fun h_6 => ?_
    refine J_iald (t := 78) (N := 32) C (Nat.le_of_ble_eq_true rfl) rfl rfl h_6 dX11_isClear_17 ?_
    refine J_nm fun x_7 => ?_
    refine J_istore_n (L' := [(0, .inr (64, some i0)), (1, .inl x1), (3, .inl x_7)]) C dX11_isClear_18 (Nat.le_of_ble_eq_true rfl) rfl ?_
    refine J_iload_n C 2 dX11_isClear_19 rfl ?_
    refine J_bipush C dX11_isClear_20 (zi9 rfl rfl) (by decide) ?_
    refine J_ic_eq C 40 dX11_isClear_22 rfl (fun _ => ?_) (fun _ => ?_)
    · refine J_iconst C dX11_isClear_40 (zi9 rfl rfl) ?_
      refine J_goto C 45 dX11_isClear_41 rfl ?_
      exact J_zret C (by decide) dX11_isClear_45 (by decide) (by decide)
    · refine J_aload_n C 0 dX11_isClear_25 rfl ?_
      refine gf_64_13 C dX11_isClear_26 q_857 ?_
      refine J_iload_n C 2 dX11_isClear_29 rfl ?_
      refine J_isub C dX11_isClear_30 ?_
      refine J_aload_n C 0 dX11_isClear_31 rfl ?_
      refine gf_64_4 C dX11_isClear_32 q_848 ?_
      refine J_nmR fun r_8 => ?_
      refine J_iload_n C 1 dX11_isClear_35 rfl ?_
      refine J_bind fun i_9 e_10 => ?_
      subst e_10
      refine J_g fun h_11 => ?_
      refine J_iald (t := 70) (N := 16) C (Nat.le_of_ble_eq_true rfl) rfl rfl h_11 dX11_isClear_36 ?_
      refine J_ic_lt C 44 dX11_isClear_37 rfl (fun _ => ?_) (fun _ => ?_)
      · refine J_iconst C dX11_isClear_44 (zi9 rfl rfl) ?_
        exact J_zret C (by decide) dX11_isClear_45 (by decide) (by decide)
      · refine J_iconst C dX11_isClear_40 (zi9 rfl rfl) ?_
        refine J_goto C 45 dX11_isClear_41 rfl ?_
        exact J_zret C (by decide) dX11_isClear_45 (by decide) (by decide)
  · refine J_if_eq C 15 dX11_isClear_8 rfl (fun _ => ?_) (fun _ => ?_)
    · refine J_iconst C dX11_isClear_15 (zi9 rfl rfl) ?_
      refine J_loc (L' := [(0, .inr (64, some i0)), (1, .inl x1)]) [0, 1] rfl ?_
      exact hj16 _ _
    · refine J_iconst C dX11_isClear_11 (zi9 rfl rfl) ?_
      refine J_goto C 16 dX11_isClear_12 rfl ?_
      refine J_loc (L' := [(0, .inr (64, some i0)), (1, .inl x1)]) [0, 1] rfl ?_
      exact hj16 _ _
def fX11_isNear_L5 (o0 : Nat) (c1 : Int) (c2 : Int) : Nat → zS → Int → Int → Option (Int × zS)
  | 0, _, _, _ => none
  | n + 1, s0, x3, x4 =>
    if x4 < gI s0 64 o0 14 then (nm_ (fun (s_2 : zS) (u_3 : Int) => nm_ (wr (x4 + 1)) fun (x_4 : Int) => fX11_isNear_L5 o0 c1 c2 n s_2 u_3 x_4) fun (j72 : zS → Int → Option (Int × zS)) => nm_ (fun (s_5 : zS) => j72 s_5 1) fun (j67 : zS → Option (Int × zS)) => if x3 = 0 then (nm_ (gR s0 64 o0 16) fun (r_6 : Option Nat) => Option.bind r_6 fun i_7 => g_ ((0 : Int) ≤ x4 ∧ (x4 : Int) < 24) (nm_ (fun (s_10 : zS) => j72 s_10 0) fun (j71 : zS → Option (Int × zS)) => if gI s0 82 i_7 (Int.toNat (x4)) = 2 then (nm_ (gR s0 64 o0 17) fun (r_11 : Option Nat) => Option.bind r_11 fun i_12 => g_ ((0 : Int) ≤ x4 ∧ (x4 : Int) < 24) (if gI s0 83 i_12 (Int.toNat (x4)) = c1 then (nm_ (gR s0 64 o0 19) fun (r_15 : Option Nat) => Option.bind r_15 fun i_16 => g_ ((0 : Int) ≤ x4 ∧ (x4 : Int) < 24) (if gI s0 85 i_16 (Int.toNat (x4)) = c2 then (nm_ (gR s0 64 o0 43) fun (r_19 : Option Nat) => Option.bind r_19 fun i_20 => g_ ((0 : Int) ≤ x4 ∧ (x4 : Int) < 24) (nm_ (gR s0 64 o0 4) fun (r_23 : Option Nat) => Option.bind r_23 fun i_24 => g_ ((0 : Int) ≤ c1 ∧ (c1 : Int) < 16) (if gI s0 109 i_20 (Int.toNat (x4)) < gI s0 70 i_24 (Int.toNat (c1)) then (j67 s0) else (j71 s0)))) else (j71 s0))) else (j71 s0))) else (j71 s0))) else (j67 s0)) else (g_ (x3 = 0 ∨ x3 = 1) (some (x3, s0)))
def fX11_isNear (nf : Nat) (s0 : zS) (i0 : Nat) (x1 : Int) (x2 : Int) : Option (Int × zS) :=
  fX11_isNear_L5 i0 x1 x2 nf s0 0 0
set_option maxHeartbeats 4000000 in
set_option maxRecDepth 20000 in
theorem kX11_isNear_L5 {K : zKx} (C : zC zw 5 K RX11 cX11_isNear "isNear" (some .boolean) 0 0 0 0)  (o0 : Nat) (c1 : Int) (c2 : Int) : ∀ (n : Nat) (s0 : zS) (x3 : Int) (x4 : Int), zJ zw 5 K (zQm zw eI 0 0 K) 0 0 5 [(0, .inr (64, some o0)), (1, .inl c1), (2, .inl c2), (3, .inl x3), (4, .inl x4)] [] s0 (fX11_isNear_L5 o0 c1 c2 n s0 x3 x4) := by
  intro n
  induction n with
  | zero => intro s0 x3 x4; exact J_none
  | succ n ih =>
    intro s0 x3 x4
    rw [fX11_isNear_L5]
    refine J_iload C 4 dX11_isNear_5 rfl ?_
    refine J_aload_n C 0 dX11_isNear_7 rfl ?_
    refine gf_64_14 C dX11_isNear_8 q_858 ?_
    refine J_ic_ge C 79 dX11_isNear_11 rfl (fun _ => ?_) (fun _ => ?_)
    · refine J_iload_n C 3 dX11_isNear_79 rfl ?_
      refine J_g fun h_1 => ?_
      exact J_zret C h_1 dX11_isNear_80 (by decide) (by decide)
    · refine J_iload_n C 3 dX11_isNear_14 rfl ?_
      refine J_join (fun j72 => ∀ (s_2 : zS) (u_3 : Int), zJ zw 5 K (zQm zw eI 0 0 K) 0 0 72 [(0, .inr (64, some o0)), (1, .inl c1), (2, .inl c2), (4, .inl x4)] [.inl u_3] s_2 (j72 s_2 u_3)) ?_ fun j72 hj72 => ?_
      · intro s_2 u_3
        refine J_istore_n (L' := [(0, .inr (64, some o0)), (1, .inl c1), (2, .inl c2), (3, .inl u_3), (4, .inl x4)]) C dX11_isNear_72 (Nat.le_of_ble_eq_true rfl) rfl ?_
        refine J_iinc C 4 dX11_isNear_73 (zi9 rfl rfl) (Nat.le_of_ble_eq_true rfl) rfl fun x_4 => ?_
        refine J_goto C 5 dX11_isNear_76 rfl ?_
        exact ih _ _ _
      · refine J_join (fun j67 => ∀ (s_5 : zS), zJ zw 5 K (zQm zw eI 0 0 K) 0 0 67 [(0, .inr (64, some o0)), (1, .inl c1), (2, .inl c2), (4, .inl x4)] [] s_5 (j67 s_5)) ?_ fun j67 hj67 => ?_
        · intro s_5
          refine J_iconst C dX11_isNear_67 (zi9 rfl rfl) ?_
          refine J_goto C 72 dX11_isNear_68 rfl ?_
          exact hj72 _ _
        · refine J_if_ne C 67 dX11_isNear_15 rfl (fun _ => ?_) (fun _ => ?_)
          · refine J_loc (L' := [(0, .inr (64, some o0)), (1, .inl c1), (2, .inl c2), (4, .inl x4)]) [0, 1, 2, 4] rfl ?_
            exact hj67 _
          · refine J_aload_n C 0 dX11_isNear_18 rfl ?_
            refine gf_64_16 C dX11_isNear_19 q_860 ?_
            refine J_nmR fun r_6 => ?_
            refine J_iload C 4 dX11_isNear_22 rfl ?_
            refine J_bind fun i_7 e_8 => ?_
            subst e_8
            refine J_g fun h_9 => ?_
            refine J_iald (t := 82) (N := 24) C (Nat.le_of_ble_eq_true rfl) rfl rfl h_9 dX11_isNear_24 ?_
            refine J_iconst C dX11_isNear_25 (zi9 rfl rfl) ?_
            refine J_join (fun j71 => ∀ (s_10 : zS), zJ zw 5 K (zQm zw eI 0 0 K) 0 0 71 [(0, .inr (64, some o0)), (1, .inl c1), (2, .inl c2), (4, .inl x4)] [] s_10 (j71 s_10)) ?_ fun j71 hj71 => ?_
            · intro s_10
              refine J_iconst C dX11_isNear_71 (zi9 rfl rfl) ?_
              exact hj72 _ _
            · refine J_ic_ne C 71 dX11_isNear_26 rfl (fun _ => ?_) (fun _ => ?_)
              · refine J_loc (L' := [(0, .inr (64, some o0)), (1, .inl c1), (2, .inl c2), (4, .inl x4)]) [0, 1, 2, 4] rfl ?_
                exact hj71 _
              · refine J_aload_n C 0 dX11_isNear_29 rfl ?_
                refine gf_64_17 C dX11_isNear_30 q_861 ?_
                refine J_nmR fun r_11 => ?_
                refine J_iload C 4 dX11_isNear_33 rfl ?_
                refine J_bind fun i_12 e_13 => ?_
                subst e_13
                refine J_g fun h_14 => ?_
                refine J_iald (t := 83) (N := 24) C (Nat.le_of_ble_eq_true rfl) rfl rfl h_14 dX11_isNear_35 ?_
                refine J_iload_n C 1 dX11_isNear_36 rfl ?_
                refine J_ic_ne C 71 dX11_isNear_37 rfl (fun _ => ?_) (fun _ => ?_)
                · refine J_loc (L' := [(0, .inr (64, some o0)), (1, .inl c1), (2, .inl c2), (4, .inl x4)]) [0, 1, 2, 4] rfl ?_
                  exact hj71 _
                · refine J_aload_n C 0 dX11_isNear_40 rfl ?_
                  refine gf_64_19 C dX11_isNear_41 q_863 ?_
                  refine J_nmR fun r_15 => ?_
                  refine J_iload C 4 dX11_isNear_44 rfl ?_
                  refine J_bind fun i_16 e_17 => ?_
                  subst e_17
                  refine J_g fun h_18 => ?_
                  refine J_bald (t := 85) (N := 24) C (Nat.le_of_ble_eq_true rfl) rfl rfl h_18 dX11_isNear_46 ?_
                  refine J_iload_n C 2 dX11_isNear_47 rfl ?_
                  refine J_ic_ne C 71 dX11_isNear_48 rfl (fun _ => ?_) (fun _ => ?_)
                  · refine J_loc (L' := [(0, .inr (64, some o0)), (1, .inl c1), (2, .inl c2), (4, .inl x4)]) [0, 1, 2, 4] rfl ?_
                    exact hj71 _
                  · refine J_aload_n C 0 dX11_isNear_51 rfl ?_
                    refine gf_64_43 C dX11_isNear_52 q_887 ?_
                    refine J_nmR fun r_19 => ?_
                    refine J_iload C 4 dX11_isNear_55 rfl ?_
                    refine J_bind fun i_20 e_21 => ?_
                    subst e_21
                    refine J_g fun h_22 => ?_
                    refine J_iald (t := 109) (N := 24) C (Nat.le_of_ble_eq_true rfl) rfl rfl h_22 dX11_isNear_57 ?_
                    refine J_aload_n C 0 dX11_isNear_58 rfl ?_
                    refine gf_64_4 C dX11_isNear_59 q_848 ?_
                    refine J_nmR fun r_23 => ?_
                    refine J_iload_n C 1 dX11_isNear_62 rfl ?_
                    refine J_bind fun i_24 e_25 => ?_
                    subst e_25
                    refine J_g fun h_26 => ?_
                    refine J_iald (t := 70) (N := 16) C (Nat.le_of_ble_eq_true rfl) rfl rfl h_26 dX11_isNear_63 ?_
                    refine J_ic_ge C 71 dX11_isNear_64 rfl (fun _ => ?_) (fun _ => ?_)
                    · refine J_loc (L' := [(0, .inr (64, some o0)), (1, .inl c1), (2, .inl c2), (4, .inl x4)]) [0, 1, 2, 4] rfl ?_
                      exact hj71 _
                    · refine J_loc (L' := [(0, .inr (64, some o0)), (1, .inl c1), (2, .inl c2), (4, .inl x4)]) [0, 1, 2, 4] rfl ?_
                      exact hj67 _
set_option maxHeartbeats 4000000 in
set_option maxRecDepth 20000 in
theorem kX11_isNear (nf : Nat) (s0 : zS) (i0 : Nat) (x1 : Int) (x2 : Int) : zCt zw yX11_isNear cX11_isNear 5 (some .boolean) 0 0 0 0 eI [.inr (64, some i0), .inl x1, .inl x2] s0 (fX11_isNear nf s0 i0 x1 x2) := by
  refine zCt_on (own := RX11) (nm := "isNear") rfl rfl (by decide) (Nat.le_of_ble_eq_true rfl) fun K C => ?_
  show zJ zw 5 K _ 0 0 0 [(0, .inr (64, some i0)), (1, .inl x1), (2, .inl x2)] [] s0 (fX11_isNear nf s0 i0 x1 x2)
  unfold fX11_isNear
  refine J_iconst C dX11_isNear_0 (zi9 rfl rfl) ?_
  refine J_istore_n (L' := [(0, .inr (64, some i0)), (1, .inl x1), (2, .inl x2), (3, .inl 0)]) C dX11_isNear_1 (Nat.le_of_ble_eq_true rfl) rfl ?_
  refine J_iconst C dX11_isNear_2 (zi9 rfl rfl) ?_
  refine J_istore (L' := [(0, .inr (64, some i0)), (1, .inl x1), (2, .inl x2), (3, .inl 0), (4, .inl 0)]) C dX11_isNear_3 (Nat.le_of_ble_eq_true rfl) rfl ?_
  exact kX11_isNear_L5 C _ _ _ _ _ _ _
def fX11_letOn (s0 : zS) (i0 : Nat) (x1 : Int) (x2 : Int) (x3 : Int) : Option (Unit × zS) :=
  nm_ (fun (s_1 : zS) => nm_ (gR s_1 64 i0 16) fun (r_2 : Option Nat) => Option.bind r_2 fun i_3 => g_ ((0 : Int) ≤ x1 ∧ (x1 : Int) < 24) (up_ (sI s_1 82 i_3 (Int.toNat (x1)) 2) fun (s_6 : zS) => nm_ (gR s_6 64 i0 17) fun (r_7 : Option Nat) => Option.bind r_7 fun i_8 => g_ ((0 : Int) ≤ x1 ∧ (x1 : Int) < 24) (up_ (sI s_6 83 i_8 (Int.toNat (x1)) x2) fun (s_11 : zS) => nm_ (gR s_11 64 i0 43) fun (r_12 : Option Nat) => Option.bind r_12 fun i_13 => g_ ((0 : Int) ≤ x1 ∧ (x1 : Int) < 24) (up_ (sI s_11 109 i_13 (Int.toNat (x1)) 0) fun (s_16 : zS) => nm_ (gR s_16 64 i0 19) fun (r_17 : Option Nat) => Option.bind r_17 fun i_18 => g_ ((0 : Int) ≤ x1 ∧ (x1 : Int) < 24) (g_ (x3 = 0 ∨ x3 = 1) (up_ (sI s_16 85 i_18 (Int.toNat (x1)) x3) fun (s_21 : zS) => nm_ (gR s_21 64 i0 12) fun (r_22 : Option Nat) => if x3 = 0 then (Option.bind r_22 fun i_23 => g_ ((0 : Int) ≤ wr ((wr (2 * x2)) + 0) ∧ (wr ((wr (2 * x2)) + 0) : Int) < 32) (up_ (sI s_21 78 i_23 (Int.toNat (wr ((wr (2 * x2)) + 0))) (gI s_21 64 i0 13)) fun (s_26 : zS) => some ((), s_26))) else (Option.bind r_22 fun i_27 => g_ ((0 : Int) ≤ wr ((wr (2 * x2)) + 1) ∧ (wr ((wr (2 * x2)) + 1) : Int) < 32) (up_ (sI s_21 78 i_27 (Int.toNat (wr ((wr (2 * x2)) + 1))) (gI s_21 64 i0 13)) fun (s_30 : zS) => some ((), s_30))))))))) fun (j26 : zS → Option (Unit × zS)) => if x3 = 0 then (j26 s0) else (nm_ (gR s0 64 i0 2) fun (r_32 : Option Nat) => Option.bind r_32 fun i_33 => g_ ((0 : Int) ≤ x2 ∧ (x2 : Int) < 16) (if gI s0 68 i_33 (Int.toNat (x2)) = 1 then (nm_ (gR s0 64 i0 11) fun (r_36 : Option Nat) => nm_ (gR s0 64 i0 21) fun (r_37 : Option Nat) => Option.bind r_37 fun i_38 => g_ ((0 : Int) ≤ x1 ∧ (x1 : Int) < 24) (Option.bind r_36 fun i_41 => g_ ((0 : Int) ≤ x2 ∧ (x2 : Int) < 16) (up_ (sI s0 77 i_41 (Int.toNat (x2)) (gI s0 87 i_38 (Int.toNat (x1)))) fun (s_44 : zS) => j26 s_44))) else (j26 s0)))
set_option maxHeartbeats 4000000 in
set_option maxRecDepth 20000 in
theorem kX11_letOn (s0 : zS) (i0 : Nat) (x1 : Int) (x2 : Int) (x3 : Int) : zCt zw yX11_letOn cX11_letOn 4 none 0 0 0 0 eV [.inr (64, some i0), .inl x1, .inl x2, .inl x3] s0 (fX11_letOn s0 i0 x1 x2 x3) := by
  refine zCt_on (own := RX11) (nm := "letOn") rfl rfl (by decide) (Nat.le_of_ble_eq_true rfl) fun K C => ?_
  show zJ zw 4 K _ 0 0 0 [(0, .inr (64, some i0)), (1, .inl x1), (2, .inl x2), (3, .inl x3)] [] s0 (fX11_letOn s0 i0 x1 x2 x3)
  unfold fX11_letOn
  refine J_iload_n C 3 dX11_letOn_0 rfl ?_
  refine J_join (fun j26 => ∀ (s_1 : zS), zJ zw 4 K (zQm zw eV 0 0 K) 0 0 26 [(0, .inr (64, some i0)), (1, .inl x1), (2, .inl x2), (3, .inl x3)] [] s_1 (j26 s_1)) ?_ fun j26 hj26 => ?_
  · intro s_1
    refine J_aload_n C 0 dX11_letOn_26 rfl ?_
    refine gf_64_16 C dX11_letOn_27 q_860 ?_
    refine J_nmR fun r_2 => ?_
    refine J_iload_n C 1 dX11_letOn_30 rfl ?_
    refine J_iconst C dX11_letOn_31 (zi9 rfl rfl) ?_
    refine J_bind fun i_3 e_4 => ?_
    subst e_4
    refine J_g fun h_5 => ?_
    refine J_iast (t := 82) (N := 24) C (Nat.le_of_ble_eq_true rfl) rfl rfl h_5 dX11_letOn_32 fun s_6 => ?_
    refine J_aload_n C 0 dX11_letOn_33 rfl ?_
    refine gf_64_17 C dX11_letOn_34 q_861 ?_
    refine J_nmR fun r_7 => ?_
    refine J_iload_n C 1 dX11_letOn_37 rfl ?_
    refine J_iload_n C 2 dX11_letOn_38 rfl ?_
    refine J_bind fun i_8 e_9 => ?_
    subst e_9
    refine J_g fun h_10 => ?_
    refine J_iast (t := 83) (N := 24) C (Nat.le_of_ble_eq_true rfl) rfl rfl h_10 dX11_letOn_39 fun s_11 => ?_
    refine J_aload_n C 0 dX11_letOn_40 rfl ?_
    refine gf_64_43 C dX11_letOn_41 q_887 ?_
    refine J_nmR fun r_12 => ?_
    refine J_iload_n C 1 dX11_letOn_44 rfl ?_
    refine J_iconst C dX11_letOn_45 (zi9 rfl rfl) ?_
    refine J_bind fun i_13 e_14 => ?_
    subst e_14
    refine J_g fun h_15 => ?_
    refine J_iast (t := 109) (N := 24) C (Nat.le_of_ble_eq_true rfl) rfl rfl h_15 dX11_letOn_46 fun s_16 => ?_
    refine J_aload_n C 0 dX11_letOn_47 rfl ?_
    refine gf_64_19 C dX11_letOn_48 q_863 ?_
    refine J_nmR fun r_17 => ?_
    refine J_iload_n C 1 dX11_letOn_51 rfl ?_
    refine J_iload_n C 3 dX11_letOn_52 rfl ?_
    refine J_bind fun i_18 e_19 => ?_
    subst e_19
    refine J_g fun h_20 => ?_
    refine J_g fun h_31 => ?_
    refine J_bast (t := 85) (N := 24) C (Nat.le_of_ble_eq_true rfl) rfl rfl h_20 h_31 dX11_letOn_53 fun s_21 => ?_
    refine J_aload_n C 0 dX11_letOn_54 rfl ?_
    refine gf_64_12 C dX11_letOn_55 q_856 ?_
    refine J_nmR fun r_22 => ?_
    refine J_iconst C dX11_letOn_58 (zi9 rfl rfl) ?_
    refine J_iload_n C 2 dX11_letOn_59 rfl ?_
    refine J_imul C dX11_letOn_60 ?_
    refine J_iload_n C 3 dX11_letOn_61 rfl ?_
    refine J_if_eq C 69 dX11_letOn_62 rfl (fun _ => ?_) (fun _ => ?_)
    · refine J_iconst C dX11_letOn_69 (zi9 rfl rfl) ?_
      refine J_iadd C dX11_letOn_70 ?_
      refine J_aload_n C 0 dX11_letOn_71 rfl ?_
      refine gf_64_13 C dX11_letOn_72 q_857 ?_
      refine J_bind fun i_23 e_24 => ?_
      subst e_24
      refine J_g fun h_25 => ?_
      refine J_iast (t := 78) (N := 32) C (Nat.le_of_ble_eq_true rfl) rfl rfl h_25 dX11_letOn_75 fun s_26 => ?_
      exact J_vret C dX11_letOn_76 (by decide) (by decide)
    · refine J_iconst C dX11_letOn_65 (zi9 rfl rfl) ?_
      refine J_goto C 70 dX11_letOn_66 rfl ?_
      refine J_iadd C dX11_letOn_70 ?_
      refine J_aload_n C 0 dX11_letOn_71 rfl ?_
      refine gf_64_13 C dX11_letOn_72 q_857 ?_
      refine J_bind fun i_27 e_28 => ?_
      subst e_28
      refine J_g fun h_29 => ?_
      refine J_iast (t := 78) (N := 32) C (Nat.le_of_ble_eq_true rfl) rfl rfl h_29 dX11_letOn_75 fun s_30 => ?_
      exact J_vret C dX11_letOn_76 (by decide) (by decide)
  · refine J_if_eq C 26 dX11_letOn_1 rfl (fun _ => ?_) (fun _ => ?_)
    · exact hj26 _
    · refine J_aload_n C 0 dX11_letOn_4 rfl ?_
      refine gf_64_2 C dX11_letOn_5 q_846 ?_
      refine J_nmR fun r_32 => ?_
      refine J_iload_n C 2 dX11_letOn_8 rfl ?_
      refine J_bind fun i_33 e_34 => ?_
      subst e_34
      refine J_g fun h_35 => ?_
      refine J_iald (t := 68) (N := 16) C (Nat.le_of_ble_eq_true rfl) rfl rfl h_35 dX11_letOn_9 ?_
      refine J_iconst C dX11_letOn_10 (zi9 rfl rfl) ?_
      refine J_ic_ne C 26 dX11_letOn_11 rfl (fun _ => ?_) (fun _ => ?_)
      · exact hj26 _
      · refine J_aload_n C 0 dX11_letOn_14 rfl ?_
        refine gf_64_11 C dX11_letOn_15 q_855 ?_
        refine J_nmR fun r_36 => ?_
        refine J_iload_n C 2 dX11_letOn_18 rfl ?_
        refine J_aload_n C 0 dX11_letOn_19 rfl ?_
        refine gf_64_21 C dX11_letOn_20 q_865 ?_
        refine J_nmR fun r_37 => ?_
        refine J_iload_n C 1 dX11_letOn_23 rfl ?_
        refine J_bind fun i_38 e_39 => ?_
        subst e_39
        refine J_g fun h_40 => ?_
        refine J_iald (t := 87) (N := 24) C (Nat.le_of_ble_eq_true rfl) rfl rfl h_40 dX11_letOn_24 ?_
        refine J_bind fun i_41 e_42 => ?_
        subst e_42
        refine J_g fun h_43 => ?_
        refine J_iast (t := 77) (N := 16) C (Nat.le_of_ble_eq_true rfl) rfl rfl h_43 dX11_letOn_25 fun s_44 => ?_
        exact hj26 _
def fX11_letAll_L2 (o0 : Nat) (nf : Nat) : Nat → zS → Int → Option (Unit × zS)
  | 0, _, _ => none
  | n + 1, s0, x1 =>
    if x1 < gI s0 64 o0 0 then (nm_ (gR s0 64 o0 6) fun (r_1 : Option Nat) => Option.bind r_1 fun i_2 => g_ ((0 : Int) ≤ x1 ∧ (x1 : Int) < 16) (nm_ (fun (s_5 : zS) (u_6 : Int) => nm_ (gR s_5 64 o0 6) fun (r_7 : Option Nat) => Option.bind r_7 fun i_8 => g_ ((0 : Int) ≤ x1 ∧ (x1 : Int) < 16) (nm_ (fun (s_11 : zS) (u_12 : Int) => nm_ (gR s_11 64 o0 5) fun (r_13 : Option Nat) => Option.bind r_13 fun i_14 => g_ ((0 : Int) ≤ x1 ∧ (x1 : Int) < 16) (nm_ (fun (s_17 : zS) (y_18 : Int) (y_19 : Int) => nm_ (fun (s_20 : zS) => nm_ (fun (s_21 : zS) => nm_ (wr (x1 + 1)) fun (x_22 : Int) => fX11_letAll_L2 o0 nf n s_21 x_22) fun (j263 : zS → Option (Unit × zS)) => if y_19 = (-9) then (j263 s_20) else (cl_ (fX11_letOn s_20 o0 y_19 x1 0) fun (_ : Unit) (s_23 : zS) => j263 s_23)) fun (j250 : zS → Option (Unit × zS)) => if y_18 = (-9) then (j250 s_17) else (cl_ (fX11_letOn s_17 o0 y_18 x1 1) fun (_ : Unit) (s_24 : zS) => j250 s_24)) fun (j237 : zS → Int → Int → Option (Unit × zS)) => if gI s_11 71 i_14 (Int.toNat (x1)) = 0 then (cl_ (fX11_isClear s_11 o0 x1 1) fun (x_26 : Int) (s_25 : zS) => nm_ (fun (s_27 : zS) (u_28 : Int) => nm_ (fun (s_29 : zS) (u_30 : Int) => nm_ (fun (s_31 : zS) (u_32 : Int) => if u_30 = (-9) then (j237 s_31 u_30 u_32) else (if u_32 = (-9) then (j237 s_31 u_30 u_32) else (nm_ (gR s_31 64 o0 18) fun (r_33 : Option Nat) => Option.bind r_33 fun i_34 => g_ ((0 : Int) ≤ u_30 ∧ (u_30 : Int) < 24) (nm_ (gR s_31 64 o0 18) fun (r_37 : Option Nat) => Option.bind r_37 fun i_38 => g_ ((0 : Int) ≤ u_32 ∧ (u_32 : Int) < 24) (nm_ (fun (s_41 : zS) (u_42 : Int) => nm_ (fun (s_43 : zS) (u_44 : Int) => nm_ (fun (s_45 : zS) (u_46 : Int) => j237 s_45 u_46 u_44) fun (j236 : zS → Int → Option (Unit × zS)) => if u_42 = 0 then (j236 s_43 (-9)) else (j236 s_43 u_30)) fun (j224 : zS → Int → Option (Unit × zS)) => if u_42 = 0 then (j224 s_41 u_32) else (j224 s_41 (-9))) fun (j211 : zS → Int → Option (Unit × zS)) => if gI s_31 84 i_38 (Int.toNat (u_32)) < gI s_31 84 i_34 (Int.toNat (u_30)) then (j211 s_31 0) else (j211 s_31 1)))))) fun (j178 : zS → Int → Option (Unit × zS)) => nm_ (fun (s_47 : zS) => j178 s_47 (-9)) fun (j176 : zS → Option (Unit × zS)) => if u_28 = 0 then (j176 s_29) else (cl_ (fX11_onMany nf s_29 o0 x1 1) fun (x_49 : Int) (s_48 : zS) => if x_49 = 0 then (j178 s_48 u_12) else (j176 s_48))) fun (j157 : zS → Int → Option (Unit × zS)) => nm_ (fun (s_50 : zS) => j157 s_50 (-9)) fun (j155 : zS → Option (Unit × zS)) => if u_28 = 0 then (j155 s_27) else (cl_ (fX11_onMany nf s_27 o0 x1 0) fun (x_52 : Int) (s_51 : zS) => if x_52 = 0 then (j157 s_51 u_6) else (j155 s_51))) fun (j135 : zS → Int → Option (Unit × zS)) => nm_ (fun (s_53 : zS) => j135 s_53 0) fun (j134 : zS → Option (Unit × zS)) => if x_26 = 0 then (j134 s_25) else (cl_ (fX11_isClear s_25 o0 x1 0) fun (x_55 : Int) (s_54 : zS) => if x_55 = 0 then (j134 s_54) else (j135 s_54 1))) else (cl_ (fX11_isClear s_11 o0 x1 1) fun (x_57 : Int) (s_56 : zS) => nm_ (fun (s_58 : zS) (u_59 : Int) => cl_ (fX11_isClear s_58 o0 x1 0) fun (x_61 : Int) (s_60 : zS) => nm_ (fun (s_62 : zS) (u_63 : Int) => j237 s_62 u_59 u_63) fun (j108 : zS → Int → Option (Unit × zS)) => if x_61 = 0 then (j108 s_60 (-9)) else (j108 s_60 u_12)) fun (j92 : zS → Int → Option (Unit × zS)) => if x_57 = 0 then (j92 s_56 (-9)) else (j92 s_56 u_6)))) fun (j67 : zS → Int → Option (Unit × zS)) => nm_ (fun (s_64 : zS) => j67 s_64 (-9)) fun (j57 : zS → Option (Unit × zS)) => if gI s_5 72 i_8 (Int.toNat (x1)) = 0 then (cl_ (fX11_isNear nf s_5 o0 x1 0) fun (x_66 : Int) (s_65 : zS) => if x_66 = 0 then (cl_ (fX11_downOf nf s_65 o0 x1) fun (x_68 : Int) (s_67 : zS) => j67 s_67 x_68) else (j57 s_65)) else (j57 s_5))) fun (j38 : zS → Int → Option (Unit × zS)) => nm_ (fun (s_69 : zS) => j38 s_69 (-9)) fun (j28 : zS → Option (Unit × zS)) => if gI s0 72 i_2 (Int.toNat (x1)) = 0 then (cl_ (fX11_isNear nf s0 o0 x1 1) fun (x_71 : Int) (s_70 : zS) => if x_71 = 0 then (cl_ (fX11_upOf nf s_70 o0 x1) fun (x_73 : Int) (s_72 : zS) => j38 s_72 x_73) else (j28 s_70)) else (j28 s0))) else (some ((), s0))
def fX11_letAll (nf : Nat) (s0 : zS) (i0 : Nat) : Option (Unit × zS) :=
  fX11_letAll_L2 i0 nf nf s0 1
set_option maxHeartbeats 4000000 in
set_option maxRecDepth 20000 in
theorem kX11_letAll_L2 {K : zKx} (C : zC zw 6 K RX11 cX11_letAll "letAll" none 3 71 0 0)  (nf : Nat) (o0 : Nat) : ∀ (n : Nat) (s0 : zS) (x1 : Int), zJ zw 6 K (zQm zw eV 0 0 K) 0 0 2 [(0, .inr (64, some o0)), (1, .inl x1)] [] s0 (fX11_letAll_L2 o0 nf n s0 x1) := by
  intro n
  induction n with
  | zero => intro s0 x1; exact J_none
  | succ n ih =>
    intro s0 x1
    rw [fX11_letAll_L2]
    refine J_iload_n C 1 dX11_letAll_2 rfl ?_
    refine J_aload_n C 0 dX11_letAll_3 rfl ?_
    refine gf_64_0 C dX11_letAll_4 q_844 ?_
    refine J_ic_ge C 269 dX11_letAll_7 rfl (fun _ => ?_) (fun _ => ?_)
    · exact J_vret C dX11_letAll_269 (by decide) (by decide)
    · refine J_aload_n C 0 dX11_letAll_10 rfl ?_
      refine gf_64_6 C dX11_letAll_11 q_850 ?_
      refine J_nmR fun r_1 => ?_
      refine J_iload_n C 1 dX11_letAll_14 rfl ?_
      refine J_bind fun i_2 e_3 => ?_
      subst e_3
      refine J_g fun h_4 => ?_
      refine J_bald (t := 72) (N := 16) C (Nat.le_of_ble_eq_true rfl) rfl rfl h_4 dX11_letAll_15 ?_
      refine J_join (fun j38 => ∀ (s_5 : zS) (u_6 : Int), zJ zw 6 K (zQm zw eV 0 0 K) 0 0 38 [(0, .inr (64, some o0)), (1, .inl x1)] [.inl u_6] s_5 (j38 s_5 u_6)) ?_ fun j38 hj38 => ?_
      · intro s_5 u_6
        refine J_istore_n (L' := [(0, .inr (64, some o0)), (1, .inl x1), (2, .inl u_6)]) C dX11_letAll_38 (Nat.le_of_ble_eq_true rfl) rfl ?_
        refine J_aload_n C 0 dX11_letAll_39 rfl ?_
        refine gf_64_6 C dX11_letAll_40 q_850 ?_
        refine J_nmR fun r_7 => ?_
        refine J_iload_n C 1 dX11_letAll_43 rfl ?_
        refine J_bind fun i_8 e_9 => ?_
        subst e_9
        refine J_g fun h_10 => ?_
        refine J_bald (t := 72) (N := 16) C (Nat.le_of_ble_eq_true rfl) rfl rfl h_10 dX11_letAll_44 ?_
        refine J_join (fun j67 => ∀ (s_11 : zS) (u_12 : Int), zJ zw 6 K (zQm zw eV 0 0 K) 0 0 67 [(0, .inr (64, some o0)), (1, .inl x1), (2, .inl u_6)] [.inl u_12] s_11 (j67 s_11 u_12)) ?_ fun j67 hj67 => ?_
        · intro s_11 u_12
          refine J_istore_n (L' := [(0, .inr (64, some o0)), (1, .inl x1), (2, .inl u_6), (3, .inl u_12)]) C dX11_letAll_67 (Nat.le_of_ble_eq_true rfl) rfl ?_
          refine J_aload_n C 0 dX11_letAll_68 rfl ?_
          refine gf_64_5 C dX11_letAll_69 q_849 ?_
          refine J_nmR fun r_13 => ?_
          refine J_iload_n C 1 dX11_letAll_72 rfl ?_
          refine J_bind fun i_14 e_15 => ?_
          subst e_15
          refine J_g fun h_16 => ?_
          refine J_bald (t := 71) (N := 16) C (Nat.le_of_ble_eq_true rfl) rfl rfl h_16 dX11_letAll_73 ?_
          refine J_join (fun j237 => ∀ (s_17 : zS) (y_18 : Int) (y_19 : Int), zJ zw 6 K (zQm zw eV 0 0 K) 0 0 237 [(0, .inr (64, some o0)), (1, .inl x1), (2, .inl y_18), (3, .inl y_19)] [] s_17 (j237 s_17 y_18 y_19)) ?_ fun j237 hj237 => ?_
          · intro s_17 y_18 y_19
            refine J_iload_n C 2 dX11_letAll_237 rfl ?_
            refine J_bipush C dX11_letAll_238 (zi9 rfl rfl) (by decide) ?_
            refine J_join (fun j250 => ∀ (s_20 : zS), zJ zw 6 K (zQm zw eV 0 0 K) 0 0 250 [(0, .inr (64, some o0)), (1, .inl x1), (3, .inl y_19)] [] s_20 (j250 s_20)) ?_ fun j250 hj250 => ?_
            · intro s_20
              refine J_iload_n C 2 dX11_letAll_250 rfl ?_
              refine J_bipush C dX11_letAll_251 (zi9 rfl rfl) (by decide) ?_
              refine J_join (fun j263 => ∀ (s_21 : zS), zJ zw 6 K (zQm zw eV 0 0 K) 0 0 263 [(0, .inr (64, some o0)), (1, .inl x1)] [] s_21 (j263 s_21)) ?_ fun j263 hj263 => ?_
              · intro s_21
                refine J_iinc C 1 dX11_letAll_263 (zi9 rfl rfl) (Nat.le_of_ble_eq_true rfl) rfl fun x_22 => ?_
                refine J_goto C 2 dX11_letAll_266 rfl ?_
                exact ih _ _
              · refine J_ic_eq C 263 dX11_letAll_253 rfl (fun _ => ?_) (fun _ => ?_)
                · refine J_loc (L' := [(0, .inr (64, some o0)), (1, .inl x1)]) [0, 1] rfl ?_
                  exact hj263 _
                · refine J_aload_n C 0 dX11_letAll_256 rfl ?_
                  refine J_iload_n C 2 dX11_letAll_257 rfl ?_
                  refine J_iload_n C 1 dX11_letAll_258 rfl ?_
                  refine J_iconst C dX11_letAll_259 (zi9 rfl rfl) ?_
                  refine J_callVV (S := []) (avs := [.inl y_19, .inl x1, .inl 0]) C zx64 yw_113 rfl (kX11_letOn _ _ _ _ _) dX11_letAll_260 rfl (Nat.le_of_ble_eq_true rfl) (by decide) fun _ s_23 => ?_
                  refine J_loc (L' := [(0, .inr (64, some o0)), (1, .inl x1)]) [0, 1] rfl ?_
                  exact hj263 _
            · refine J_ic_eq C 250 dX11_letAll_240 rfl (fun _ => ?_) (fun _ => ?_)
              · refine J_loc (L' := [(0, .inr (64, some o0)), (1, .inl x1), (3, .inl y_19)]) [0, 1, 3] rfl ?_
                exact hj250 _
              · refine J_aload_n C 0 dX11_letAll_243 rfl ?_
                refine J_iload_n C 2 dX11_letAll_244 rfl ?_
                refine J_iload_n C 1 dX11_letAll_245 rfl ?_
                refine J_iconst C dX11_letAll_246 (zi9 rfl rfl) ?_
                refine J_callVV (S := []) (avs := [.inl y_18, .inl x1, .inl 1]) C zx64 yw_113 rfl (kX11_letOn _ _ _ _ _) dX11_letAll_247 rfl (Nat.le_of_ble_eq_true rfl) (by decide) fun _ s_24 => ?_
                refine J_loc (L' := [(0, .inr (64, some o0)), (1, .inl x1), (3, .inl y_19)]) [0, 1, 3] rfl ?_
                exact hj250 _
          · refine J_if_eq C 112 dX11_letAll_74 rfl (fun _ => ?_) (fun _ => ?_)
            · refine J_aload_n C 0 dX11_letAll_112 rfl ?_
              refine J_iload_n C 1 dX11_letAll_113 rfl ?_
              refine J_iconst C dX11_letAll_114 (zi9 rfl rfl) ?_
              refine J_callVI (S := []) (avs := [.inl x1, .inl 1]) C zx64 yw_115 rfl (kX11_isClear _ _ _ _) dX11_letAll_115 rfl (Nat.le_of_ble_eq_true rfl) (by decide) fun x_26 s_25 => ?_
              refine J_join (fun j135 => ∀ (s_27 : zS) (u_28 : Int), zJ zw 6 K (zQm zw eV 0 0 K) 0 0 135 [(0, .inr (64, some o0)), (1, .inl x1), (2, .inl u_6), (3, .inl u_12)] [.inl u_28] s_27 (j135 s_27 u_28)) ?_ fun j135 hj135 => ?_
              · intro s_27 u_28
                refine J_istore (L' := [(0, .inr (64, some o0)), (1, .inl x1), (2, .inl u_6), (3, .inl u_12), (4, .inl u_28)]) C dX11_letAll_135 (Nat.le_of_ble_eq_true rfl) rfl ?_
                refine J_iload C 4 dX11_letAll_137 rfl ?_
                refine J_join (fun j157 => ∀ (s_29 : zS) (u_30 : Int), zJ zw 6 K (zQm zw eV 0 0 K) 0 0 157 [(0, .inr (64, some o0)), (1, .inl x1), (3, .inl u_12), (4, .inl u_28)] [.inl u_30] s_29 (j157 s_29 u_30)) ?_ fun j157 hj157 => ?_
                · intro s_29 u_30
                  refine J_istore_n (L' := [(0, .inr (64, some o0)), (1, .inl x1), (2, .inl u_30), (3, .inl u_12), (4, .inl u_28)]) C dX11_letAll_157 (Nat.le_of_ble_eq_true rfl) rfl ?_
                  refine J_iload C 4 dX11_letAll_158 rfl ?_
                  refine J_join (fun j178 => ∀ (s_31 : zS) (u_32 : Int), zJ zw 6 K (zQm zw eV 0 0 K) 0 0 178 [(0, .inr (64, some o0)), (1, .inl x1), (2, .inl u_30)] [.inl u_32] s_31 (j178 s_31 u_32)) ?_ fun j178 hj178 => ?_
                  · intro s_31 u_32
                    refine J_istore_n (L' := [(0, .inr (64, some o0)), (1, .inl x1), (2, .inl u_30), (3, .inl u_32)]) C dX11_letAll_178 (Nat.le_of_ble_eq_true rfl) rfl ?_
                    refine J_iload_n C 2 dX11_letAll_179 rfl ?_
                    refine J_bipush C dX11_letAll_180 (zi9 rfl rfl) (by decide) ?_
                    refine J_ic_eq C 237 dX11_letAll_182 rfl (fun _ => ?_) (fun _ => ?_)
                    · exact hj237 _ _ _
                    · refine J_iload_n C 3 dX11_letAll_185 rfl ?_
                      refine J_bipush C dX11_letAll_186 (zi9 rfl rfl) (by decide) ?_
                      refine J_ic_eq C 237 dX11_letAll_188 rfl (fun _ => ?_) (fun _ => ?_)
                      · exact hj237 _ _ _
                      · refine J_aload_n C 0 dX11_letAll_191 rfl ?_
                        refine gf_64_18 C dX11_letAll_192 q_862 ?_
                        refine J_nmR fun r_33 => ?_
                        refine J_iload_n C 2 dX11_letAll_195 rfl ?_
                        refine J_bind fun i_34 e_35 => ?_
                        subst e_35
                        refine J_g fun h_36 => ?_
                        refine J_iald (t := 84) (N := 24) C (Nat.le_of_ble_eq_true rfl) rfl rfl h_36 dX11_letAll_196 ?_
                        refine J_aload_n C 0 dX11_letAll_197 rfl ?_
                        refine gf_64_18 C dX11_letAll_198 q_862 ?_
                        refine J_nmR fun r_37 => ?_
                        refine J_iload_n C 3 dX11_letAll_201 rfl ?_
                        refine J_bind fun i_38 e_39 => ?_
                        subst e_39
                        refine J_g fun h_40 => ?_
                        refine J_iald (t := 84) (N := 24) C (Nat.le_of_ble_eq_true rfl) rfl rfl h_40 dX11_letAll_202 ?_
                        refine J_join (fun j211 => ∀ (s_41 : zS) (u_42 : Int), zJ zw 6 K (zQm zw eV 0 0 K) 0 0 211 [(0, .inr (64, some o0)), (1, .inl x1), (2, .inl u_30), (3, .inl u_32)] [.inl u_42] s_41 (j211 s_41 u_42)) ?_ fun j211 hj211 => ?_
                        · intro s_41 u_42
                          refine J_istore (L' := [(0, .inr (64, some o0)), (1, .inl x1), (2, .inl u_30), (3, .inl u_32), (5, .inl u_42)]) C dX11_letAll_211 (Nat.le_of_ble_eq_true rfl) rfl ?_
                          refine J_iload C 4 dX11_letAll_213 rfl ?_
                          refine J_join (fun j224 => ∀ (s_43 : zS) (u_44 : Int), zJ zw 6 K (zQm zw eV 0 0 K) 0 0 224 [(0, .inr (64, some o0)), (1, .inl x1), (2, .inl u_30), (5, .inl u_42)] [.inl u_44] s_43 (j224 s_43 u_44)) ?_ fun j224 hj224 => ?_
                          · intro s_43 u_44
                            refine J_istore_n (L' := [(0, .inr (64, some o0)), (1, .inl x1), (2, .inl u_30), (3, .inl u_44), (5, .inl u_42)]) C dX11_letAll_224 (Nat.le_of_ble_eq_true rfl) rfl ?_
                            refine J_iload C 4 dX11_letAll_225 rfl ?_
                            refine J_join (fun j236 => ∀ (s_45 : zS) (u_46 : Int), zJ zw 6 K (zQm zw eV 0 0 K) 0 0 236 [(0, .inr (64, some o0)), (1, .inl x1), (3, .inl u_44)] [.inl u_46] s_45 (j236 s_45 u_46)) ?_ fun j236 hj236 => ?_
                            · intro s_45 u_46
                              refine J_istore_n (L' := [(0, .inr (64, some o0)), (1, .inl x1), (2, .inl u_46), (3, .inl u_44)]) C dX11_letAll_236 (Nat.le_of_ble_eq_true rfl) rfl ?_
                              exact hj237 _ _ _
                            · refine J_if_eq C 234 dX11_letAll_227 rfl (fun _ => ?_) (fun _ => ?_)
                              · refine J_bipush C dX11_letAll_234 (zi9 rfl rfl) (by decide) ?_
                                refine J_loc (L' := [(0, .inr (64, some o0)), (1, .inl x1), (3, .inl u_44)]) [0, 1, 3] rfl ?_
                                exact hj236 _ _
                              · refine J_iload_n C 2 dX11_letAll_230 rfl ?_
                                refine J_goto C 236 dX11_letAll_231 rfl ?_
                                refine J_loc (L' := [(0, .inr (64, some o0)), (1, .inl x1), (3, .inl u_44)]) [0, 1, 3] rfl ?_
                                exact hj236 _ _
                          · refine J_if_eq C 223 dX11_letAll_215 rfl (fun _ => ?_) (fun _ => ?_)
                            · refine J_iload_n C 3 dX11_letAll_223 rfl ?_
                              refine J_loc (L' := [(0, .inr (64, some o0)), (1, .inl x1), (2, .inl u_30), (5, .inl u_42)]) [0, 1, 2, 4] rfl ?_
                              exact hj224 _ _
                            · refine J_bipush C dX11_letAll_218 (zi9 rfl rfl) (by decide) ?_
                              refine J_goto C 224 dX11_letAll_220 rfl ?_
                              refine J_loc (L' := [(0, .inr (64, some o0)), (1, .inl x1), (2, .inl u_30), (5, .inl u_42)]) [0, 1, 2, 4] rfl ?_
                              exact hj224 _ _
                        · refine J_ic_gt C 210 dX11_letAll_203 rfl (fun _ => ?_) (fun _ => ?_)
                          · refine J_iconst C dX11_letAll_210 (zi9 rfl rfl) ?_
                            exact hj211 _ _
                          · refine J_iconst C dX11_letAll_206 (zi9 rfl rfl) ?_
                            refine J_goto C 211 dX11_letAll_207 rfl ?_
                            exact hj211 _ _
                  · refine J_join (fun j176 => ∀ (s_47 : zS), zJ zw 6 K (zQm zw eV 0 0 K) 0 0 176 [(0, .inr (64, some o0)), (1, .inl x1), (2, .inl u_30)] [] s_47 (j176 s_47)) ?_ fun j176 hj176 => ?_
                    · intro s_47
                      refine J_bipush C dX11_letAll_176 (zi9 rfl rfl) (by decide) ?_
                      exact hj178 _ _
                    · refine J_if_eq C 176 dX11_letAll_160 rfl (fun _ => ?_) (fun _ => ?_)
                      · refine J_loc (L' := [(0, .inr (64, some o0)), (1, .inl x1), (2, .inl u_30)]) [0, 1, 2] rfl ?_
                        exact hj176 _
                      · refine J_aload_n C 0 dX11_letAll_163 rfl ?_
                        refine J_iload_n C 1 dX11_letAll_164 rfl ?_
                        refine J_iconst C dX11_letAll_165 (zi9 rfl rfl) ?_
                        refine J_callVI (S := []) (avs := [.inl x1, .inl 1]) C zx64 yw_114 rfl (kX11_onMany _ _ _ _ _) dX11_letAll_166 rfl (Nat.le_of_ble_eq_true rfl) (by decide) fun x_49 s_48 => ?_
                        refine J_if_ne C 176 dX11_letAll_169 rfl (fun _ => ?_) (fun _ => ?_)
                        · refine J_loc (L' := [(0, .inr (64, some o0)), (1, .inl x1), (2, .inl u_30)]) [0, 1, 2] rfl ?_
                          exact hj176 _
                        · refine J_iload_n C 3 dX11_letAll_172 rfl ?_
                          refine J_goto C 178 dX11_letAll_173 rfl ?_
                          refine J_loc (L' := [(0, .inr (64, some o0)), (1, .inl x1), (2, .inl u_30)]) [0, 1, 2] rfl ?_
                          exact hj178 _ _
                · refine J_join (fun j155 => ∀ (s_50 : zS), zJ zw 6 K (zQm zw eV 0 0 K) 0 0 155 [(0, .inr (64, some o0)), (1, .inl x1), (3, .inl u_12), (4, .inl u_28)] [] s_50 (j155 s_50)) ?_ fun j155 hj155 => ?_
                  · intro s_50
                    refine J_bipush C dX11_letAll_155 (zi9 rfl rfl) (by decide) ?_
                    exact hj157 _ _
                  · refine J_if_eq C 155 dX11_letAll_139 rfl (fun _ => ?_) (fun _ => ?_)
                    · refine J_loc (L' := [(0, .inr (64, some o0)), (1, .inl x1), (3, .inl u_12), (4, .inl u_28)]) [0, 1, 3, 4] rfl ?_
                      exact hj155 _
                    · refine J_aload_n C 0 dX11_letAll_142 rfl ?_
                      refine J_iload_n C 1 dX11_letAll_143 rfl ?_
                      refine J_iconst C dX11_letAll_144 (zi9 rfl rfl) ?_
                      refine J_callVI (S := []) (avs := [.inl x1, .inl 0]) C zx64 yw_114 rfl (kX11_onMany _ _ _ _ _) dX11_letAll_145 rfl (Nat.le_of_ble_eq_true rfl) (by decide) fun x_52 s_51 => ?_
                      refine J_if_ne C 155 dX11_letAll_148 rfl (fun _ => ?_) (fun _ => ?_)
                      · refine J_loc (L' := [(0, .inr (64, some o0)), (1, .inl x1), (3, .inl u_12), (4, .inl u_28)]) [0, 1, 3, 4] rfl ?_
                        exact hj155 _
                      · refine J_iload_n C 2 dX11_letAll_151 rfl ?_
                        refine J_goto C 157 dX11_letAll_152 rfl ?_
                        refine J_loc (L' := [(0, .inr (64, some o0)), (1, .inl x1), (3, .inl u_12), (4, .inl u_28)]) [0, 1, 3, 4] rfl ?_
                        exact hj157 _ _
              · refine J_join (fun j134 => ∀ (s_53 : zS), zJ zw 6 K (zQm zw eV 0 0 K) 0 0 134 [(0, .inr (64, some o0)), (1, .inl x1), (2, .inl u_6), (3, .inl u_12)] [] s_53 (j134 s_53)) ?_ fun j134 hj134 => ?_
                · intro s_53
                  refine J_iconst C dX11_letAll_134 (zi9 rfl rfl) ?_
                  exact hj135 _ _
                · refine J_if_eq C 134 dX11_letAll_118 rfl (fun _ => ?_) (fun _ => ?_)
                  · exact hj134 _
                  · refine J_aload_n C 0 dX11_letAll_121 rfl ?_
                    refine J_iload_n C 1 dX11_letAll_122 rfl ?_
                    refine J_iconst C dX11_letAll_123 (zi9 rfl rfl) ?_
                    refine J_callVI (S := []) (avs := [.inl x1, .inl 0]) C zx64 yw_115 rfl (kX11_isClear _ _ _ _) dX11_letAll_124 rfl (Nat.le_of_ble_eq_true rfl) (by decide) fun x_55 s_54 => ?_
                    refine J_if_eq C 134 dX11_letAll_127 rfl (fun _ => ?_) (fun _ => ?_)
                    · exact hj134 _
                    · refine J_iconst C dX11_letAll_130 (zi9 rfl rfl) ?_
                      refine J_goto C 135 dX11_letAll_131 rfl ?_
                      exact hj135 _ _
            · refine J_aload_n C 0 dX11_letAll_77 rfl ?_
              refine J_iload_n C 1 dX11_letAll_78 rfl ?_
              refine J_iconst C dX11_letAll_79 (zi9 rfl rfl) ?_
              refine J_callVI (S := []) (avs := [.inl x1, .inl 1]) C zx64 yw_115 rfl (kX11_isClear _ _ _ _) dX11_letAll_80 rfl (Nat.le_of_ble_eq_true rfl) (by decide) fun x_57 s_56 => ?_
              refine J_join (fun j92 => ∀ (s_58 : zS) (u_59 : Int), zJ zw 6 K (zQm zw eV 0 0 K) 0 0 92 [(0, .inr (64, some o0)), (1, .inl x1), (3, .inl u_12)] [.inl u_59] s_58 (j92 s_58 u_59)) ?_ fun j92 hj92 => ?_
              · intro s_58 u_59
                refine J_istore_n (L' := [(0, .inr (64, some o0)), (1, .inl x1), (2, .inl u_59), (3, .inl u_12)]) C dX11_letAll_92 (Nat.le_of_ble_eq_true rfl) rfl ?_
                refine J_aload_n C 0 dX11_letAll_93 rfl ?_
                refine J_iload_n C 1 dX11_letAll_94 rfl ?_
                refine J_iconst C dX11_letAll_95 (zi9 rfl rfl) ?_
                refine J_callVI (S := []) (avs := [.inl x1, .inl 0]) C zx64 yw_115 rfl (kX11_isClear _ _ _ _) dX11_letAll_96 rfl (Nat.le_of_ble_eq_true rfl) (by decide) fun x_61 s_60 => ?_
                refine J_join (fun j108 => ∀ (s_62 : zS) (u_63 : Int), zJ zw 6 K (zQm zw eV 0 0 K) 0 0 108 [(0, .inr (64, some o0)), (1, .inl x1), (2, .inl u_59)] [.inl u_63] s_62 (j108 s_62 u_63)) ?_ fun j108 hj108 => ?_
                · intro s_62 u_63
                  refine J_istore_n (L' := [(0, .inr (64, some o0)), (1, .inl x1), (2, .inl u_59), (3, .inl u_63)]) C dX11_letAll_108 (Nat.le_of_ble_eq_true rfl) rfl ?_
                  refine J_goto C 237 dX11_letAll_109 rfl ?_
                  exact hj237 _ _ _
                · refine J_if_eq C 106 dX11_letAll_99 rfl (fun _ => ?_) (fun _ => ?_)
                  · refine J_bipush C dX11_letAll_106 (zi9 rfl rfl) (by decide) ?_
                    refine J_loc (L' := [(0, .inr (64, some o0)), (1, .inl x1), (2, .inl u_59)]) [0, 1, 2] rfl ?_
                    exact hj108 _ _
                  · refine J_iload_n C 3 dX11_letAll_102 rfl ?_
                    refine J_goto C 108 dX11_letAll_103 rfl ?_
                    refine J_loc (L' := [(0, .inr (64, some o0)), (1, .inl x1), (2, .inl u_59)]) [0, 1, 2] rfl ?_
                    exact hj108 _ _
              · refine J_if_eq C 90 dX11_letAll_83 rfl (fun _ => ?_) (fun _ => ?_)
                · refine J_bipush C dX11_letAll_90 (zi9 rfl rfl) (by decide) ?_
                  refine J_loc (L' := [(0, .inr (64, some o0)), (1, .inl x1), (3, .inl u_12)]) [0, 1, 3] rfl ?_
                  exact hj92 _ _
                · refine J_iload_n C 2 dX11_letAll_86 rfl ?_
                  refine J_goto C 92 dX11_letAll_87 rfl ?_
                  refine J_loc (L' := [(0, .inr (64, some o0)), (1, .inl x1), (3, .inl u_12)]) [0, 1, 3] rfl ?_
                  exact hj92 _ _
        · refine J_join (fun j57 => ∀ (s_64 : zS), zJ zw 6 K (zQm zw eV 0 0 K) 0 0 57 [(0, .inr (64, some o0)), (1, .inl x1), (2, .inl u_6)] [] s_64 (j57 s_64)) ?_ fun j57 hj57 => ?_
          · intro s_64
            refine J_bipush C dX11_letAll_57 (zi9 rfl rfl) (by decide) ?_
            refine J_goto C 67 dX11_letAll_59 rfl ?_
            exact hj67 _ _
          · refine J_if_ne C 57 dX11_letAll_45 rfl (fun _ => ?_) (fun _ => ?_)
            · exact hj57 _
            · refine J_aload_n C 0 dX11_letAll_48 rfl ?_
              refine J_iload_n C 1 dX11_letAll_49 rfl ?_
              refine J_iconst C dX11_letAll_50 (zi9 rfl rfl) ?_
              refine J_callVI (S := []) (avs := [.inl x1, .inl 0]) C zx64 yw_117 rfl (kX11_isNear _ _ _ _ _) dX11_letAll_51 rfl (Nat.le_of_ble_eq_true rfl) (by decide) fun x_66 s_65 => ?_
              refine J_if_eq C 62 dX11_letAll_54 rfl (fun _ => ?_) (fun _ => ?_)
              · refine J_aload_n C 0 dX11_letAll_62 rfl ?_
                refine J_iload_n C 1 dX11_letAll_63 rfl ?_
                refine J_callVI (S := []) (avs := [.inl x1]) C zx64 yw_116 rfl (kX11_downOf _ _ _ _) dX11_letAll_64 rfl (Nat.le_of_ble_eq_true rfl) (by decide) fun x_68 s_67 => ?_
                exact hj67 _ _
              · exact hj57 _
      · refine J_join (fun j28 => ∀ (s_69 : zS), zJ zw 6 K (zQm zw eV 0 0 K) 0 0 28 [(0, .inr (64, some o0)), (1, .inl x1)] [] s_69 (j28 s_69)) ?_ fun j28 hj28 => ?_
        · intro s_69
          refine J_bipush C dX11_letAll_28 (zi9 rfl rfl) (by decide) ?_
          refine J_goto C 38 dX11_letAll_30 rfl ?_
          exact hj38 _ _
        · refine J_if_ne C 28 dX11_letAll_16 rfl (fun _ => ?_) (fun _ => ?_)
          · exact hj28 _
          · refine J_aload_n C 0 dX11_letAll_19 rfl ?_
            refine J_iload_n C 1 dX11_letAll_20 rfl ?_
            refine J_iconst C dX11_letAll_21 (zi9 rfl rfl) ?_
            refine J_callVI (S := []) (avs := [.inl x1, .inl 1]) C zx64 yw_117 rfl (kX11_isNear _ _ _ _ _) dX11_letAll_22 rfl (Nat.le_of_ble_eq_true rfl) (by decide) fun x_71 s_70 => ?_
            refine J_if_eq C 33 dX11_letAll_25 rfl (fun _ => ?_) (fun _ => ?_)
            · refine J_aload_n C 0 dX11_letAll_33 rfl ?_
              refine J_iload_n C 1 dX11_letAll_34 rfl ?_
              refine J_callVI (S := []) (avs := [.inl x1]) C zx64 yw_118 rfl (kX11_upOf _ _ _ _) dX11_letAll_35 rfl (Nat.le_of_ble_eq_true rfl) (by decide) fun x_73 s_72 => ?_
              exact hj38 _ _
            · exact hj28 _
set_option maxHeartbeats 4000000 in
set_option maxRecDepth 20000 in
theorem kX11_letAll (nf : Nat) (s0 : zS) (i0 : Nat) : zCt zw yX11_letAll cX11_letAll 6 none 3 71 0 0 eV [.inr (64, some i0)] s0 (fX11_letAll nf s0 i0) := by
  refine zCt_on (own := RX11) (nm := "letAll") rfl rfl (by decide) (Nat.le_of_ble_eq_true rfl) fun K C => ?_
  show zJ zw 6 K _ 0 0 0 [(0, .inr (64, some i0))] [] s0 (fX11_letAll nf s0 i0)
  unfold fX11_letAll
  refine J_iconst C dX11_letAll_0 (zi9 rfl rfl) ?_
  refine J_istore_n (L' := [(0, .inr (64, some i0)), (1, .inl 1)]) C dX11_letAll_1 (Nat.le_of_ble_eq_true rfl) rfl ?_
  exact kX11_letAll_L2 C _ _ _ _ _
