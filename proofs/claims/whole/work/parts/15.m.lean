def fX11_worthOf_L4 (o0 : Nat) (c1 : Int) : Nat → zS → Int → Int → Option (Int × zS)
  | 0, _, _, _ => none
  | n + 1, s0, x2, x3 =>
    if x3 < 6 then (nm_ (gR s0 64 o0 25) fun (r_1 : Option Nat) => Option.bind r_1 fun i_2 => g_ ((0 : Int) ≤ wr ((wr (6 * c1)) + x3) ∧ (wr ((wr (6 * c1)) + x3) : Int) < 144) (cl_ (fX11_worth s0 x3) fun (x_6 : Int) (s_5 : zS) => nm_ (wr (x2 + (wr ((gI s0 91 i_2 (Int.toNat (wr ((wr (6 * c1)) + x3)))) * x_6)))) fun (x_7 : Int) => nm_ (wr (x3 + 1)) fun (x_8 : Int) => fX11_worthOf_L4 o0 c1 n s_5 x_7 x_8)) else (some (x2, s0))
def fX11_worthOf (nf : Nat) (s0 : zS) (i0 : Nat) (x1 : Int) : Option (Int × zS) :=
  fX11_worthOf_L4 i0 x1 nf s0 0 0
set_option maxHeartbeats 4000000 in
set_option maxRecDepth 20000 in
theorem kX11_worthOf_L4 {K : zKx} (C : zC zw 4 K RX11 cX11_worthOf "worthOf" (some .int) 1 20 0 0)  (o0 : Nat) (c1 : Int) : ∀ (n : Nat) (s0 : zS) (x2 : Int) (x3 : Int), zJ zw 4 K (zQm zw eI 0 0 K) 0 0 4 [(0, .inr (64, some o0)), (1, .inl c1), (2, .inl x2), (3, .inl x3)] [] s0 (fX11_worthOf_L4 o0 c1 n s0 x2 x3) := by
  intro n
  induction n with
  | zero => intro s0 x2 x3; exact J_none
  | succ n ih =>
    intro s0 x2 x3
    rw [fX11_worthOf_L4]
    refine J_iload_n C 3 dX11_worthOf_4 rfl ?_
    refine J_bipush C dX11_worthOf_5 (zi9 rfl rfl) (by decide) ?_
    refine J_ic_ge C 35 dX11_worthOf_7 rfl (fun _ => ?_) (fun _ => ?_)
    · refine J_iload_n C 2 dX11_worthOf_35 rfl ?_
      exact J_iret C dX11_worthOf_36 (by decide) (by decide)
    · refine J_iload_n C 2 dX11_worthOf_10 rfl ?_
      refine J_aload_n C 0 dX11_worthOf_11 rfl ?_
      refine gf_64_25 C dX11_worthOf_12 q_869 ?_
      refine J_nmR fun r_1 => ?_
      refine J_bipush C dX11_worthOf_15 (zi9 rfl rfl) (by decide) ?_
      refine J_iload_n C 1 dX11_worthOf_17 rfl ?_
      refine J_imul C dX11_worthOf_18 ?_
      refine J_iload_n C 3 dX11_worthOf_19 rfl ?_
      refine J_iadd C dX11_worthOf_20 ?_
      refine J_bind fun i_2 e_3 => ?_
      subst e_3
      refine J_g fun h_4 => ?_
      refine J_iald (t := 91) (N := 144) C (Nat.le_of_ble_eq_true rfl) rfl rfl h_4 dX11_worthOf_21 ?_
      refine J_iload_n C 3 dX11_worthOf_22 rfl ?_
      refine J_callSI (S := [.inl (gI s0 91 i_2 (Int.toNat (wr ((wr (6 * c1)) + x3)))), .inl x2]) (avs := [.inl x3]) C yw_90 (kX11_worth _ _) dX11_worthOf_23 rfl (Nat.le_of_ble_eq_true rfl) (by decide) fun x_6 s_5 => ?_
      refine J_imul C dX11_worthOf_26 ?_
      refine J_iadd C dX11_worthOf_27 ?_
      refine J_nm fun x_7 => ?_
      refine J_istore_n (L' := [(0, .inr (64, some o0)), (1, .inl c1), (2, .inl x_7), (3, .inl x3)]) C dX11_worthOf_28 (Nat.le_of_ble_eq_true rfl) rfl ?_
      refine J_iinc C 3 dX11_worthOf_29 (zi9 rfl rfl) (Nat.le_of_ble_eq_true rfl) rfl fun x_8 => ?_
      refine J_goto C 4 dX11_worthOf_32 rfl ?_
      exact ih _ _ _
set_option maxHeartbeats 4000000 in
set_option maxRecDepth 20000 in
theorem kX11_worthOf (nf : Nat) (s0 : zS) (i0 : Nat) (x1 : Int) : zCt zw yX11_worthOf cX11_worthOf 4 (some .int) 1 20 0 0 eI [.inr (64, some i0), .inl x1] s0 (fX11_worthOf nf s0 i0 x1) := by
  refine zCt_on (own := RX11) (nm := "worthOf") rfl rfl (by decide) (Nat.le_of_ble_eq_true rfl) fun K C => ?_
  show zJ zw 4 K _ 0 0 0 [(0, .inr (64, some i0)), (1, .inl x1)] [] s0 (fX11_worthOf nf s0 i0 x1)
  unfold fX11_worthOf
  refine J_iconst C dX11_worthOf_0 (zi9 rfl rfl) ?_
  refine J_istore_n (L' := [(0, .inr (64, some i0)), (1, .inl x1), (2, .inl 0)]) C dX11_worthOf_1 (Nat.le_of_ble_eq_true rfl) rfl ?_
  refine J_iconst C dX11_worthOf_2 (zi9 rfl rfl) ?_
  refine J_istore_n (L' := [(0, .inr (64, some i0)), (1, .inl x1), (2, .inl 0), (3, .inl 0)]) C dX11_worthOf_3 (Nat.le_of_ble_eq_true rfl) rfl ?_
  exact kX11_worthOf_L4 C _ _ _ _ _ _
def fX11_coins (nf : Nat) (s0 : zS) (i0 : Nat) (x1 : Int) (x2 : Int) : Option (Int × zS) :=
  cl_ (fX11_isCup s0 i0 x1) fun (x_2 : Int) (s_1 : zS) => if x_2 = 0 then (some ((-1), s_1)) else (cl_ (fX11_in s_1 x2 0 6) fun (x_4 : Int) (s_3 : zS) => if x_4 = 0 then (some ((-2), s_3)) else (if x2 = 6 then (cl_ (fX11_worthOf nf s_3 i0 x1) fun (x_10 : Int) (s_9 : zS) => some (x_10, s_9)) else (nm_ (gR s_3 64 i0 25) fun (r_5 : Option Nat) => Option.bind r_5 fun i_6 => g_ ((0 : Int) ≤ wr ((wr (6 * x1)) + x2) ∧ (wr ((wr (6 * x1)) + x2) : Int) < 144) (some (gI s_3 91 i_6 (Int.toNat (wr ((wr (6 * x1)) + x2))), s_3)))))
set_option maxHeartbeats 4000000 in
set_option maxRecDepth 20000 in
theorem kX11_coins (nf : Nat) (s0 : zS) (i0 : Nat) (x1 : Int) (x2 : Int) : zCt zw yX11_coins cX11_coins 3 (some .int) 2 43 0 0 eI [.inr (64, some i0), .inl x1, .inl x2] s0 (fX11_coins nf s0 i0 x1 x2) := by
  refine zCt_on (own := RX11) (nm := "coins") rfl rfl (by decide) (Nat.le_of_ble_eq_true rfl) fun K C => ?_
  show zJ zw 3 K _ 0 0 0 [(0, .inr (64, some i0)), (1, .inl x1), (2, .inl x2)] [] s0 (fX11_coins nf s0 i0 x1 x2)
  unfold fX11_coins
  refine J_aload_n C 0 dX11_coins_0 rfl ?_
  refine J_iload_n C 1 dX11_coins_1 rfl ?_
  refine J_callVI (S := []) (avs := [.inl x1]) C zx64 yw_92 rfl (kX11_isCup _ _ _) dX11_coins_2 rfl (Nat.le_of_ble_eq_true rfl) (by decide) fun x_2 s_1 => ?_
  refine J_if_ne C 10 dX11_coins_5 rfl (fun _ => ?_) (fun _ => ?_)
  · refine J_iload_n C 2 dX11_coins_10 rfl ?_
    refine J_iconst C dX11_coins_11 (zi9 rfl rfl) ?_
    refine J_bipush C dX11_coins_12 (zi9 rfl rfl) (by decide) ?_
    refine J_callSI (S := []) (avs := [.inl x2, .inl 0, .inl 6]) C yw_87 (kX11_in _ _ _ _) dX11_coins_14 rfl (Nat.le_of_ble_eq_true rfl) (by decide) fun x_4 s_3 => ?_
    refine J_if_ne C 25 dX11_coins_17 rfl (fun _ => ?_) (fun _ => ?_)
    · refine J_iload_n C 2 dX11_coins_25 rfl ?_
      refine J_bipush C dX11_coins_26 (zi9 rfl rfl) (by decide) ?_
      refine J_ic_ne C 39 dX11_coins_28 rfl (fun _ => ?_) (fun _ => ?_)
      · refine J_aload_n C 0 dX11_coins_39 rfl ?_
        refine gf_64_25 C dX11_coins_40 q_869 ?_
        refine J_nmR fun r_5 => ?_
        refine J_bipush C dX11_coins_43 (zi9 rfl rfl) (by decide) ?_
        refine J_iload_n C 1 dX11_coins_45 rfl ?_
        refine J_imul C dX11_coins_46 ?_
        refine J_iload_n C 2 dX11_coins_47 rfl ?_
        refine J_iadd C dX11_coins_48 ?_
        refine J_bind fun i_6 e_7 => ?_
        subst e_7
        refine J_g fun h_8 => ?_
        refine J_iald (t := 91) (N := 144) C (Nat.le_of_ble_eq_true rfl) rfl rfl h_8 dX11_coins_49 ?_
        exact J_iret C dX11_coins_50 (by decide) (by decide)
      · refine J_aload_n C 0 dX11_coins_31 rfl ?_
        refine J_iload_n C 1 dX11_coins_32 rfl ?_
        refine J_callVI (S := []) (avs := [.inl x1]) C zx64 yw_97 rfl (kX11_worthOf _ _ _ _) dX11_coins_33 rfl (Nat.le_of_ble_eq_true rfl) (by decide) fun x_10 s_9 => ?_
        refine J_goto C 50 dX11_coins_36 rfl ?_
        exact J_iret C dX11_coins_50 (by decide) (by decide)
    · refine J_bipush C dX11_coins_20 (zi9 rfl rfl) (by decide) ?_
      refine J_goto C 50 dX11_coins_22 rfl ?_
      exact J_iret C dX11_coins_50 (by decide) (by decide)
  · refine J_iconst C dX11_coins_8 (zi9 rfl rfl) ?_
    exact J_iret C dX11_coins_9 (by decide) (by decide)
def fX11_tryRest_L8 (k87 : zS → Int → Int → Option (Int × zS)) (o0 : Nat) (nf : Nat) : Nat → zS → Int → Int → Int → Option (Int × zS)
  | 0, _, _, _, _ => none
  | n + 1, s0, x3, x4, x5 =>
    if x5 < 0 then (k87 s0 x3 x4) else (cl_ (fX11_worth s0 x5) fun (x_2 : Int) (s_1 : zS) => g_ (x_2 ≠ 0) (nm_ (wr (Int.tdiv x3 x_2)) fun (x_3 : Int) => nm_ (gR s_1 64 o0 45) fun (r_4 : Option Nat) => nm_ (gR s_1 64 o0 26) fun (r_5 : Option Nat) => Option.bind r_5 fun i_6 => g_ ((0 : Int) ≤ x5 ∧ (x5 : Int) < 6) (nm_ (fun (s_9 : zS) (u_10 : Int) => Option.bind r_4 fun i_11 => g_ ((0 : Int) ≤ x5 ∧ (x5 : Int) < 6) (up_ (sI s_9 111 i_11 (Int.toNat (x5)) u_10) fun (s_14 : zS) => nm_ (gR s_14 64 o0 45) fun (r_15 : Option Nat) => Option.bind r_15 fun i_16 => g_ ((0 : Int) ≤ x5 ∧ (x5 : Int) < 6) (cl_ (fX11_worth s_14 x5) fun (x_20 : Int) (s_19 : zS) => nm_ (wr (x3 - (wr ((gI s_14 111 i_16 (Int.toNat (x5))) * x_20)))) fun (x_21 : Int) => nm_ (gR s_19 64 o0 45) fun (r_22 : Option Nat) => Option.bind r_22 fun i_23 => g_ ((0 : Int) ≤ x5 ∧ (x5 : Int) < 6) (nm_ (wr (x4 + (gI s_19 111 i_23 (Int.toNat (x5))))) fun (x_26 : Int) => nm_ (wr (x5 + (-1))) fun (x_27 : Int) => fX11_tryRest_L8 k87 o0 nf n s_19 x_21 x_26 x_27)))) fun (j52 : zS → Int → Option (Int × zS)) => if x_3 < gI s_1 92 i_6 (Int.toNat (x5)) then (j52 s_1 x_3) else (nm_ (gR s_1 64 o0 26) fun (r_28 : Option Nat) => Option.bind r_28 fun i_29 => g_ ((0 : Int) ≤ x5 ∧ (x5 : Int) < 6) (j52 s_1 (gI s_1 92 i_29 (Int.toNat (x5))))))))
def fX11_tryRest_L118 (o0 : Nat) (nf : Nat) : Nat → zS → Int → Option (Int × zS)
  | 0, _, _ => none
  | n + 1, s0, x5 =>
    if x5 < 6 then (nm_ (gR s0 64 o0 44) fun (r_6 : Option Nat) => nm_ (gR s0 64 o0 45) fun (r_7 : Option Nat) => Option.bind r_7 fun i_8 => g_ ((0 : Int) ≤ x5 ∧ (x5 : Int) < 6) (Option.bind r_6 fun i_11 => g_ ((0 : Int) ≤ x5 ∧ (x5 : Int) < 6) (up_ (sI s0 110 i_11 (Int.toNat (x5)) (gI s0 111 i_8 (Int.toNat (x5)))) fun (s_14 : zS) => nm_ (wr (x5 + 1)) fun (x_15 : Int) => fX11_tryRest_L118 o0 nf n s_14 x_15))) else (some (1, s0))
def fX11_tryRest (nf : Nat) (s0 : zS) (i0 : Nat) (x1 : Int) (x2 : Int) : Option (Int × zS) :=
  fX11_tryRest_L8 (fun (s_3 : zS) (y_1 : Int) (y_2 : Int) => if y_1 = 0 then (nm_ (fun (s_4 : zS) => up_ (sI s_4 64 i0 46 y_2) fun (s_5 : zS) => fX11_tryRest_L118 i0 nf nf s_5 0) fun (j109 : zS → Option (Int × zS)) => if gI s_3 64 i0 46 = (-9) then (j109 s_3) else (if y_2 < gI s_3 64 i0 46 then (j109 s_3) else (some (0, s_3)))) else (some (0, s_3))) i0 nf nf s0 x1 x2 3
set_option maxHeartbeats 4000000 in
set_option maxRecDepth 20000 in
theorem kX11_tryRest_L8 {K : zKx} (C : zC zw 7 K RX11 cX11_tryRest "tryRest" (some .boolean) 1 20 0 0)  (nf : Nat) (o0 : Nat) (k87 : zS → Int → Int → Option (Int × zS)) (hk87 : ∀ (s1 : zS) (z3 : Int) (z4 : Int), zJ zw 7 K (zQm zw eI 0 0 K) 0 0 87 [(0, .inr (64, some o0)), (3, .inl z3), (4, .inl z4)] [] s1 (k87 s1 z3 z4)) : ∀ (n : Nat) (s0 : zS) (x3 : Int) (x4 : Int) (x5 : Int), zJ zw 7 K (zQm zw eI 0 0 K) 0 0 8 [(0, .inr (64, some o0)), (3, .inl x3), (4, .inl x4), (5, .inl x5)] [] s0 (fX11_tryRest_L8 k87 o0 nf n s0 x3 x4 x5) := by
  intro n
  induction n with
  | zero => intro s0 x3 x4 x5; exact J_none
  | succ n ih =>
    intro s0 x3 x4 x5
    rw [fX11_tryRest_L8]
    refine J_iload C 3 dX11_tryRest_8 rfl ?_
    refine J_if_lt C 87 dX11_tryRest_10 rfl (fun _ => ?_) (fun _ => ?_)
    · refine J_loc (L' := [(0, .inr (64, some o0)), (3, .inl x3), (4, .inl x4)]) [0, 1, 2] rfl ?_
      exact hk87 _ _ _
    · refine J_iload_n C 1 dX11_tryRest_13 rfl ?_
      refine J_iload C 3 dX11_tryRest_14 rfl ?_
      refine J_callSI (S := [.inl x3]) (avs := [.inl x5]) C yw_90 (kX11_worth _ _) dX11_tryRest_16 rfl (Nat.le_of_ble_eq_true rfl) (by decide) fun x_2 s_1 => ?_
      refine J_g fun h_32 => ?_
      refine J_idiv C dX11_tryRest_19 h_32 ?_
      refine J_nm fun x_3 => ?_
      refine J_istore (L' := [(0, .inr (64, some o0)), (3, .inl x3), (4, .inl x4), (5, .inl x5), (6, .inl x_3)]) C dX11_tryRest_20 (Nat.le_of_ble_eq_true rfl) rfl ?_
      refine J_aload_n C 0 dX11_tryRest_22 rfl ?_
      refine gf_64_45 C dX11_tryRest_23 q_889 ?_
      refine J_nmR fun r_4 => ?_
      refine J_iload C 3 dX11_tryRest_26 rfl ?_
      refine J_iload C 4 dX11_tryRest_28 rfl ?_
      refine J_aload_n C 0 dX11_tryRest_30 rfl ?_
      refine gf_64_26 C dX11_tryRest_31 q_870 ?_
      refine J_nmR fun r_5 => ?_
      refine J_iload C 3 dX11_tryRest_34 rfl ?_
      refine J_bind fun i_6 e_7 => ?_
      subst e_7
      refine J_g fun h_8 => ?_
      refine J_iald (t := 92) (N := 6) C (Nat.le_of_ble_eq_true rfl) rfl rfl h_8 dX11_tryRest_36 ?_
      refine J_join (fun j52 => ∀ (s_9 : zS) (u_10 : Int), zJ zw 7 K (zQm zw eI 0 0 K) 0 0 52 [(0, .inr (64, some o0)), (3, .inl x3), (4, .inl x4), (5, .inl x5)] [.inl u_10, .inl x5, .inr (111, r_4)] s_9 (j52 s_9 u_10)) ?_ fun j52 hj52 => ?_
      · intro s_9 u_10
        refine J_bind fun i_11 e_12 => ?_
        subst e_12
        refine J_g fun h_13 => ?_
        refine J_iast (t := 111) (N := 6) C (Nat.le_of_ble_eq_true rfl) rfl rfl h_13 dX11_tryRest_52 fun s_14 => ?_
        refine J_iload_n C 1 dX11_tryRest_53 rfl ?_
        refine J_aload_n C 0 dX11_tryRest_54 rfl ?_
        refine gf_64_45 C dX11_tryRest_55 q_889 ?_
        refine J_nmR fun r_15 => ?_
        refine J_iload C 3 dX11_tryRest_58 rfl ?_
        refine J_bind fun i_16 e_17 => ?_
        subst e_17
        refine J_g fun h_18 => ?_
        refine J_iald (t := 111) (N := 6) C (Nat.le_of_ble_eq_true rfl) rfl rfl h_18 dX11_tryRest_60 ?_
        refine J_iload C 3 dX11_tryRest_61 rfl ?_
        refine J_callSI (S := [.inl (gI s_14 111 i_16 (Int.toNat (x5))), .inl x3]) (avs := [.inl x5]) C yw_90 (kX11_worth _ _) dX11_tryRest_63 rfl (Nat.le_of_ble_eq_true rfl) (by decide) fun x_20 s_19 => ?_
        refine J_imul C dX11_tryRest_66 ?_
        refine J_isub C dX11_tryRest_67 ?_
        refine J_nm fun x_21 => ?_
        refine J_istore_n (L' := [(0, .inr (64, some o0)), (3, .inl x_21), (4, .inl x4), (5, .inl x5)]) C dX11_tryRest_68 (Nat.le_of_ble_eq_true rfl) rfl ?_
        refine J_iload C 2 dX11_tryRest_69 rfl ?_
        refine J_aload_n C 0 dX11_tryRest_71 rfl ?_
        refine gf_64_45 C dX11_tryRest_72 q_889 ?_
        refine J_nmR fun r_22 => ?_
        refine J_iload C 3 dX11_tryRest_75 rfl ?_
        refine J_bind fun i_23 e_24 => ?_
        subst e_24
        refine J_g fun h_25 => ?_
        refine J_iald (t := 111) (N := 6) C (Nat.le_of_ble_eq_true rfl) rfl rfl h_25 dX11_tryRest_77 ?_
        refine J_iadd C dX11_tryRest_78 ?_
        refine J_nm fun x_26 => ?_
        refine J_istore (L' := [(0, .inr (64, some o0)), (3, .inl x_21), (4, .inl x_26), (5, .inl x5)]) C dX11_tryRest_79 (Nat.le_of_ble_eq_true rfl) rfl ?_
        refine J_iinc C 3 dX11_tryRest_81 (zi9 rfl rfl) (Nat.le_of_ble_eq_true rfl) rfl fun x_27 => ?_
        refine J_goto C 8 dX11_tryRest_84 rfl ?_
        exact ih _ _ _ _
      · refine J_ic_ge C 45 dX11_tryRest_37 rfl (fun _ => ?_) (fun _ => ?_)
        · refine J_aload_n C 0 dX11_tryRest_45 rfl ?_
          refine gf_64_26 C dX11_tryRest_46 q_870 ?_
          refine J_nmR fun r_28 => ?_
          refine J_iload C 3 dX11_tryRest_49 rfl ?_
          refine J_bind fun i_29 e_30 => ?_
          subst e_30
          refine J_g fun h_31 => ?_
          refine J_iald (t := 92) (N := 6) C (Nat.le_of_ble_eq_true rfl) rfl rfl h_31 dX11_tryRest_51 ?_
          refine J_loc (L' := [(0, .inr (64, some o0)), (3, .inl x3), (4, .inl x4), (5, .inl x5)]) [0, 1, 2, 3] rfl ?_
          exact hj52 _ _
        · refine J_iload C 4 dX11_tryRest_40 rfl ?_
          refine J_goto C 52 dX11_tryRest_42 rfl ?_
          refine J_loc (L' := [(0, .inr (64, some o0)), (3, .inl x3), (4, .inl x4), (5, .inl x5)]) [0, 1, 2, 3] rfl ?_
          exact hj52 _ _
set_option maxHeartbeats 4000000 in
set_option maxRecDepth 20000 in
theorem kX11_tryRest_L118 {K : zKx} (C : zC zw 7 K RX11 cX11_tryRest "tryRest" (some .boolean) 1 20 0 0)  (nf : Nat) (o0 : Nat) : ∀ (n : Nat) (s0 : zS) (x5 : Int), zJ zw 7 K (zQm zw eI 0 0 K) 0 0 118 [(0, .inr (64, some o0)), (5, .inl x5)] [] s0 (fX11_tryRest_L118 o0 nf n s0 x5) := by
  intro n
  induction n with
  | zero => intro s0 x5; exact J_none
  | succ n ih =>
    intro s0 x5
    rw [fX11_tryRest_L118]
    refine J_iload C 1 dX11_tryRest_118 rfl ?_
    refine J_bipush C dX11_tryRest_120 (zi9 rfl rfl) (by decide) ?_
    refine J_ic_ge C 145 dX11_tryRest_122 rfl (fun _ => ?_) (fun _ => ?_)
    · refine J_iconst C dX11_tryRest_145 (zi9 rfl rfl) ?_
      exact J_zret C (by decide) dX11_tryRest_146 (by decide) (by decide)
    · refine J_aload_n C 0 dX11_tryRest_125 rfl ?_
      refine gf_64_44 C dX11_tryRest_126 q_888 ?_
      refine J_nmR fun r_6 => ?_
      refine J_iload C 1 dX11_tryRest_129 rfl ?_
      refine J_aload_n C 0 dX11_tryRest_131 rfl ?_
      refine gf_64_45 C dX11_tryRest_132 q_889 ?_
      refine J_nmR fun r_7 => ?_
      refine J_iload C 1 dX11_tryRest_135 rfl ?_
      refine J_bind fun i_8 e_9 => ?_
      subst e_9
      refine J_g fun h_10 => ?_
      refine J_iald (t := 111) (N := 6) C (Nat.le_of_ble_eq_true rfl) rfl rfl h_10 dX11_tryRest_137 ?_
      refine J_bind fun i_11 e_12 => ?_
      subst e_12
      refine J_g fun h_13 => ?_
      refine J_iast (t := 110) (N := 6) C (Nat.le_of_ble_eq_true rfl) rfl rfl h_13 dX11_tryRest_138 fun s_14 => ?_
      refine J_iinc C 1 dX11_tryRest_139 (zi9 rfl rfl) (Nat.le_of_ble_eq_true rfl) rfl fun x_15 => ?_
      refine J_goto C 118 dX11_tryRest_142 rfl ?_
      exact ih _ _
set_option maxHeartbeats 4000000 in
set_option maxRecDepth 20000 in
theorem kX11_tryRest (nf : Nat) (s0 : zS) (i0 : Nat) (x1 : Int) (x2 : Int) : zCt zw yX11_tryRest cX11_tryRest 7 (some .boolean) 1 20 0 0 eI [.inr (64, some i0), .inl x1, .inl x2] s0 (fX11_tryRest nf s0 i0 x1 x2) := by
  refine zCt_on (own := RX11) (nm := "tryRest") rfl rfl (by decide) (Nat.le_of_ble_eq_true rfl) fun K C => ?_
  show zJ zw 7 K _ 0 0 0 [(0, .inr (64, some i0)), (1, .inl x1), (2, .inl x2)] [] s0 (fX11_tryRest nf s0 i0 x1 x2)
  unfold fX11_tryRest
  refine J_iload_n C 1 dX11_tryRest_0 rfl ?_
  refine J_istore_n (L' := [(0, .inr (64, some i0)), (1, .inl x1), (2, .inl x2), (3, .inl x1)]) C dX11_tryRest_1 (Nat.le_of_ble_eq_true rfl) rfl ?_
  refine J_iload_n C 2 dX11_tryRest_2 rfl ?_
  refine J_istore (L' := [(0, .inr (64, some i0)), (1, .inl x1), (2, .inl x2), (3, .inl x1), (4, .inl x2)]) C dX11_tryRest_3 (Nat.le_of_ble_eq_true rfl) rfl ?_
  refine J_iconst C dX11_tryRest_5 (zi9 rfl rfl) ?_
  refine J_istore (L' := [(0, .inr (64, some i0)), (1, .inl x1), (2, .inl x2), (3, .inl x1), (4, .inl x2), (5, .inl 3)]) C dX11_tryRest_6 (Nat.le_of_ble_eq_true rfl) rfl ?_
  refine J_loc (L' := [(0, .inr (64, some i0)), (3, .inl x1), (4, .inl x2), (5, .inl 3)]) [0, 3, 4, 5] rfl ?_
  refine kX11_tryRest_L8 C _ _ _ ?_ _ _ _ _ _
  intro s_3 y_1 y_2
  refine J_iload_n C 1 dX11_tryRest_87 rfl ?_
  refine J_if_ne C 147 dX11_tryRest_88 rfl (fun _ => ?_) (fun _ => ?_)
  · refine J_iconst C dX11_tryRest_147 (zi9 rfl rfl) ?_
    exact J_zret C (by decide) dX11_tryRest_148 (by decide) (by decide)
  · refine J_aload_n C 0 dX11_tryRest_91 rfl ?_
    refine gf_64_46 C dX11_tryRest_92 q_890 ?_
    refine J_bipush C dX11_tryRest_95 (zi9 rfl rfl) (by decide) ?_
    refine J_join (fun j109 => ∀ (s_4 : zS), zJ zw 7 K (zQm zw eI 0 0 K) 0 0 109 [(0, .inr (64, some i0)), (4, .inl y_2)] [] s_4 (j109 s_4)) ?_ fun j109 hj109 => ?_
    · intro s_4
      refine J_aload_n C 0 dX11_tryRest_109 rfl ?_
      refine J_iload C 1 dX11_tryRest_110 rfl ?_
      refine pf_64_46 C dX11_tryRest_112 q_890 fun s_5 => ?_
      refine J_iconst C dX11_tryRest_115 (zi9 rfl rfl) ?_
      refine J_istore (L' := [(0, .inr (64, some i0)), (4, .inl y_2), (5, .inl 0)]) C dX11_tryRest_116 (Nat.le_of_ble_eq_true rfl) rfl ?_
      refine J_loc (L' := [(0, .inr (64, some i0)), (5, .inl 0)]) [0, 2] rfl ?_
      exact kX11_tryRest_L118 C _ _ _ _ _
    · refine J_ic_eq C 109 dX11_tryRest_97 rfl (fun _ => ?_) (fun _ => ?_)
      · refine J_loc (L' := [(0, .inr (64, some i0)), (4, .inl y_2)]) [0, 2] rfl ?_
        exact hj109 _
      · refine J_iload C 2 dX11_tryRest_100 rfl ?_
        refine J_aload_n C 0 dX11_tryRest_102 rfl ?_
        refine gf_64_46 C dX11_tryRest_103 q_890 ?_
        refine J_ic_ge C 147 dX11_tryRest_106 rfl (fun _ => ?_) (fun _ => ?_)
        · refine J_iconst C dX11_tryRest_147 (zi9 rfl rfl) ?_
          exact J_zret C (by decide) dX11_tryRest_148 (by decide) (by decide)
        · refine J_loc (L' := [(0, .inr (64, some i0)), (4, .inl y_2)]) [0, 2] rfl ?_
          exact hj109 _
def fX11_layChange_L81 (k125 : zS → Option (Unit × zS)) (o0 : Nat) (c1 : Int) (c3 : Int) (c4 : Int) (nf : Nat) : Nat → zS → Int → Option (Unit × zS)
  | 0, _, _ => none
  | n + 1, s0, x6 =>
    if x6 < 0 then (k125 s0) else (nm_ (gR s0 64 o0 45) fun (r_15 : Option Nat) => Option.bind r_15 fun i_16 => g_ ((0 : Int) ≤ 5 ∧ (5 : Int) < 6) (up_ (sI s0 111 i_16 (Int.toNat (5)) c3) fun (s_19 : zS) => nm_ (gR s_19 64 o0 45) fun (r_20 : Option Nat) => Option.bind r_20 fun i_21 => g_ ((0 : Int) ≤ 4 ∧ (4 : Int) < 6) (up_ (sI s_19 111 i_21 (Int.toNat (4)) x6) fun (s_24 : zS) => cl_ (fX11_tryRest nf s_24 o0 (wr (c4 - (wr (30 * x6)))) (wr (c3 + x6))) fun (x_26 : Int) (s_25 : zS) => nm_ (wr (x6 + (-1))) fun (x_27 : Int) => fX11_layChange_L81 k125 o0 c1 c3 c4 nf n s_25 x_27)))
def fX11_layChange_L35 (o0 : Nat) (c1 : Int) (nf : Nat) : Nat → zS → Int → Option (Unit × zS)
  | 0, _, _ => none
  | n + 1, s0, x3 =>
    if x3 < 0 then (some ((), s0)) else (nm_ (wr (c1 - (wr (60 * x3)))) fun (x_8 : Int) => nm_ (gR s0 64 o0 26) fun (r_9 : Option Nat) => Option.bind r_9 fun i_10 => g_ ((0 : Int) ≤ 4 ∧ (4 : Int) < 6) (nm_ (fun (s_13 : zS) (u_14 : Int) => fX11_layChange_L81 (fun (s_15 : zS) => nm_ (wr (x3 + (-1))) fun (x_16 : Int) => fX11_layChange_L35 o0 c1 nf n s_15 x_16) o0 c1 x3 x_8 nf nf s_13 u_14) fun (j75 : zS → Int → Option (Unit × zS)) => if wr (Int.tdiv x_8 30) < gI s0 92 i_10 (Int.toNat (4)) then (j75 s0 (wr (Int.tdiv x_8 30))) else (nm_ (gR s0 64 o0 26) fun (r_17 : Option Nat) => Option.bind r_17 fun i_18 => g_ ((0 : Int) ≤ 4 ∧ (4 : Int) < 6) (j75 s0 (gI s0 92 i_18 (Int.toNat (4)))))))
def fX11_layChange (nf : Nat) (s0 : zS) (i0 : Nat) (x1 : Int) : Option (Unit × zS) :=
  up_ (sI s0 64 i0 46 (-9)) fun (s_1 : zS) => nm_ (gR s_1 64 i0 26) fun (r_2 : Option Nat) => Option.bind r_2 fun i_3 => g_ ((0 : Int) ≤ 5 ∧ (5 : Int) < 6) (nm_ (fun (s_6 : zS) (u_7 : Int) => fX11_layChange_L35 i0 x1 nf nf s_6 u_7) fun (j32 : zS → Int → Option (Unit × zS)) => if wr (Int.tdiv x1 60) < gI s_1 92 i_3 (Int.toNat (5)) then (j32 s_1 (wr (Int.tdiv x1 60))) else (nm_ (gR s_1 64 i0 26) fun (r_8 : Option Nat) => Option.bind r_8 fun i_9 => g_ ((0 : Int) ≤ 5 ∧ (5 : Int) < 6) (j32 s_1 (gI s_1 92 i_9 (Int.toNat (5))))))
set_option maxHeartbeats 4000000 in
set_option maxRecDepth 20000 in
theorem kX11_layChange_L81 {K : zKx} (C : zC zw 8 K RX11 cX11_layChange "layChange" none 2 46 0 0)  (nf : Nat) (o0 : Nat) (c1 : Int) (c3 : Int) (c4 : Int) (k125 : zS → Option (Unit × zS)) (hk125 : ∀ (s1 : zS), zJ zw 8 K (zQm zw eV 0 0 K) 0 0 125 [(0, .inr (64, some o0)), (1, .inl c1), (3, .inl c3)] [] s1 (k125 s1)) : ∀ (n : Nat) (s0 : zS) (x6 : Int), zJ zw 8 K (zQm zw eV 0 0 K) 0 0 81 [(0, .inr (64, some o0)), (1, .inl c1), (3, .inl c3), (4, .inl c4), (6, .inl x6)] [] s0 (fX11_layChange_L81 k125 o0 c1 c3 c4 nf n s0 x6) := by
  intro n
  induction n with
  | zero => intro s0 x6; exact J_none
  | succ n ih =>
    intro s0 x6
    rw [fX11_layChange_L81]
    refine J_iload C 4 dX11_layChange_81 rfl ?_
    refine J_if_lt C 125 dX11_layChange_83 rfl (fun _ => ?_) (fun _ => ?_)
    · refine J_loc (L' := [(0, .inr (64, some o0)), (1, .inl c1), (3, .inl c3)]) [0, 1, 2] rfl ?_
      exact hk125 _
    · refine J_aload_n C 0 dX11_layChange_86 rfl ?_
      refine gf_64_45 C dX11_layChange_87 q_889 ?_
      refine J_nmR fun r_15 => ?_
      refine J_iconst C dX11_layChange_90 (zi9 rfl rfl) ?_
      refine J_iload_n C 2 dX11_layChange_91 rfl ?_
      refine J_bind fun i_16 e_17 => ?_
      subst e_17
      refine J_g fun h_18 => ?_
      refine J_iast (t := 111) (N := 6) C (Nat.le_of_ble_eq_true rfl) rfl rfl h_18 dX11_layChange_92 fun s_19 => ?_
      refine J_aload_n C 0 dX11_layChange_93 rfl ?_
      refine gf_64_45 C dX11_layChange_94 q_889 ?_
      refine J_nmR fun r_20 => ?_
      refine J_iconst C dX11_layChange_97 (zi9 rfl rfl) ?_
      refine J_iload C 4 dX11_layChange_98 rfl ?_
      refine J_bind fun i_21 e_22 => ?_
      subst e_22
      refine J_g fun h_23 => ?_
      refine J_iast (t := 111) (N := 6) C (Nat.le_of_ble_eq_true rfl) rfl rfl h_23 dX11_layChange_100 fun s_24 => ?_
      refine J_aload_n C 0 dX11_layChange_101 rfl ?_
      refine J_iload C 3 dX11_layChange_102 rfl ?_
      refine J_bipush C dX11_layChange_104 (zi9 rfl rfl) (by decide) ?_
      refine J_iload C 4 dX11_layChange_106 rfl ?_
      refine J_imul C dX11_layChange_108 ?_
      refine J_isub C dX11_layChange_109 ?_
      refine J_iload_n C 2 dX11_layChange_110 rfl ?_
      refine J_iload C 4 dX11_layChange_111 rfl ?_
      refine J_iadd C dX11_layChange_113 ?_
      refine J_callVI (S := []) (avs := [.inl (wr (c4 - (wr (30 * x6)))), .inl (wr (c3 + x6))]) C zx64 yw_98 rfl (kX11_tryRest _ _ _ _ _) dX11_layChange_114 rfl (Nat.le_of_ble_eq_true rfl) (by decide) fun x_26 s_25 => ?_
      refine J_istore (L' := [(0, .inr (64, some o0)), (1, .inl c1), (3, .inl c3), (4, .inl c4), (6, .inl x6), (7, .inl x_26)]) C dX11_layChange_117 (Nat.le_of_ble_eq_true rfl) rfl ?_
      refine J_iinc C 4 dX11_layChange_119 (zi9 rfl rfl) (Nat.le_of_ble_eq_true rfl) rfl fun x_27 => ?_
      refine J_goto C 81 dX11_layChange_122 rfl ?_
      refine J_loc (L' := [(0, .inr (64, some o0)), (1, .inl c1), (3, .inl c3), (4, .inl c4), (6, .inl x_27)]) [0, 1, 2, 3, 4] rfl ?_
      exact ih _ _
set_option maxHeartbeats 4000000 in
set_option maxRecDepth 20000 in
theorem kX11_layChange_L35 {K : zKx} (C : zC zw 8 K RX11 cX11_layChange "layChange" none 2 46 0 0)  (nf : Nat) (o0 : Nat) (c1 : Int) : ∀ (n : Nat) (s0 : zS) (x3 : Int), zJ zw 8 K (zQm zw eV 0 0 K) 0 0 35 [(0, .inr (64, some o0)), (1, .inl c1), (3, .inl x3)] [] s0 (fX11_layChange_L35 o0 c1 nf n s0 x3) := by
  intro n
  induction n with
  | zero => intro s0 x3; exact J_none
  | succ n ih =>
    intro s0 x3
    rw [fX11_layChange_L35]
    refine J_iload_n C 2 dX11_layChange_35 rfl ?_
    refine J_if_lt C 131 dX11_layChange_36 rfl (fun _ => ?_) (fun _ => ?_)
    · exact J_vret C dX11_layChange_131 (by decide) (by decide)
    · refine J_iload_n C 1 dX11_layChange_39 rfl ?_
      refine J_bipush C dX11_layChange_40 (zi9 rfl rfl) (by decide) ?_
      refine J_iload_n C 2 dX11_layChange_42 rfl ?_
      refine J_imul C dX11_layChange_43 ?_
      refine J_isub C dX11_layChange_44 ?_
      refine J_nm fun x_8 => ?_
      refine J_istore (L' := [(0, .inr (64, some o0)), (1, .inl c1), (3, .inl x3), (4, .inl x_8)]) C dX11_layChange_45 (Nat.le_of_ble_eq_true rfl) rfl ?_
      refine J_iload C 3 dX11_layChange_47 rfl ?_
      refine J_bipush C dX11_layChange_49 (zi9 rfl rfl) (by decide) ?_
      refine J_idiv C dX11_layChange_51 (by decide) ?_
      refine J_aload_n C 0 dX11_layChange_52 rfl ?_
      refine gf_64_26 C dX11_layChange_53 q_870 ?_
      refine J_nmR fun r_9 => ?_
      refine J_iconst C dX11_layChange_56 (zi9 rfl rfl) ?_
      refine J_bind fun i_10 e_11 => ?_
      subst e_11
      refine J_g fun h_12 => ?_
      refine J_iald (t := 92) (N := 6) C (Nat.le_of_ble_eq_true rfl) rfl rfl h_12 dX11_layChange_57 ?_
      refine J_join (fun j75 => ∀ (s_13 : zS) (u_14 : Int), zJ zw 8 K (zQm zw eV 0 0 K) 0 0 75 [(0, .inr (64, some o0)), (1, .inl c1), (3, .inl x3), (4, .inl x_8)] [.inl u_14] s_13 (j75 s_13 u_14)) ?_ fun j75 hj75 => ?_
      · intro s_13 u_14
        refine J_istore (L' := [(0, .inr (64, some o0)), (1, .inl c1), (3, .inl x3), (4, .inl x_8), (5, .inl u_14)]) C dX11_layChange_75 (Nat.le_of_ble_eq_true rfl) rfl ?_
        refine J_iload C 4 dX11_layChange_77 rfl ?_
        refine J_istore (L' := [(0, .inr (64, some o0)), (1, .inl c1), (3, .inl x3), (4, .inl x_8), (5, .inl u_14), (6, .inl u_14)]) C dX11_layChange_79 (Nat.le_of_ble_eq_true rfl) rfl ?_
        refine J_loc (L' := [(0, .inr (64, some o0)), (1, .inl c1), (3, .inl x3), (4, .inl x_8), (6, .inl u_14)]) [0, 1, 2, 3, 5] rfl ?_
        refine kX11_layChange_L81 C _ _ _ _ _ _ ?_ _ _ _
        intro s_15
        refine J_iinc C 2 dX11_layChange_125 (zi9 rfl rfl) (Nat.le_of_ble_eq_true rfl) rfl fun x_16 => ?_
        refine J_goto C 35 dX11_layChange_128 rfl ?_
        exact ih _ _
      · refine J_ic_ge C 69 dX11_layChange_58 rfl (fun _ => ?_) (fun _ => ?_)
        · refine J_aload_n C 0 dX11_layChange_69 rfl ?_
          refine gf_64_26 C dX11_layChange_70 q_870 ?_
          refine J_nmR fun r_17 => ?_
          refine J_iconst C dX11_layChange_73 (zi9 rfl rfl) ?_
          refine J_bind fun i_18 e_19 => ?_
          subst e_19
          refine J_g fun h_20 => ?_
          refine J_iald (t := 92) (N := 6) C (Nat.le_of_ble_eq_true rfl) rfl rfl h_20 dX11_layChange_74 ?_
          exact hj75 _ _
        · refine J_iload C 3 dX11_layChange_61 rfl ?_
          refine J_bipush C dX11_layChange_63 (zi9 rfl rfl) (by decide) ?_
          refine J_idiv C dX11_layChange_65 (by decide) ?_
          refine J_goto C 75 dX11_layChange_66 rfl ?_
          exact hj75 _ _
set_option maxHeartbeats 4000000 in
set_option maxRecDepth 20000 in
theorem kX11_layChange (nf : Nat) (s0 : zS) (i0 : Nat) (x1 : Int) : zCt zw yX11_layChange cX11_layChange 8 none 2 46 0 0 eV [.inr (64, some i0), .inl x1] s0 (fX11_layChange nf s0 i0 x1) := by
  refine zCt_on (own := RX11) (nm := "layChange") rfl rfl (by decide) (Nat.le_of_ble_eq_true rfl) fun K C => ?_
  show zJ zw 8 K _ 0 0 0 [(0, .inr (64, some i0)), (1, .inl x1)] [] s0 (fX11_layChange nf s0 i0 x1)
  unfold fX11_layChange
  refine J_aload_n C 0 dX11_layChange_0 rfl ?_
  refine J_bipush C dX11_layChange_1 (zi9 rfl rfl) (by decide) ?_
  refine pf_64_46 C dX11_layChange_3 q_890 fun s_1 => ?_
  refine J_iload_n C 1 dX11_layChange_6 rfl ?_
  refine J_bipush C dX11_layChange_7 (zi9 rfl rfl) (by decide) ?_
  refine J_idiv C dX11_layChange_9 (by decide) ?_
  refine J_aload_n C 0 dX11_layChange_10 rfl ?_
  refine gf_64_26 C dX11_layChange_11 q_870 ?_
  refine J_nmR fun r_2 => ?_
  refine J_iconst C dX11_layChange_14 (zi9 rfl rfl) ?_
  refine J_bind fun i_3 e_4 => ?_
  subst e_4
  refine J_g fun h_5 => ?_
  refine J_iald (t := 92) (N := 6) C (Nat.le_of_ble_eq_true rfl) rfl rfl h_5 dX11_layChange_15 ?_
  refine J_join (fun j32 => ∀ (s_6 : zS) (u_7 : Int), zJ zw 8 K (zQm zw eV 0 0 K) 0 0 32 [(0, .inr (64, some i0)), (1, .inl x1)] [.inl u_7] s_6 (j32 s_6 u_7)) ?_ fun j32 hj32 => ?_
  · intro s_6 u_7
    refine J_istore_n (L' := [(0, .inr (64, some i0)), (1, .inl x1), (2, .inl u_7)]) C dX11_layChange_32 (Nat.le_of_ble_eq_true rfl) rfl ?_
    refine J_iload_n C 2 dX11_layChange_33 rfl ?_
    refine J_istore_n (L' := [(0, .inr (64, some i0)), (1, .inl x1), (2, .inl u_7), (3, .inl u_7)]) C dX11_layChange_34 (Nat.le_of_ble_eq_true rfl) rfl ?_
    refine J_loc (L' := [(0, .inr (64, some i0)), (1, .inl x1), (3, .inl u_7)]) [0, 1, 3] rfl ?_
    exact kX11_layChange_L35 C _ _ _ _ _ _
  · refine J_ic_ge C 26 dX11_layChange_16 rfl (fun _ => ?_) (fun _ => ?_)
    · refine J_aload_n C 0 dX11_layChange_26 rfl ?_
      refine gf_64_26 C dX11_layChange_27 q_870 ?_
      refine J_nmR fun r_8 => ?_
      refine J_iconst C dX11_layChange_30 (zi9 rfl rfl) ?_
      refine J_bind fun i_9 e_10 => ?_
      subst e_10
      refine J_g fun h_11 => ?_
      refine J_iald (t := 92) (N := 6) C (Nat.le_of_ble_eq_true rfl) rfl rfl h_11 dX11_layChange_31 ?_
      exact hj32 _ _
    · refine J_iload_n C 1 dX11_layChange_19 rfl ?_
      refine J_bipush C dX11_layChange_20 (zi9 rfl rfl) (by decide) ?_
      refine J_idiv C dX11_layChange_22 (by decide) ?_
      refine J_goto C 32 dX11_layChange_23 rfl ?_
      exact hj32 _ _
def fX11_till_L17 (o0 : Nat) (c1 : Int) : Nat → zS → Int → Int → Option (Int × zS)
  | 0, _, _, _ => none
  | n + 1, s0, x2, x3 =>
    if x3 < 6 then (nm_ (gR s0 64 o0 26) fun (r_7 : Option Nat) => Option.bind r_7 fun i_8 => g_ ((0 : Int) ≤ x3 ∧ (x3 : Int) < 6) (cl_ (fX11_worth s0 x3) fun (x_12 : Int) (s_11 : zS) => nm_ (wr (x2 + (wr ((gI s0 92 i_8 (Int.toNat (x3))) * x_12)))) fun (x_13 : Int) => nm_ (wr (x3 + 1)) fun (x_14 : Int) => fX11_till_L17 o0 c1 n s_11 x_13 x_14)) else (if c1 = 6 then (some (x2, s0)) else (nm_ (gR s0 64 o0 26) fun (r_3 : Option Nat) => Option.bind r_3 fun i_4 => g_ ((0 : Int) ≤ c1 ∧ (c1 : Int) < 6) (some (gI s0 92 i_4 (Int.toNat (c1)), s0))))
def fX11_till (nf : Nat) (s0 : zS) (i0 : Nat) (x1 : Int) : Option (Int × zS) :=
  cl_ (fX11_in s0 x1 0 6) fun (x_2 : Int) (s_1 : zS) => if x_2 = 0 then (some ((-2), s_1)) else (fX11_till_L17 i0 x1 nf s_1 0 0)
set_option maxHeartbeats 4000000 in
set_option maxRecDepth 20000 in
theorem kX11_till_L17 {K : zKx} (C : zC zw 4 K RX11 cX11_till "till" (some .int) 1 22 0 0)  (o0 : Nat) (c1 : Int) : ∀ (n : Nat) (s0 : zS) (x2 : Int) (x3 : Int), zJ zw 4 K (zQm zw eI 0 0 K) 0 0 17 [(0, .inr (64, some o0)), (1, .inl c1), (2, .inl x2), (3, .inl x3)] [] s0 (fX11_till_L17 o0 c1 n s0 x2 x3) := by
  intro n
  induction n with
  | zero => intro s0 x2 x3; exact J_none
  | succ n ih =>
    intro s0 x2 x3
    rw [fX11_till_L17]
    refine J_iload_n C 3 dX11_till_17 rfl ?_
    refine J_bipush C dX11_till_18 (zi9 rfl rfl) (by decide) ?_
    refine J_ic_ge C 43 dX11_till_20 rfl (fun _ => ?_) (fun _ => ?_)
    · refine J_iload_n C 1 dX11_till_43 rfl ?_
      refine J_bipush C dX11_till_44 (zi9 rfl rfl) (by decide) ?_
      refine J_ic_ne C 53 dX11_till_46 rfl (fun _ => ?_) (fun _ => ?_)
      · refine J_aload_n C 0 dX11_till_53 rfl ?_
        refine gf_64_26 C dX11_till_54 q_870 ?_
        refine J_nmR fun r_3 => ?_
        refine J_iload_n C 1 dX11_till_57 rfl ?_
        refine J_bind fun i_4 e_5 => ?_
        subst e_5
        refine J_g fun h_6 => ?_
        refine J_iald (t := 92) (N := 6) C (Nat.le_of_ble_eq_true rfl) rfl rfl h_6 dX11_till_58 ?_
        exact J_iret C dX11_till_59 (by decide) (by decide)
      · refine J_iload_n C 2 dX11_till_49 rfl ?_
        refine J_goto C 59 dX11_till_50 rfl ?_
        exact J_iret C dX11_till_59 (by decide) (by decide)
    · refine J_iload_n C 2 dX11_till_23 rfl ?_
      refine J_aload_n C 0 dX11_till_24 rfl ?_
      refine gf_64_26 C dX11_till_25 q_870 ?_
      refine J_nmR fun r_7 => ?_
      refine J_iload_n C 3 dX11_till_28 rfl ?_
      refine J_bind fun i_8 e_9 => ?_
      subst e_9
      refine J_g fun h_10 => ?_
      refine J_iald (t := 92) (N := 6) C (Nat.le_of_ble_eq_true rfl) rfl rfl h_10 dX11_till_29 ?_
      refine J_iload_n C 3 dX11_till_30 rfl ?_
      refine J_callSI (S := [.inl (gI s0 92 i_8 (Int.toNat (x3))), .inl x2]) (avs := [.inl x3]) C yw_90 (kX11_worth _ _) dX11_till_31 rfl (Nat.le_of_ble_eq_true rfl) (by decide) fun x_12 s_11 => ?_
      refine J_imul C dX11_till_34 ?_
      refine J_iadd C dX11_till_35 ?_
      refine J_nm fun x_13 => ?_
      refine J_istore_n (L' := [(0, .inr (64, some o0)), (1, .inl c1), (2, .inl x_13), (3, .inl x3)]) C dX11_till_36 (Nat.le_of_ble_eq_true rfl) rfl ?_
      refine J_iinc C 3 dX11_till_37 (zi9 rfl rfl) (Nat.le_of_ble_eq_true rfl) rfl fun x_14 => ?_
      refine J_goto C 17 dX11_till_40 rfl ?_
      exact ih _ _ _
set_option maxHeartbeats 4000000 in
set_option maxRecDepth 20000 in
theorem kX11_till (nf : Nat) (s0 : zS) (i0 : Nat) (x1 : Int) : zCt zw yX11_till cX11_till 4 (some .int) 1 22 0 0 eI [.inr (64, some i0), .inl x1] s0 (fX11_till nf s0 i0 x1) := by
  refine zCt_on (own := RX11) (nm := "till") rfl rfl (by decide) (Nat.le_of_ble_eq_true rfl) fun K C => ?_
  show zJ zw 4 K _ 0 0 0 [(0, .inr (64, some i0)), (1, .inl x1)] [] s0 (fX11_till nf s0 i0 x1)
  unfold fX11_till
  refine J_iload_n C 1 dX11_till_0 rfl ?_
  refine J_iconst C dX11_till_1 (zi9 rfl rfl) ?_
  refine J_bipush C dX11_till_2 (zi9 rfl rfl) (by decide) ?_
  refine J_callSI (S := []) (avs := [.inl x1, .inl 0, .inl 6]) C yw_87 (kX11_in _ _ _ _) dX11_till_4 rfl (Nat.le_of_ble_eq_true rfl) (by decide) fun x_2 s_1 => ?_
  refine J_if_ne C 13 dX11_till_7 rfl (fun _ => ?_) (fun _ => ?_)
  · refine J_iconst C dX11_till_13 (zi9 rfl rfl) ?_
    refine J_istore_n (L' := [(0, .inr (64, some i0)), (1, .inl x1), (2, .inl 0)]) C dX11_till_14 (Nat.le_of_ble_eq_true rfl) rfl ?_
    refine J_iconst C dX11_till_15 (zi9 rfl rfl) ?_
    refine J_istore_n (L' := [(0, .inr (64, some i0)), (1, .inl x1), (2, .inl 0), (3, .inl 0)]) C dX11_till_16 (Nat.le_of_ble_eq_true rfl) rfl ?_
    exact kX11_till_L17 C _ _ _ _ _ _
  · refine J_bipush C dX11_till_10 (zi9 rfl rfl) (by decide) ?_
    exact J_iret C dX11_till_12 (by decide) (by decide)
def fX11_could (nf : Nat) (s0 : zS) (i0 : Nat) (x1 : Int) : Option (Int × zS) :=
  cl_ (fX11_in s0 x1 0 3000) fun (x_2 : Int) (s_1 : zS) => if x_2 = 0 then (some ((-2), s_1)) else (cl_ (fX11_layChange nf s_1 i0 x1) fun (_ : Unit) (s_3 : zS) => some (gI s_3 64 i0 46, s_3))
set_option maxHeartbeats 4000000 in
set_option maxRecDepth 20000 in
theorem kX11_could (nf : Nat) (s0 : zS) (i0 : Nat) (x1 : Int) : zCt zw yX11_could cX11_could 2 (some .int) 3 73 0 0 eI [.inr (64, some i0), .inl x1] s0 (fX11_could nf s0 i0 x1) := by
  refine zCt_on (own := RX11) (nm := "could") rfl rfl (by decide) (Nat.le_of_ble_eq_true rfl) fun K C => ?_
  show zJ zw 2 K _ 0 0 0 [(0, .inr (64, some i0)), (1, .inl x1)] [] s0 (fX11_could nf s0 i0 x1)
  unfold fX11_could
  refine J_iload_n C 1 dX11_could_0 rfl ?_
  refine J_iconst C dX11_could_1 (zi9 rfl rfl) ?_
  refine J_sipush C dX11_could_2 (zi9 rfl rfl) (by decide) ?_
  refine J_callSI (S := []) (avs := [.inl x1, .inl 0, .inl 3000]) C yw_87 (kX11_in _ _ _ _) dX11_could_5 rfl (Nat.le_of_ble_eq_true rfl) (by decide) fun x_2 s_1 => ?_
  refine J_if_ne C 14 dX11_could_8 rfl (fun _ => ?_) (fun _ => ?_)
  · refine J_aload_n C 0 dX11_could_14 rfl ?_
    refine J_iload_n C 1 dX11_could_15 rfl ?_
    refine J_callVV (S := []) (avs := [.inl x1]) C zx64 yw_99 rfl (kX11_layChange _ _ _ _) dX11_could_16 rfl (Nat.le_of_ble_eq_true rfl) (by decide) fun _ s_3 => ?_
    refine J_aload_n C 0 dX11_could_19 rfl ?_
    refine gf_64_46 C dX11_could_20 q_890 ?_
    exact J_iret C dX11_could_23 (by decide) (by decide)
  · refine J_bipush C dX11_could_11 (zi9 rfl rfl) (by decide) ?_
    exact J_iret C dX11_could_13 (by decide) (by decide)
def fX11_gives (nf : Nat) (s0 : zS) (i0 : Nat) (x1 : Int) (x2 : Int) : Option (Int × zS) :=
  cl_ (fX11_in s0 x1 0 3000) fun (x_2 : Int) (s_1 : zS) => if x_2 = 0 then (some ((-2), s_1)) else (cl_ (fX11_in s_1 x2 0 5) fun (x_4 : Int) (s_3 : zS) => if x_4 = 0 then (some ((-2), s_3)) else (cl_ (fX11_layChange nf s_3 i0 x1) fun (_ : Unit) (s_5 : zS) => if gI s_5 64 i0 46 = (-9) then (some ((-9), s_5)) else (nm_ (gR s_5 64 i0 44) fun (r_6 : Option Nat) => Option.bind r_6 fun i_7 => g_ ((0 : Int) ≤ x2 ∧ (x2 : Int) < 6) (some (gI s_5 110 i_7 (Int.toNat (x2)), s_5)))))
set_option maxHeartbeats 4000000 in
set_option maxRecDepth 20000 in
theorem kX11_gives (nf : Nat) (s0 : zS) (i0 : Nat) (x1 : Int) (x2 : Int) : zCt zw yX11_gives cX11_gives 3 (some .int) 3 73 0 0 eI [.inr (64, some i0), .inl x1, .inl x2] s0 (fX11_gives nf s0 i0 x1 x2) := by
  refine zCt_on (own := RX11) (nm := "gives") rfl rfl (by decide) (Nat.le_of_ble_eq_true rfl) fun K C => ?_
  show zJ zw 3 K _ 0 0 0 [(0, .inr (64, some i0)), (1, .inl x1), (2, .inl x2)] [] s0 (fX11_gives nf s0 i0 x1 x2)
  unfold fX11_gives
  refine J_iload_n C 1 dX11_gives_0 rfl ?_
  refine J_iconst C dX11_gives_1 (zi9 rfl rfl) ?_
  refine J_sipush C dX11_gives_2 (zi9 rfl rfl) (by decide) ?_
  refine J_callSI (S := []) (avs := [.inl x1, .inl 0, .inl 3000]) C yw_87 (kX11_in _ _ _ _) dX11_gives_5 rfl (Nat.le_of_ble_eq_true rfl) (by decide) fun x_2 s_1 => ?_
  refine J_if_eq C 20 dX11_gives_8 rfl (fun _ => ?_) (fun _ => ?_)
  · refine J_bipush C dX11_gives_20 (zi9 rfl rfl) (by decide) ?_
    exact J_iret C dX11_gives_22 (by decide) (by decide)
  · refine J_iload_n C 2 dX11_gives_11 rfl ?_
    refine J_iconst C dX11_gives_12 (zi9 rfl rfl) ?_
    refine J_iconst C dX11_gives_13 (zi9 rfl rfl) ?_
    refine J_callSI (S := []) (avs := [.inl x2, .inl 0, .inl 5]) C yw_87 (kX11_in _ _ _ _) dX11_gives_14 rfl (Nat.le_of_ble_eq_true rfl) (by decide) fun x_4 s_3 => ?_
    refine J_if_ne C 23 dX11_gives_17 rfl (fun _ => ?_) (fun _ => ?_)
    · refine J_aload_n C 0 dX11_gives_23 rfl ?_
      refine J_iload_n C 1 dX11_gives_24 rfl ?_
      refine J_callVV (S := []) (avs := [.inl x1]) C zx64 yw_99 rfl (kX11_layChange _ _ _ _) dX11_gives_25 rfl (Nat.le_of_ble_eq_true rfl) (by decide) fun _ s_5 => ?_
      refine J_aload_n C 0 dX11_gives_28 rfl ?_
      refine gf_64_46 C dX11_gives_29 q_890 ?_
      refine J_bipush C dX11_gives_32 (zi9 rfl rfl) (by decide) ?_
      refine J_ic_ne C 42 dX11_gives_34 rfl (fun _ => ?_) (fun _ => ?_)
      · refine J_aload_n C 0 dX11_gives_42 rfl ?_
        refine gf_64_44 C dX11_gives_43 q_888 ?_
        refine J_nmR fun r_6 => ?_
        refine J_iload_n C 2 dX11_gives_46 rfl ?_
        refine J_bind fun i_7 e_8 => ?_
        subst e_8
        refine J_g fun h_9 => ?_
        refine J_iald (t := 110) (N := 6) C (Nat.le_of_ble_eq_true rfl) rfl rfl h_9 dX11_gives_47 ?_
        exact J_iret C dX11_gives_48 (by decide) (by decide)
      · refine J_bipush C dX11_gives_37 (zi9 rfl rfl) (by decide) ?_
        refine J_goto C 48 dX11_gives_39 rfl ?_
        exact J_iret C dX11_gives_48 (by decide) (by decide)
    · refine J_bipush C dX11_gives_20 (zi9 rfl rfl) (by decide) ?_
      exact J_iret C dX11_gives_22 (by decide) (by decide)
def fX11_ring (s0 : zS) (i0 : Nat) (x1 : Int) : Option (Unit × zS) :=
  nm_ (gR s0 64 i0 10) fun (r_1 : Option Nat) => Option.bind r_1 fun i_2 => g_ ((0 : Int) ≤ x1 ∧ (x1 : Int) < 16) (if gI s0 76 i_2 (Int.toNat (x1)) = 0 then (if gI s0 64 i0 47 = 300 then (nm_ (gR s0 64 i0 49) fun (r_16 : Option Nat) => Option.bind r_16 fun i_17 => g_ ((0 : Int) ≤ gI s0 64 i0 48 ∧ (gI s0 64 i0 48 : Int) < 300) (up_ (sI s0 115 i_17 (Int.toNat (gI s0 64 i0 48)) x1) fun (s_20 : zS) => nm_ (gR s_20 64 i0 50) fun (r_21 : Option Nat) => Option.bind r_21 fun i_22 => g_ ((0 : Int) ≤ gI s_20 64 i0 48 ∧ (gI s_20 64 i0 48 : Int) < 300) (up_ (sI s_20 116 i_22 (Int.toNat (gI s_20 64 i0 48)) (gI s_20 64 i0 13)) fun (s_25 : zS) => up_ (sI s_25 64 i0 48 (Int.tmod (wr ((gI s_25 64 i0 48) + 1)) 300)) fun (s_26 : zS) => some ((), s_26)))) else (nm_ (gR s0 64 i0 49) fun (r_5 : Option Nat) => Option.bind r_5 fun i_6 => g_ ((0 : Int) ≤ gI s0 64 i0 47 ∧ (gI s0 64 i0 47 : Int) < 300) (up_ (sI s0 115 i_6 (Int.toNat (gI s0 64 i0 47)) x1) fun (s_9 : zS) => nm_ (gR s_9 64 i0 50) fun (r_10 : Option Nat) => Option.bind r_10 fun i_11 => g_ ((0 : Int) ≤ gI s_9 64 i0 47 ∧ (gI s_9 64 i0 47 : Int) < 300) (up_ (sI s_9 116 i_11 (Int.toNat (gI s_9 64 i0 47)) (gI s_9 64 i0 13)) fun (s_14 : zS) => up_ (sI s_14 64 i0 47 (wr ((gI s_14 64 i0 47) + 1))) fun (s_15 : zS) => some ((), s_15))))) else (some ((), s0)))
set_option maxHeartbeats 4000000 in
set_option maxRecDepth 20000 in
theorem kX11_ring (s0 : zS) (i0 : Nat) (x1 : Int) : zCt zw yX11_ring cX11_ring 2 none 0 0 0 0 eV [.inr (64, some i0), .inl x1] s0 (fX11_ring s0 i0 x1) := by
  refine zCt_on (own := RX11) (nm := "ring") rfl rfl (by decide) (Nat.le_of_ble_eq_true rfl) fun K C => ?_
  show zJ zw 2 K _ 0 0 0 [(0, .inr (64, some i0)), (1, .inl x1)] [] s0 (fX11_ring s0 i0 x1)
  unfold fX11_ring
  refine J_aload_n C 0 dX11_ring_0 rfl ?_
  refine gf_64_10 C dX11_ring_1 q_854 ?_
  refine J_nmR fun r_1 => ?_
  refine J_iload_n C 1 dX11_ring_4 rfl ?_
  refine J_bind fun i_2 e_3 => ?_
  subst e_3
  refine J_g fun h_4 => ?_
  refine J_bald (t := 76) (N := 16) C (Nat.le_of_ble_eq_true rfl) rfl rfl h_4 dX11_ring_5 ?_
  refine J_if_eq C 10 dX11_ring_6 rfl (fun _ => ?_) (fun _ => ?_)
  · refine J_aload_n C 0 dX11_ring_10 rfl ?_
    refine gf_64_47 C dX11_ring_11 q_891 ?_
    refine J_sipush C dX11_ring_14 (zi9 rfl rfl) (by decide) ?_
    refine J_ic_ne C 60 dX11_ring_17 rfl (fun _ => ?_) (fun _ => ?_)
    · refine J_aload_n C 0 dX11_ring_60 rfl ?_
      refine gf_64_49 C dX11_ring_61 q_893 ?_
      refine J_nmR fun r_5 => ?_
      refine J_aload_n C 0 dX11_ring_64 rfl ?_
      refine gf_64_47 C dX11_ring_65 q_891 ?_
      refine J_iload_n C 1 dX11_ring_68 rfl ?_
      refine J_bind fun i_6 e_7 => ?_
      subst e_7
      refine J_g fun h_8 => ?_
      refine J_iast (t := 115) (N := 300) C (Nat.le_of_ble_eq_true rfl) rfl rfl h_8 dX11_ring_69 fun s_9 => ?_
      refine J_aload_n C 0 dX11_ring_70 rfl ?_
      refine gf_64_50 C dX11_ring_71 q_894 ?_
      refine J_nmR fun r_10 => ?_
      refine J_aload_n C 0 dX11_ring_74 rfl ?_
      refine gf_64_47 C dX11_ring_75 q_891 ?_
      refine J_aload_n C 0 dX11_ring_78 rfl ?_
      refine gf_64_13 C dX11_ring_79 q_857 ?_
      refine J_bind fun i_11 e_12 => ?_
      subst e_12
      refine J_g fun h_13 => ?_
      refine J_iast (t := 116) (N := 300) C (Nat.le_of_ble_eq_true rfl) rfl rfl h_13 dX11_ring_82 fun s_14 => ?_
      refine J_aload_n C 0 dX11_ring_83 rfl ?_
      refine J_dup C dX11_ring_84 ?_
      refine gf_64_47 C dX11_ring_85 q_891 ?_
      refine J_iconst C dX11_ring_88 (zi9 rfl rfl) ?_
      refine J_iadd C dX11_ring_89 ?_
      refine pf_64_47 C dX11_ring_90 q_891 fun s_15 => ?_
      exact J_vret C dX11_ring_93 (by decide) (by decide)
    · refine J_aload_n C 0 dX11_ring_20 rfl ?_
      refine gf_64_49 C dX11_ring_21 q_893 ?_
      refine J_nmR fun r_16 => ?_
      refine J_aload_n C 0 dX11_ring_24 rfl ?_
      refine gf_64_48 C dX11_ring_25 q_892 ?_
      refine J_iload_n C 1 dX11_ring_28 rfl ?_
      refine J_bind fun i_17 e_18 => ?_
      subst e_18
      refine J_g fun h_19 => ?_
      refine J_iast (t := 115) (N := 300) C (Nat.le_of_ble_eq_true rfl) rfl rfl h_19 dX11_ring_29 fun s_20 => ?_
      refine J_aload_n C 0 dX11_ring_30 rfl ?_
      refine gf_64_50 C dX11_ring_31 q_894 ?_
      refine J_nmR fun r_21 => ?_
      refine J_aload_n C 0 dX11_ring_34 rfl ?_
      refine gf_64_48 C dX11_ring_35 q_892 ?_
      refine J_aload_n C 0 dX11_ring_38 rfl ?_
      refine gf_64_13 C dX11_ring_39 q_857 ?_
      refine J_bind fun i_22 e_23 => ?_
      subst e_23
      refine J_g fun h_24 => ?_
      refine J_iast (t := 116) (N := 300) C (Nat.le_of_ble_eq_true rfl) rfl rfl h_24 dX11_ring_42 fun s_25 => ?_
      refine J_aload_n C 0 dX11_ring_43 rfl ?_
      refine J_aload_n C 0 dX11_ring_44 rfl ?_
      refine gf_64_48 C dX11_ring_45 q_892 ?_
      refine J_iconst C dX11_ring_48 (zi9 rfl rfl) ?_
      refine J_iadd C dX11_ring_49 ?_
      refine J_sipush C dX11_ring_50 (zi9 rfl rfl) (by decide) ?_
      refine J_irem C dX11_ring_53 (by decide) ?_
      refine pf_64_48 C dX11_ring_54 q_892 fun s_26 => ?_
      refine J_goto C 93 dX11_ring_57 rfl ?_
      exact J_vret C dX11_ring_93 (by decide) (by decide)
  · exact J_vret C dX11_ring_9 (by decide) (by decide)
def fX11_rightChild_L11 (o0 : Nat) (c1 : Int) (c2 : Int) (nf : Nat) : Nat → zS → Int → Int → Option (Int × zS)
  | 0, _, _, _ => none
  | n + 1, s0, x3, x4 =>
    if 0 < x4 then (nm_ (gR s0 64 o0 1) fun (r_2 : Option Nat) => Option.bind r_2 fun i_3 => g_ ((0 : Int) ≤ x4 ∧ (x4 : Int) < 16) (nm_ (fun (s_6 : zS) (y_7 : Int) => nm_ (wr (x4 + (-1))) fun (x_8 : Int) => fX11_rightChild_L11 o0 c1 c2 nf n s_6 y_7 x_8) fun (j43 : zS → Int → Option (Int × zS)) => if gI s0 67 i_3 (Int.toNat (x4)) = c1 then (cl_ (fX11_liesBelow nf s0 o0 c2 x4) fun (x_10 : Int) (s_9 : zS) => if x_10 = 0 then (j43 s_9 x4) else (some (x4, s_9))) else (j43 s0 x3))) else (some (x3, s0))
def fX11_rightChild (nf : Nat) (s0 : zS) (i0 : Nat) (x1 : Int) (x2 : Int) : Option (Int × zS) :=
  nm_ (wr ((gI s0 64 i0 0) - 1)) fun (x_1 : Int) => fX11_rightChild_L11 i0 x1 x2 nf nf s0 (-9) x_1
set_option maxHeartbeats 4000000 in
set_option maxRecDepth 20000 in
theorem kX11_rightChild_L11 {K : zKx} (C : zC zw 5 K RX11 cX11_rightChild "rightChild" (some .int) 1 23 0 0)  (nf : Nat) (o0 : Nat) (c1 : Int) (c2 : Int) : ∀ (n : Nat) (s0 : zS) (x3 : Int) (x4 : Int), zJ zw 5 K (zQm zw eI 0 0 K) 0 0 11 [(0, .inr (64, some o0)), (1, .inl c1), (2, .inl c2), (3, .inl x3), (4, .inl x4)] [] s0 (fX11_rightChild_L11 o0 c1 c2 nf n s0 x3 x4) := by
  intro n
  induction n with
  | zero => intro s0 x3 x4; exact J_none
  | succ n ih =>
    intro s0 x3 x4
    rw [fX11_rightChild_L11]
    refine J_iload C 4 dX11_rightChild_11 rfl ?_
    refine J_if_le C 49 dX11_rightChild_13 rfl (fun _ => ?_) (fun _ => ?_)
    · refine J_iload_n C 3 dX11_rightChild_49 rfl ?_
      exact J_iret C dX11_rightChild_50 (by decide) (by decide)
    · refine J_aload_n C 0 dX11_rightChild_16 rfl ?_
      refine gf_64_1 C dX11_rightChild_17 q_845 ?_
      refine J_nmR fun r_2 => ?_
      refine J_iload C 4 dX11_rightChild_20 rfl ?_
      refine J_bind fun i_3 e_4 => ?_
      subst e_4
      refine J_g fun h_5 => ?_
      refine J_iald (t := 67) (N := 16) C (Nat.le_of_ble_eq_true rfl) rfl rfl h_5 dX11_rightChild_22 ?_
      refine J_iload_n C 1 dX11_rightChild_23 rfl ?_
      refine J_join (fun j43 => ∀ (s_6 : zS) (y_7 : Int), zJ zw 5 K (zQm zw eI 0 0 K) 0 0 43 [(0, .inr (64, some o0)), (1, .inl c1), (2, .inl c2), (3, .inl y_7), (4, .inl x4)] [] s_6 (j43 s_6 y_7)) ?_ fun j43 hj43 => ?_
      · intro s_6 y_7
        refine J_iinc C 4 dX11_rightChild_43 (zi9 rfl rfl) (Nat.le_of_ble_eq_true rfl) rfl fun x_8 => ?_
        refine J_goto C 11 dX11_rightChild_46 rfl ?_
        exact ih _ _ _
      · refine J_ic_ne C 43 dX11_rightChild_24 rfl (fun _ => ?_) (fun _ => ?_)
        · exact hj43 _ _
        · refine J_aload_n C 0 dX11_rightChild_27 rfl ?_
          refine J_iload_n C 2 dX11_rightChild_28 rfl ?_
          refine J_iload C 4 dX11_rightChild_29 rfl ?_
          refine J_callVI (S := []) (avs := [.inl c2, .inl x4]) C zx64 yw_93 rfl (kX11_liesBelow _ _ _ _ _) dX11_rightChild_31 rfl (Nat.le_of_ble_eq_true rfl) (by decide) fun x_10 s_9 => ?_
          refine J_if_eq C 40 dX11_rightChild_34 rfl (fun _ => ?_) (fun _ => ?_)
          · refine J_iload C 4 dX11_rightChild_40 rfl ?_
            refine J_istore_n (L' := [(0, .inr (64, some o0)), (1, .inl c1), (2, .inl c2), (3, .inl x4), (4, .inl x4)]) C dX11_rightChild_42 (Nat.le_of_ble_eq_true rfl) rfl ?_
            exact hj43 _ _
          · refine J_iload C 4 dX11_rightChild_37 rfl ?_
            exact J_iret C dX11_rightChild_39 (by decide) (by decide)
set_option maxHeartbeats 4000000 in
set_option maxRecDepth 20000 in
theorem kX11_rightChild (nf : Nat) (s0 : zS) (i0 : Nat) (x1 : Int) (x2 : Int) : zCt zw yX11_rightChild cX11_rightChild 5 (some .int) 1 23 0 0 eI [.inr (64, some i0), .inl x1, .inl x2] s0 (fX11_rightChild nf s0 i0 x1 x2) := by
  refine zCt_on (own := RX11) (nm := "rightChild") rfl rfl (by decide) (Nat.le_of_ble_eq_true rfl) fun K C => ?_
  show zJ zw 5 K _ 0 0 0 [(0, .inr (64, some i0)), (1, .inl x1), (2, .inl x2)] [] s0 (fX11_rightChild nf s0 i0 x1 x2)
  unfold fX11_rightChild
  refine J_bipush C dX11_rightChild_0 (zi9 rfl rfl) (by decide) ?_
  refine J_istore_n (L' := [(0, .inr (64, some i0)), (1, .inl x1), (2, .inl x2), (3, .inl (-9))]) C dX11_rightChild_2 (Nat.le_of_ble_eq_true rfl) rfl ?_
  refine J_aload_n C 0 dX11_rightChild_3 rfl ?_
  refine gf_64_0 C dX11_rightChild_4 q_844 ?_
  refine J_iconst C dX11_rightChild_7 (zi9 rfl rfl) ?_
  refine J_isub C dX11_rightChild_8 ?_
  refine J_nm fun x_1 => ?_
  refine J_istore (L' := [(0, .inr (64, some i0)), (1, .inl x1), (2, .inl x2), (3, .inl (-9)), (4, .inl x_1)]) C dX11_rightChild_9 (Nat.le_of_ble_eq_true rfl) rfl ?_
  exact kX11_rightChild_L11 C _ _ _ _ _ _ _ _
def fX11_nextChild_L5 (o0 : Nat) (c1 : Int) (c2 : Int) : Nat → zS → Int → Int → Option (Int × zS)
  | 0, _, _, _ => none
  | n + 1, s0, x3, x4 =>
    if x4 < gI s0 64 o0 0 then (nm_ (fun (s_1 : zS) (u_2 : Int) => nm_ (gR s_1 64 o0 1) fun (r_3 : Option Nat) => Option.bind r_3 fun i_4 => g_ ((0 : Int) ≤ u_2 ∧ (u_2 : Int) < 16) (if gI s_1 67 i_4 (Int.toNat (u_2)) = c1 then (some (u_2, s_1)) else (nm_ (wr (x4 + 1)) fun (x_7 : Int) => fX11_nextChild_L5 o0 c1 c2 n s_1 u_2 x_7))) fun (j31 : zS → Int → Option (Int × zS)) => if wr (x3 + 1) < gI s0 64 o0 0 then (j31 s0 (wr (x3 + 1))) else (j31 s0 1)) else (some (c2, s0))
def fX11_nextChild (nf : Nat) (s0 : zS) (i0 : Nat) (x1 : Int) (x2 : Int) : Option (Int × zS) :=
  fX11_nextChild_L5 i0 x1 x2 nf s0 x2 0
set_option maxHeartbeats 4000000 in
set_option maxRecDepth 20000 in
theorem kX11_nextChild_L5 {K : zKx} (C : zC zw 5 K RX11 cX11_nextChild "nextChild" (some .int) 0 0 0 0)  (o0 : Nat) (c1 : Int) (c2 : Int) : ∀ (n : Nat) (s0 : zS) (x3 : Int) (x4 : Int), zJ zw 5 K (zQm zw eI 0 0 K) 0 0 5 [(0, .inr (64, some o0)), (1, .inl c1), (2, .inl c2), (3, .inl x3), (4, .inl x4)] [] s0 (fX11_nextChild_L5 o0 c1 c2 n s0 x3 x4) := by
  intro n
  induction n with
  | zero => intro s0 x3 x4; exact J_none
  | succ n ih =>
    intro s0 x3 x4
    rw [fX11_nextChild_L5]
    refine J_iload C 4 dX11_nextChild_5 rfl ?_
    refine J_aload_n C 0 dX11_nextChild_7 rfl ?_
    refine gf_64_0 C dX11_nextChild_8 q_844 ?_
    refine J_ic_ge C 50 dX11_nextChild_11 rfl (fun _ => ?_) (fun _ => ?_)
    · refine J_iload_n C 2 dX11_nextChild_50 rfl ?_
      exact J_iret C dX11_nextChild_51 (by decide) (by decide)
    · refine J_iload_n C 3 dX11_nextChild_14 rfl ?_
      refine J_iconst C dX11_nextChild_15 (zi9 rfl rfl) ?_
      refine J_iadd C dX11_nextChild_16 ?_
      refine J_aload_n C 0 dX11_nextChild_17 rfl ?_
      refine gf_64_0 C dX11_nextChild_18 q_844 ?_
      refine J_join (fun j31 => ∀ (s_1 : zS) (u_2 : Int), zJ zw 5 K (zQm zw eI 0 0 K) 0 0 31 [(0, .inr (64, some o0)), (1, .inl c1), (2, .inl c2), (4, .inl x4)] [.inl u_2] s_1 (j31 s_1 u_2)) ?_ fun j31 hj31 => ?_
      · intro s_1 u_2
        refine J_istore_n (L' := [(0, .inr (64, some o0)), (1, .inl c1), (2, .inl c2), (3, .inl u_2), (4, .inl x4)]) C dX11_nextChild_31 (Nat.le_of_ble_eq_true rfl) rfl ?_
        refine J_aload_n C 0 dX11_nextChild_32 rfl ?_
        refine gf_64_1 C dX11_nextChild_33 q_845 ?_
        refine J_nmR fun r_3 => ?_
        refine J_iload_n C 3 dX11_nextChild_36 rfl ?_
        refine J_bind fun i_4 e_5 => ?_
        subst e_5
        refine J_g fun h_6 => ?_
        refine J_iald (t := 67) (N := 16) C (Nat.le_of_ble_eq_true rfl) rfl rfl h_6 dX11_nextChild_37 ?_
        refine J_iload_n C 1 dX11_nextChild_38 rfl ?_
        refine J_ic_ne C 44 dX11_nextChild_39 rfl (fun _ => ?_) (fun _ => ?_)
        · refine J_iinc C 4 dX11_nextChild_44 (zi9 rfl rfl) (Nat.le_of_ble_eq_true rfl) rfl fun x_7 => ?_
          refine J_goto C 5 dX11_nextChild_47 rfl ?_
          exact ih _ _ _
        · refine J_iload_n C 3 dX11_nextChild_42 rfl ?_
          exact J_iret C dX11_nextChild_43 (by decide) (by decide)
      · refine J_ic_lt C 28 dX11_nextChild_21 rfl (fun _ => ?_) (fun _ => ?_)
        · refine J_iload_n C 3 dX11_nextChild_28 rfl ?_
          refine J_iconst C dX11_nextChild_29 (zi9 rfl rfl) ?_
          refine J_iadd C dX11_nextChild_30 ?_
          refine J_loc (L' := [(0, .inr (64, some o0)), (1, .inl c1), (2, .inl c2), (4, .inl x4)]) [0, 1, 2, 4] rfl ?_
          exact hj31 _ _
        · refine J_iconst C dX11_nextChild_24 (zi9 rfl rfl) ?_
          refine J_goto C 31 dX11_nextChild_25 rfl ?_
          refine J_loc (L' := [(0, .inr (64, some o0)), (1, .inl c1), (2, .inl c2), (4, .inl x4)]) [0, 1, 2, 4] rfl ?_
          exact hj31 _ _
set_option maxHeartbeats 4000000 in
set_option maxRecDepth 20000 in
theorem kX11_nextChild (nf : Nat) (s0 : zS) (i0 : Nat) (x1 : Int) (x2 : Int) : zCt zw yX11_nextChild cX11_nextChild 5 (some .int) 0 0 0 0 eI [.inr (64, some i0), .inl x1, .inl x2] s0 (fX11_nextChild nf s0 i0 x1 x2) := by
  refine zCt_on (own := RX11) (nm := "nextChild") rfl rfl (by decide) (Nat.le_of_ble_eq_true rfl) fun K C => ?_
  show zJ zw 5 K _ 0 0 0 [(0, .inr (64, some i0)), (1, .inl x1), (2, .inl x2)] [] s0 (fX11_nextChild nf s0 i0 x1 x2)
  unfold fX11_nextChild
  refine J_iload_n C 2 dX11_nextChild_0 rfl ?_
  refine J_istore_n (L' := [(0, .inr (64, some i0)), (1, .inl x1), (2, .inl x2), (3, .inl x2)]) C dX11_nextChild_1 (Nat.le_of_ble_eq_true rfl) rfl ?_
  refine J_iconst C dX11_nextChild_2 (zi9 rfl rfl) ?_
  refine J_istore (L' := [(0, .inr (64, some i0)), (1, .inl x1), (2, .inl x2), (3, .inl x2), (4, .inl 0)]) C dX11_nextChild_3 (Nat.le_of_ble_eq_true rfl) rfl ?_
  exact kX11_nextChild_L5 C _ _ _ _ _ _ _
def fX11_comeHome_L36 (k62 : zS → Option (Unit × zS)) (o0 : Nat) (c1 : Int) (c2 : Int) (nf : Nat) : Nat → zS → Int → Option (Unit × zS)
  | 0, _, _ => none
  | n + 1, s0, x4 =>
    if x4 < 6 then (nm_ (gR s0 64 o0 25) fun (r_15 : Option Nat) => Option.bind r_15 fun i_16 => g_ ((0 : Int) ≤ wr ((wr (6 * c1)) + x4) ∧ (wr ((wr (6 * c1)) + x4) : Int) < 144) (up_ (sI s0 91 i_16 (Int.toNat (wr ((wr (6 * c1)) + x4))) 0) fun (s_19 : zS) => nm_ (wr (x4 + 1)) fun (x_20 : Int) => fX11_comeHome_L36 k62 o0 c1 c2 nf n s_19 x_20)) else (k62 s0)
def fX11_comeHome (nf : Nat) (s0 : zS) (i0 : Nat) (x1 : Int) : Option (Unit × zS) :=
  nm_ (gR s0 64 i0 15) fun (r_1 : Option Nat) => Option.bind r_1 fun i_2 => g_ ((0 : Int) ≤ x1 ∧ (x1 : Int) < 24) (nm_ (gI s0 81 i_2 (Int.toNat (x1))) fun (x_5 : Int) => cl_ (fX11_worthOf nf s0 i0 x1) fun (x_7 : Int) (s_6 : zS) => up_ (sI s_6 64 i0 28 (wr ((gI s_6 64 i0 28) + x_7))) fun (s_8 : zS) => nm_ (gR s_8 64 i0 33) fun (r_9 : Option Nat) => Option.bind r_9 fun i_10 => g_ ((0 : Int) ≤ x_5 ∧ (x_5 : Int) < 16) (g_ ((0 : Int) ≤ x_5 ∧ (x_5 : Int) < 16) (up_ (sI s_8 99 i_10 (Int.toNat (x_5)) (wr ((gI s_8 99 i_10 (Int.toNat (x_5))) + x_7))) fun (s_14 : zS) => fX11_comeHome_L36 (fun (s_15 : zS) => nm_ (gR s_15 64 i0 22) fun (r_16 : Option Nat) => Option.bind r_16 fun i_17 => g_ ((0 : Int) ≤ x1 ∧ (x1 : Int) < 24) (if 0 < gI s_15 88 i_17 (Int.toNat (x1)) then (nm_ (gR s_15 64 i0 24) fun (r_30 : Option Nat) => Option.bind r_30 fun i_31 => g_ ((0 : Int) ≤ x1 ∧ (x1 : Int) < 24) (nm_ (wr ((gI s_15 64 i0 13) - (gI s_15 90 i_31 (Int.toNat (x1))))) fun (x_34 : Int) => nm_ (gR s_15 64 i0 31) fun (r_35 : Option Nat) => nm_ (gR s_15 64 i0 29) fun (r_36 : Option Nat) => Option.bind r_36 fun i_37 => g_ ((0 : Int) ≤ x_5 ∧ (x_5 : Int) < 16) (nm_ (fun (s_40 : zS) (u_41 : Int) => Option.bind r_35 fun i_42 => g_ ((0 : Int) ≤ x_5 ∧ (x_5 : Int) < 16) (up_ (sI s_40 97 i_42 (Int.toNat (x_5)) u_41) fun (s_45 : zS) => nm_ (gR s_45 64 i0 29) fun (r_46 : Option Nat) => Option.bind r_46 fun i_47 => g_ ((0 : Int) ≤ x_5 ∧ (x_5 : Int) < 16) (g_ ((0 : Int) ≤ x_5 ∧ (x_5 : Int) < 16) (up_ (sI s_45 95 i_47 (Int.toNat (x_5)) (wr ((gI s_45 95 i_47 (Int.toNat (x_5))) + 1))) fun (s_51 : zS) => nm_ (gR s_51 64 i0 30) fun (r_52 : Option Nat) => Option.bind r_52 fun i_53 => g_ ((0 : Int) ≤ x_5 ∧ (x_5 : Int) < 16) (nm_ (gR s_51 64 i0 22) fun (r_56 : Option Nat) => Option.bind r_56 fun i_57 => g_ ((0 : Int) ≤ x1 ∧ (x1 : Int) < 24) (nm_ (fun (s_60 : zS) (u_61 : Int) => g_ ((0 : Int) ≤ x_5 ∧ (x_5 : Int) < 16) (up_ (sI s_60 96 i_53 (Int.toNat (x_5)) (wr ((gI s_51 96 i_53 (Int.toNat (x_5))) + u_61))) fun (s_63 : zS) => nm_ (gR s_63 64 i0 32) fun (r_64 : Option Nat) => Option.bind r_64 fun i_65 => g_ ((0 : Int) ≤ x_5 ∧ (x_5 : Int) < 16) (g_ ((0 : Int) ≤ x_5 ∧ (x_5 : Int) < 16) (up_ (sI s_63 98 i_65 (Int.toNat (x_5)) (wr ((gI s_63 98 i_65 (Int.toNat (x_5))) + x_34))) fun (s_69 : zS) => nm_ (gR s_69 64 i0 22) fun (r_70 : Option Nat) => Option.bind r_70 fun i_71 => g_ ((0 : Int) ≤ x1 ∧ (x1 : Int) < 24) (up_ (sI s_69 88 i_71 (Int.toNat (x1)) 0) fun (s_74 : zS) => nm_ (gR s_74 64 i0 16) fun (r_75 : Option Nat) => Option.bind r_75 fun i_76 => g_ ((0 : Int) ≤ x1 ∧ (x1 : Int) < 24) (up_ (sI s_74 82 i_76 (Int.toNat (x1)) 0) fun (s_79 : zS) => some ((), s_79))))))) fun (j153 : zS → Int → Option (Unit × zS)) => if gI s_51 88 i_57 (Int.toNat (x1)) = 3 then (j153 s_51 1) else (j153 s_51 0))))))) fun (j120 : zS → Int → Option (Unit × zS)) => nm_ (fun (s_80 : zS) => j120 s_80 x_34) fun (j109 : zS → Option (Unit × zS)) => if gI s_15 95 i_37 (Int.toNat (x_5)) = 0 then (j109 s_15) else (nm_ (gR s_15 64 i0 31) fun (r_81 : Option Nat) => Option.bind r_81 fun i_82 => g_ ((0 : Int) ≤ x_5 ∧ (x_5 : Int) < 16) (if gI s_15 97 i_82 (Int.toNat (x_5)) < x_34 then (j109 s_15) else (nm_ (gR s_15 64 i0 31) fun (r_85 : Option Nat) => Option.bind r_85 fun i_86 => g_ ((0 : Int) ≤ x_5 ∧ (x_5 : Int) < 16) (j120 s_15 (gI s_15 97 i_86 (Int.toNat (x_5)))))))))) else (nm_ (gR s_15 64 i0 22) fun (r_20 : Option Nat) => Option.bind r_20 fun i_21 => g_ ((0 : Int) ≤ x1 ∧ (x1 : Int) < 24) (up_ (sI s_15 88 i_21 (Int.toNat (x1)) 0) fun (s_24 : zS) => nm_ (gR s_24 64 i0 16) fun (r_25 : Option Nat) => Option.bind r_25 fun i_26 => g_ ((0 : Int) ≤ x1 ∧ (x1 : Int) < 24) (up_ (sI s_24 82 i_26 (Int.toNat (x1)) 0) fun (s_29 : zS) => some ((), s_29)))))) i0 x1 x_5 nf nf s_14 0)))
set_option maxHeartbeats 4000000 in
set_option maxRecDepth 20000 in
theorem kX11_comeHome_L36 {K : zKx} (C : zC zw 5 K RX11 cX11_comeHome "comeHome" none 2 43 0 0)  (nf : Nat) (o0 : Nat) (c1 : Int) (c2 : Int) (k62 : zS → Option (Unit × zS)) (hk62 : ∀ (s1 : zS), zJ zw 5 K (zQm zw eV 0 0 K) 0 0 62 [(0, .inr (64, some o0)), (1, .inl c1), (2, .inl c2)] [] s1 (k62 s1)) : ∀ (n : Nat) (s0 : zS) (x4 : Int), zJ zw 5 K (zQm zw eV 0 0 K) 0 0 36 [(0, .inr (64, some o0)), (1, .inl c1), (2, .inl c2), (4, .inl x4)] [] s0 (fX11_comeHome_L36 k62 o0 c1 c2 nf n s0 x4) := by
  intro n
  induction n with
  | zero => intro s0 x4; exact J_none
  | succ n ih =>
    intro s0 x4
    rw [fX11_comeHome_L36]
    refine J_iload C 3 dX11_comeHome_36 rfl ?_
    refine J_bipush C dX11_comeHome_38 (zi9 rfl rfl) (by decide) ?_
    refine J_ic_ge C 62 dX11_comeHome_40 rfl (fun _ => ?_) (fun _ => ?_)
    · refine J_loc (L' := [(0, .inr (64, some o0)), (1, .inl c1), (2, .inl c2)]) [0, 1, 2] rfl ?_
      exact hk62 _
    · refine J_aload_n C 0 dX11_comeHome_43 rfl ?_
      refine gf_64_25 C dX11_comeHome_44 q_869 ?_
      refine J_nmR fun r_15 => ?_
      refine J_bipush C dX11_comeHome_47 (zi9 rfl rfl) (by decide) ?_
      refine J_iload_n C 1 dX11_comeHome_49 rfl ?_
      refine J_imul C dX11_comeHome_50 ?_
      refine J_iload C 3 dX11_comeHome_51 rfl ?_
      refine J_iadd C dX11_comeHome_53 ?_
      refine J_iconst C dX11_comeHome_54 (zi9 rfl rfl) ?_
      refine J_bind fun i_16 e_17 => ?_
      subst e_17
      refine J_g fun h_18 => ?_
      refine J_iast (t := 91) (N := 144) C (Nat.le_of_ble_eq_true rfl) rfl rfl h_18 dX11_comeHome_55 fun s_19 => ?_
      refine J_iinc C 3 dX11_comeHome_56 (zi9 rfl rfl) (Nat.le_of_ble_eq_true rfl) rfl fun x_20 => ?_
      refine J_goto C 36 dX11_comeHome_59 rfl ?_
      exact ih _ _
set_option maxHeartbeats 4000000 in
set_option maxRecDepth 20000 in
theorem kX11_comeHome (nf : Nat) (s0 : zS) (i0 : Nat) (x1 : Int) : zCt zw yX11_comeHome cX11_comeHome 5 none 2 43 0 0 eV [.inr (64, some i0), .inl x1] s0 (fX11_comeHome nf s0 i0 x1) := by
  refine zCt_on (own := RX11) (nm := "comeHome") rfl rfl (by decide) (Nat.le_of_ble_eq_true rfl) fun K C => ?_
  show zJ zw 5 K _ 0 0 0 [(0, .inr (64, some i0)), (1, .inl x1)] [] s0 (fX11_comeHome nf s0 i0 x1)
  unfold fX11_comeHome
  refine J_aload_n C 0 dX11_comeHome_0 rfl ?_
  refine gf_64_15 C dX11_comeHome_1 q_859 ?_
  refine J_nmR fun r_1 => ?_
  refine J_iload_n C 1 dX11_comeHome_4 rfl ?_
  refine J_bind fun i_2 e_3 => ?_
  subst e_3
  refine J_g fun h_4 => ?_
  refine J_iald (t := 81) (N := 24) C (Nat.le_of_ble_eq_true rfl) rfl rfl h_4 dX11_comeHome_5 ?_
  refine J_nm fun x_5 => ?_
  refine J_istore_n (L' := [(0, .inr (64, some i0)), (1, .inl x1), (2, .inl x_5)]) C dX11_comeHome_6 (Nat.le_of_ble_eq_true rfl) rfl ?_
  refine J_aload_n C 0 dX11_comeHome_7 rfl ?_
  refine J_iload_n C 1 dX11_comeHome_8 rfl ?_
  refine J_callVI (S := []) (avs := [.inl x1]) C zx64 yw_97 rfl (kX11_worthOf _ _ _ _) dX11_comeHome_9 rfl (Nat.le_of_ble_eq_true rfl) (by decide) fun x_7 s_6 => ?_
  refine J_istore_n (L' := [(0, .inr (64, some i0)), (1, .inl x1), (2, .inl x_5), (3, .inl x_7)]) C dX11_comeHome_12 (Nat.le_of_ble_eq_true rfl) rfl ?_
  refine J_aload_n C 0 dX11_comeHome_13 rfl ?_
  refine J_dup C dX11_comeHome_14 ?_
  refine gf_64_28 C dX11_comeHome_15 q_872 ?_
  refine J_iload_n C 3 dX11_comeHome_18 rfl ?_
  refine J_iadd C dX11_comeHome_19 ?_
  refine pf_64_28 C dX11_comeHome_20 q_872 fun s_8 => ?_
  refine J_aload_n C 0 dX11_comeHome_23 rfl ?_
  refine gf_64_33 C dX11_comeHome_24 q_877 ?_
  refine J_nmR fun r_9 => ?_
  refine J_iload_n C 2 dX11_comeHome_27 rfl ?_
  refine J_dup2 C dX11_comeHome_28 ?_
  refine J_bind fun i_10 e_11 => ?_
  subst e_11
  refine J_g fun h_12 => ?_
  refine J_iald (t := 99) (N := 16) C (Nat.le_of_ble_eq_true rfl) rfl rfl h_12 dX11_comeHome_29 ?_
  refine J_iload_n C 3 dX11_comeHome_30 rfl ?_
  refine J_iadd C dX11_comeHome_31 ?_
  refine J_g fun h_13 => ?_
  refine J_iast (t := 99) (N := 16) C (Nat.le_of_ble_eq_true rfl) rfl rfl h_13 dX11_comeHome_32 fun s_14 => ?_
  refine J_iconst C dX11_comeHome_33 (zi9 rfl rfl) ?_
  refine J_istore (L' := [(0, .inr (64, some i0)), (1, .inl x1), (2, .inl x_5), (3, .inl x_7), (4, .inl 0)]) C dX11_comeHome_34 (Nat.le_of_ble_eq_true rfl) rfl ?_
  refine J_loc (L' := [(0, .inr (64, some i0)), (1, .inl x1), (2, .inl x_5), (4, .inl 0)]) [0, 1, 2, 4] rfl ?_
  refine kX11_comeHome_L36 C _ _ _ _ _ ?_ _ _ _
  intro s_15
  refine J_aload_n C 0 dX11_comeHome_62 rfl ?_
  refine gf_64_22 C dX11_comeHome_63 q_866 ?_
  refine J_nmR fun r_16 => ?_
  refine J_iload_n C 1 dX11_comeHome_66 rfl ?_
  refine J_bind fun i_17 e_18 => ?_
  subst e_18
  refine J_g fun h_19 => ?_
  refine J_iald (t := 88) (N := 24) C (Nat.le_of_ble_eq_true rfl) rfl rfl h_19 dX11_comeHome_67 ?_
  refine J_if_le C 166 dX11_comeHome_68 rfl (fun _ => ?_) (fun _ => ?_)
  · refine J_aload_n C 0 dX11_comeHome_166 rfl ?_
    refine gf_64_22 C dX11_comeHome_167 q_866 ?_
    refine J_nmR fun r_20 => ?_
    refine J_iload_n C 1 dX11_comeHome_170 rfl ?_
    refine J_iconst C dX11_comeHome_171 (zi9 rfl rfl) ?_
    refine J_bind fun i_21 e_22 => ?_
    subst e_22
    refine J_g fun h_23 => ?_
    refine J_iast (t := 88) (N := 24) C (Nat.le_of_ble_eq_true rfl) rfl rfl h_23 dX11_comeHome_172 fun s_24 => ?_
    refine J_aload_n C 0 dX11_comeHome_173 rfl ?_
    refine gf_64_16 C dX11_comeHome_174 q_860 ?_
    refine J_nmR fun r_25 => ?_
    refine J_iload_n C 1 dX11_comeHome_177 rfl ?_
    refine J_iconst C dX11_comeHome_178 (zi9 rfl rfl) ?_
    refine J_bind fun i_26 e_27 => ?_
    subst e_27
    refine J_g fun h_28 => ?_
    refine J_iast (t := 82) (N := 24) C (Nat.le_of_ble_eq_true rfl) rfl rfl h_28 dX11_comeHome_179 fun s_29 => ?_
    exact J_vret C dX11_comeHome_180 (by decide) (by decide)
  · refine J_aload_n C 0 dX11_comeHome_71 rfl ?_
    refine gf_64_13 C dX11_comeHome_72 q_857 ?_
    refine J_aload_n C 0 dX11_comeHome_75 rfl ?_
    refine gf_64_24 C dX11_comeHome_76 q_868 ?_
    refine J_nmR fun r_30 => ?_
    refine J_iload_n C 1 dX11_comeHome_79 rfl ?_
    refine J_bind fun i_31 e_32 => ?_
    subst e_32
    refine J_g fun h_33 => ?_
    refine J_iald (t := 90) (N := 24) C (Nat.le_of_ble_eq_true rfl) rfl rfl h_33 dX11_comeHome_80 ?_
    refine J_isub C dX11_comeHome_81 ?_
    refine J_nm fun x_34 => ?_
    refine J_istore (L' := [(0, .inr (64, some i0)), (1, .inl x1), (2, .inl x_5), (4, .inl x_34)]) C dX11_comeHome_82 (Nat.le_of_ble_eq_true rfl) rfl ?_
    refine J_aload_n C 0 dX11_comeHome_84 rfl ?_
    refine gf_64_31 C dX11_comeHome_85 q_875 ?_
    refine J_nmR fun r_35 => ?_
    refine J_iload_n C 2 dX11_comeHome_88 rfl ?_
    refine J_aload_n C 0 dX11_comeHome_89 rfl ?_
    refine gf_64_29 C dX11_comeHome_90 q_873 ?_
    refine J_nmR fun r_36 => ?_
    refine J_iload_n C 2 dX11_comeHome_93 rfl ?_
    refine J_bind fun i_37 e_38 => ?_
    subst e_38
    refine J_g fun h_39 => ?_
    refine J_iald (t := 95) (N := 16) C (Nat.le_of_ble_eq_true rfl) rfl rfl h_39 dX11_comeHome_94 ?_
    refine J_join (fun j120 => ∀ (s_40 : zS) (u_41 : Int), zJ zw 5 K (zQm zw eV 0 0 K) 0 0 120 [(0, .inr (64, some i0)), (1, .inl x1), (2, .inl x_5), (4, .inl x_34)] [.inl u_41, .inl x_5, .inr (97, r_35)] s_40 (j120 s_40 u_41)) ?_ fun j120 hj120 => ?_
    · intro s_40 u_41
      refine J_bind fun i_42 e_43 => ?_
      subst e_43
      refine J_g fun h_44 => ?_
      refine J_iast (t := 97) (N := 16) C (Nat.le_of_ble_eq_true rfl) rfl rfl h_44 dX11_comeHome_120 fun s_45 => ?_
      refine J_aload_n C 0 dX11_comeHome_121 rfl ?_
      refine gf_64_29 C dX11_comeHome_122 q_873 ?_
      refine J_nmR fun r_46 => ?_
      refine J_iload_n C 2 dX11_comeHome_125 rfl ?_
      refine J_dup2 C dX11_comeHome_126 ?_
      refine J_bind fun i_47 e_48 => ?_
      subst e_48
      refine J_g fun h_49 => ?_
      refine J_iald (t := 95) (N := 16) C (Nat.le_of_ble_eq_true rfl) rfl rfl h_49 dX11_comeHome_127 ?_
      refine J_iconst C dX11_comeHome_128 (zi9 rfl rfl) ?_
      refine J_iadd C dX11_comeHome_129 ?_
      refine J_g fun h_50 => ?_
      refine J_iast (t := 95) (N := 16) C (Nat.le_of_ble_eq_true rfl) rfl rfl h_50 dX11_comeHome_130 fun s_51 => ?_
      refine J_aload_n C 0 dX11_comeHome_131 rfl ?_
      refine gf_64_30 C dX11_comeHome_132 q_874 ?_
      refine J_nmR fun r_52 => ?_
      refine J_iload_n C 2 dX11_comeHome_135 rfl ?_
      refine J_dup2 C dX11_comeHome_136 ?_
      refine J_bind fun i_53 e_54 => ?_
      subst e_54
      refine J_g fun h_55 => ?_
      refine J_iald (t := 96) (N := 16) C (Nat.le_of_ble_eq_true rfl) rfl rfl h_55 dX11_comeHome_137 ?_
      refine J_aload_n C 0 dX11_comeHome_138 rfl ?_
      refine gf_64_22 C dX11_comeHome_139 q_866 ?_
      refine J_nmR fun r_56 => ?_
      refine J_iload_n C 1 dX11_comeHome_142 rfl ?_
      refine J_bind fun i_57 e_58 => ?_
      subst e_58
      refine J_g fun h_59 => ?_
      refine J_iald (t := 88) (N := 24) C (Nat.le_of_ble_eq_true rfl) rfl rfl h_59 dX11_comeHome_143 ?_
      refine J_iconst C dX11_comeHome_144 (zi9 rfl rfl) ?_
      refine J_join (fun j153 => ∀ (s_60 : zS) (u_61 : Int), zJ zw 5 K (zQm zw eV 0 0 K) 0 0 153 [(0, .inr (64, some i0)), (1, .inl x1), (2, .inl x_5), (4, .inl x_34)] [.inl u_61, .inl (gI s_51 96 i_53 (Int.toNat (x_5))), .inl x_5, .inr (96, some i_53)] s_60 (j153 s_60 u_61)) ?_ fun j153 hj153 => ?_
      · intro s_60 u_61
        refine J_iadd C dX11_comeHome_153 ?_
        refine J_g fun h_62 => ?_
        refine J_iast (t := 96) (N := 16) C (Nat.le_of_ble_eq_true rfl) rfl rfl h_62 dX11_comeHome_154 fun s_63 => ?_
        refine J_aload_n C 0 dX11_comeHome_155 rfl ?_
        refine gf_64_32 C dX11_comeHome_156 q_876 ?_
        refine J_nmR fun r_64 => ?_
        refine J_iload_n C 2 dX11_comeHome_159 rfl ?_
        refine J_dup2 C dX11_comeHome_160 ?_
        refine J_bind fun i_65 e_66 => ?_
        subst e_66
        refine J_g fun h_67 => ?_
        refine J_iald (t := 98) (N := 16) C (Nat.le_of_ble_eq_true rfl) rfl rfl h_67 dX11_comeHome_161 ?_
        refine J_iload C 3 dX11_comeHome_162 rfl ?_
        refine J_iadd C dX11_comeHome_164 ?_
        refine J_g fun h_68 => ?_
        refine J_iast (t := 98) (N := 16) C (Nat.le_of_ble_eq_true rfl) rfl rfl h_68 dX11_comeHome_165 fun s_69 => ?_
        refine J_aload_n C 0 dX11_comeHome_166 rfl ?_
        refine gf_64_22 C dX11_comeHome_167 q_866 ?_
        refine J_nmR fun r_70 => ?_
        refine J_iload_n C 1 dX11_comeHome_170 rfl ?_
        refine J_iconst C dX11_comeHome_171 (zi9 rfl rfl) ?_
        refine J_bind fun i_71 e_72 => ?_
        subst e_72
        refine J_g fun h_73 => ?_
        refine J_iast (t := 88) (N := 24) C (Nat.le_of_ble_eq_true rfl) rfl rfl h_73 dX11_comeHome_172 fun s_74 => ?_
        refine J_aload_n C 0 dX11_comeHome_173 rfl ?_
        refine gf_64_16 C dX11_comeHome_174 q_860 ?_
        refine J_nmR fun r_75 => ?_
        refine J_iload_n C 1 dX11_comeHome_177 rfl ?_
        refine J_iconst C dX11_comeHome_178 (zi9 rfl rfl) ?_
        refine J_bind fun i_76 e_77 => ?_
        subst e_77
        refine J_g fun h_78 => ?_
        refine J_iast (t := 82) (N := 24) C (Nat.le_of_ble_eq_true rfl) rfl rfl h_78 dX11_comeHome_179 fun s_79 => ?_
        exact J_vret C dX11_comeHome_180 (by decide) (by decide)
      · refine J_ic_ne C 152 dX11_comeHome_145 rfl (fun _ => ?_) (fun _ => ?_)
        · refine J_iconst C dX11_comeHome_152 (zi9 rfl rfl) ?_
          exact hj153 _ _
        · refine J_iconst C dX11_comeHome_148 (zi9 rfl rfl) ?_
          refine J_goto C 153 dX11_comeHome_149 rfl ?_
          exact hj153 _ _
    · refine J_join (fun j109 => ∀ (s_80 : zS), zJ zw 5 K (zQm zw eV 0 0 K) 0 0 109 [(0, .inr (64, some i0)), (1, .inl x1), (2, .inl x_5), (4, .inl x_34)] [.inl x_5, .inr (97, r_35)] s_80 (j109 s_80)) ?_ fun j109 hj109 => ?_
      · intro s_80
        refine J_iload C 3 dX11_comeHome_109 rfl ?_
        refine J_goto C 120 dX11_comeHome_111 rfl ?_
        exact hj120 _ _
      · refine J_if_eq C 109 dX11_comeHome_95 rfl (fun _ => ?_) (fun _ => ?_)
        · exact hj109 _
        · refine J_iload C 3 dX11_comeHome_98 rfl ?_
          refine J_aload_n C 0 dX11_comeHome_100 rfl ?_
          refine gf_64_31 C dX11_comeHome_101 q_875 ?_
          refine J_nmR fun r_81 => ?_
          refine J_iload_n C 2 dX11_comeHome_104 rfl ?_
          refine J_bind fun i_82 e_83 => ?_
          subst e_83
          refine J_g fun h_84 => ?_
          refine J_iald (t := 97) (N := 16) C (Nat.le_of_ble_eq_true rfl) rfl rfl h_84 dX11_comeHome_105 ?_
          refine J_ic_le C 114 dX11_comeHome_106 rfl (fun _ => ?_) (fun _ => ?_)
          · refine J_aload_n C 0 dX11_comeHome_114 rfl ?_
            refine gf_64_31 C dX11_comeHome_115 q_875 ?_
            refine J_nmR fun r_85 => ?_
            refine J_iload_n C 2 dX11_comeHome_118 rfl ?_
            refine J_bind fun i_86 e_87 => ?_
            subst e_87
            refine J_g fun h_88 => ?_
            refine J_iald (t := 97) (N := 16) C (Nat.le_of_ble_eq_true rfl) rfl rfl h_88 dX11_comeHome_119 ?_
            exact hj120 _ _
          · exact hj109 _
def fX11_comeDown (nf : Nat) (s0 : zS) (i0 : Nat) (x1 : Int) (x2 : Int) : Option (Unit × zS) :=
  nm_ (gR s0 64 i0 2) fun (r_1 : Option Nat) => Option.bind r_1 fun i_2 => g_ ((0 : Int) ≤ x2 ∧ (x2 : Int) < 16) (if gI s0 68 i_2 (Int.toNat (x2)) = 2 then (nm_ (gR s0 64 i0 15) fun (r_36 : Option Nat) => Option.bind r_36 fun i_37 => g_ ((0 : Int) ≤ x1 ∧ (x1 : Int) < 24) (if x2 = gI s0 81 i_37 (Int.toNat (x1)) then (cl_ (fX11_comeHome nf s0 i0 x1) fun (_ : Unit) (s_50 : zS) => some ((), s_50)) else (nm_ (gR s0 64 i0 16) fun (r_40 : Option Nat) => Option.bind r_40 fun i_41 => g_ ((0 : Int) ≤ x1 ∧ (x1 : Int) < 24) (up_ (sI s0 82 i_41 (Int.toNat (x1)) 5) fun (s_44 : zS) => nm_ (gR s_44 64 i0 17) fun (r_45 : Option Nat) => Option.bind r_45 fun i_46 => g_ ((0 : Int) ≤ x1 ∧ (x1 : Int) < 24) (up_ (sI s_44 83 i_46 (Int.toNat (x1)) x2) fun (s_49 : zS) => some ((), s_49)))))) else (nm_ (gR s0 64 i0 15) fun (r_5 : Option Nat) => Option.bind r_5 fun i_6 => g_ ((0 : Int) ≤ x1 ∧ (x1 : Int) < 24) (cl_ (fX11_rightChild nf s0 i0 x2 (gI s0 81 i_6 (Int.toNat (x1)))) fun (x_10 : Int) (s_9 : zS) => nm_ (gR s_9 64 i0 9) fun (r_11 : Option Nat) => Option.bind r_11 fun i_12 => g_ ((0 : Int) ≤ x2 ∧ (x2 : Int) < 16) (g_ ((0 : Int) ≤ x2 ∧ (x2 : Int) < 16) (up_ (sI s_9 75 i_12 (Int.toNat (x2)) (wr ((gI s_9 75 i_12 (Int.toNat (x2))) + 1))) fun (s_16 : zS) => nm_ (gR s_16 64 i0 8) fun (r_17 : Option Nat) => Option.bind r_17 fun i_18 => g_ ((0 : Int) ≤ x2 ∧ (x2 : Int) < 16) (nm_ (fun (s_21 : zS) (y_22 : Int) => cl_ (fX11_waitAt s_21 i0 x1 x2 0 y_22) fun (_ : Unit) (s_23 : zS) => cl_ (fX11_ring s_23 i0 x2) fun (_ : Unit) (s_24 : zS) => some ((), s_24)) fun (j103 : zS → Int → Option (Unit × zS)) => if 0 < gI s_16 74 i_18 (Int.toNat (x2)) then (nm_ (gR s_16 64 i0 9) fun (r_25 : Option Nat) => Option.bind r_25 fun i_26 => g_ ((0 : Int) ≤ x2 ∧ (x2 : Int) < 16) (nm_ (gR s_16 64 i0 8) fun (r_29 : Option Nat) => Option.bind r_29 fun i_30 => g_ ((0 : Int) ≤ x2 ∧ (x2 : Int) < 16) (g_ (gI s_16 74 i_30 (Int.toNat (x2)) ≠ 0) (if Int.tmod (gI s_16 75 i_26 (Int.toNat (x2))) (gI s_16 74 i_30 (Int.toNat (x2))) = 0 then (if x_10 = (-9) then (j103 s_16 x_10) else (cl_ (fX11_nextChild nf s_16 i0 x2 x_10) fun (x_34 : Int) (s_33 : zS) => j103 s_33 x_34)) else (j103 s_16 x_10))))) else (j103 s_16 x_10)))))))
set_option maxHeartbeats 4000000 in
set_option maxRecDepth 20000 in
theorem kX11_comeDown (nf : Nat) (s0 : zS) (i0 : Nat) (x1 : Int) (x2 : Int) : zCt zw yX11_comeDown cX11_comeDown 4 none 3 67 0 0 eV [.inr (64, some i0), .inl x1, .inl x2] s0 (fX11_comeDown nf s0 i0 x1 x2) := by
  refine zCt_on (own := RX11) (nm := "comeDown") rfl rfl (by decide) (Nat.le_of_ble_eq_true rfl) fun K C => ?_
  show zJ zw 4 K _ 0 0 0 [(0, .inr (64, some i0)), (1, .inl x1), (2, .inl x2)] [] s0 (fX11_comeDown nf s0 i0 x1 x2)
  unfold fX11_comeDown
  refine J_aload_n C 0 dX11_comeDown_0 rfl ?_
  refine gf_64_2 C dX11_comeDown_1 q_846 ?_
  refine J_nmR fun r_1 => ?_
  refine J_iload_n C 2 dX11_comeDown_4 rfl ?_
  refine J_bind fun i_2 e_3 => ?_
  subst e_3
  refine J_g fun h_4 => ?_
  refine J_iald (t := 68) (N := 16) C (Nat.le_of_ble_eq_true rfl) rfl rfl h_4 dX11_comeDown_5 ?_
  refine J_iconst C dX11_comeDown_6 (zi9 rfl rfl) ?_
  refine J_ic_ne C 43 dX11_comeDown_7 rfl (fun _ => ?_) (fun _ => ?_)
  · refine J_aload_n C 0 dX11_comeDown_43 rfl ?_
    refine J_iload_n C 2 dX11_comeDown_44 rfl ?_
    refine J_aload_n C 0 dX11_comeDown_45 rfl ?_
    refine gf_64_15 C dX11_comeDown_46 q_859 ?_
    refine J_nmR fun r_5 => ?_
    refine J_iload_n C 1 dX11_comeDown_49 rfl ?_
    refine J_bind fun i_6 e_7 => ?_
    subst e_7
    refine J_g fun h_8 => ?_
    refine J_iald (t := 81) (N := 24) C (Nat.le_of_ble_eq_true rfl) rfl rfl h_8 dX11_comeDown_50 ?_
    refine J_callVI (S := []) (avs := [.inl x2, .inl (gI s0 81 i_6 (Int.toNat (x1)))]) C zx64 yw_102 rfl (kX11_rightChild _ _ _ _ _) dX11_comeDown_51 rfl (Nat.le_of_ble_eq_true rfl) (by decide) fun x_10 s_9 => ?_
    refine J_istore_n (L' := [(0, .inr (64, some i0)), (1, .inl x1), (2, .inl x2), (3, .inl x_10)]) C dX11_comeDown_54 (Nat.le_of_ble_eq_true rfl) rfl ?_
    refine J_aload_n C 0 dX11_comeDown_55 rfl ?_
    refine gf_64_9 C dX11_comeDown_56 q_853 ?_
    refine J_nmR fun r_11 => ?_
    refine J_iload_n C 2 dX11_comeDown_59 rfl ?_
    refine J_dup2 C dX11_comeDown_60 ?_
    refine J_bind fun i_12 e_13 => ?_
    subst e_13
    refine J_g fun h_14 => ?_
    refine J_iald (t := 75) (N := 16) C (Nat.le_of_ble_eq_true rfl) rfl rfl h_14 dX11_comeDown_61 ?_
    refine J_iconst C dX11_comeDown_62 (zi9 rfl rfl) ?_
    refine J_iadd C dX11_comeDown_63 ?_
    refine J_g fun h_15 => ?_
    refine J_iast (t := 75) (N := 16) C (Nat.le_of_ble_eq_true rfl) rfl rfl h_15 dX11_comeDown_64 fun s_16 => ?_
    refine J_aload_n C 0 dX11_comeDown_65 rfl ?_
    refine gf_64_8 C dX11_comeDown_66 q_852 ?_
    refine J_nmR fun r_17 => ?_
    refine J_iload_n C 2 dX11_comeDown_69 rfl ?_
    refine J_bind fun i_18 e_19 => ?_
    subst e_19
    refine J_g fun h_20 => ?_
    refine J_iald (t := 74) (N := 16) C (Nat.le_of_ble_eq_true rfl) rfl rfl h_20 dX11_comeDown_70 ?_
    refine J_join (fun j103 => ∀ (s_21 : zS) (y_22 : Int), zJ zw 4 K (zQm zw eV 0 0 K) 0 0 103 [(0, .inr (64, some i0)), (1, .inl x1), (2, .inl x2), (3, .inl y_22)] [] s_21 (j103 s_21 y_22)) ?_ fun j103 hj103 => ?_
    · intro s_21 y_22
      refine J_aload_n C 0 dX11_comeDown_103 rfl ?_
      refine J_iload_n C 1 dX11_comeDown_104 rfl ?_
      refine J_iload_n C 2 dX11_comeDown_105 rfl ?_
      refine J_iconst C dX11_comeDown_106 (zi9 rfl rfl) ?_
      refine J_iload_n C 3 dX11_comeDown_107 rfl ?_
      refine J_callVV (S := []) (avs := [.inl x1, .inl x2, .inl 0, .inl y_22]) C zx64 yw_91 rfl (kX11_waitAt _ _ _ _ _ _) dX11_comeDown_108 rfl (Nat.le_of_ble_eq_true rfl) (by decide) fun _ s_23 => ?_
      refine J_aload_n C 0 dX11_comeDown_111 rfl ?_
      refine J_iload_n C 2 dX11_comeDown_112 rfl ?_
      refine J_callVV (S := []) (avs := [.inl x2]) C zx64 yw_100 rfl (kX11_ring _ _ _) dX11_comeDown_113 rfl (Nat.le_of_ble_eq_true rfl) (by decide) fun _ s_24 => ?_
      exact J_vret C dX11_comeDown_116 (by decide) (by decide)
    · refine J_if_le C 103 dX11_comeDown_71 rfl (fun _ => ?_) (fun _ => ?_)
      · exact hj103 _ _
      · refine J_aload_n C 0 dX11_comeDown_74 rfl ?_
        refine gf_64_9 C dX11_comeDown_75 q_853 ?_
        refine J_nmR fun r_25 => ?_
        refine J_iload_n C 2 dX11_comeDown_78 rfl ?_
        refine J_bind fun i_26 e_27 => ?_
        subst e_27
        refine J_g fun h_28 => ?_
        refine J_iald (t := 75) (N := 16) C (Nat.le_of_ble_eq_true rfl) rfl rfl h_28 dX11_comeDown_79 ?_
        refine J_aload_n C 0 dX11_comeDown_80 rfl ?_
        refine gf_64_8 C dX11_comeDown_81 q_852 ?_
        refine J_nmR fun r_29 => ?_
        refine J_iload_n C 2 dX11_comeDown_84 rfl ?_
        refine J_bind fun i_30 e_31 => ?_
        subst e_31
        refine J_g fun h_32 => ?_
        refine J_iald (t := 74) (N := 16) C (Nat.le_of_ble_eq_true rfl) rfl rfl h_32 dX11_comeDown_85 ?_
        refine J_g fun h_35 => ?_
        refine J_irem C dX11_comeDown_86 h_35 ?_
        refine J_if_ne C 103 dX11_comeDown_87 rfl (fun _ => ?_) (fun _ => ?_)
        · exact hj103 _ _
        · refine J_iload_n C 3 dX11_comeDown_90 rfl ?_
          refine J_bipush C dX11_comeDown_91 (zi9 rfl rfl) (by decide) ?_
          refine J_ic_eq C 103 dX11_comeDown_93 rfl (fun _ => ?_) (fun _ => ?_)
          · exact hj103 _ _
          · refine J_aload_n C 0 dX11_comeDown_96 rfl ?_
            refine J_iload_n C 2 dX11_comeDown_97 rfl ?_
            refine J_iload_n C 3 dX11_comeDown_98 rfl ?_
            refine J_callVI (S := []) (avs := [.inl x2, .inl x_10]) C zx64 yw_101 rfl (kX11_nextChild _ _ _ _ _) dX11_comeDown_99 rfl (Nat.le_of_ble_eq_true rfl) (by decide) fun x_34 s_33 => ?_
            refine J_istore_n (L' := [(0, .inr (64, some i0)), (1, .inl x1), (2, .inl x2), (3, .inl x_34)]) C dX11_comeDown_102 (Nat.le_of_ble_eq_true rfl) rfl ?_
            exact hj103 _ _
  · refine J_iload_n C 2 dX11_comeDown_10 rfl ?_
    refine J_aload_n C 0 dX11_comeDown_11 rfl ?_
    refine gf_64_15 C dX11_comeDown_12 q_859 ?_
    refine J_nmR fun r_36 => ?_
    refine J_iload_n C 1 dX11_comeDown_15 rfl ?_
    refine J_bind fun i_37 e_38 => ?_
    subst e_38
    refine J_g fun h_39 => ?_
    refine J_iald (t := 81) (N := 24) C (Nat.le_of_ble_eq_true rfl) rfl rfl h_39 dX11_comeDown_16 ?_
    refine J_ic_ne C 28 dX11_comeDown_17 rfl (fun _ => ?_) (fun _ => ?_)
    · refine J_aload_n C 0 dX11_comeDown_28 rfl ?_
      refine gf_64_16 C dX11_comeDown_29 q_860 ?_
      refine J_nmR fun r_40 => ?_
      refine J_iload_n C 1 dX11_comeDown_32 rfl ?_
      refine J_iconst C dX11_comeDown_33 (zi9 rfl rfl) ?_
      refine J_bind fun i_41 e_42 => ?_
      subst e_42
      refine J_g fun h_43 => ?_
      refine J_iast (t := 82) (N := 24) C (Nat.le_of_ble_eq_true rfl) rfl rfl h_43 dX11_comeDown_34 fun s_44 => ?_
      refine J_aload_n C 0 dX11_comeDown_35 rfl ?_
      refine gf_64_17 C dX11_comeDown_36 q_861 ?_
      refine J_nmR fun r_45 => ?_
      refine J_iload_n C 1 dX11_comeDown_39 rfl ?_
      refine J_iload_n C 2 dX11_comeDown_40 rfl ?_
      refine J_bind fun i_46 e_47 => ?_
      subst e_47
      refine J_g fun h_48 => ?_
      refine J_iast (t := 83) (N := 24) C (Nat.le_of_ble_eq_true rfl) rfl rfl h_48 dX11_comeDown_41 fun s_49 => ?_
      exact J_vret C dX11_comeDown_42 (by decide) (by decide)
    · refine J_aload_n C 0 dX11_comeDown_20 rfl ?_
      refine J_iload_n C 1 dX11_comeDown_21 rfl ?_
      refine J_callVV (S := []) (avs := [.inl x1]) C zx64 yw_103 rfl (kX11_comeHome _ _ _ _) dX11_comeDown_22 rfl (Nat.le_of_ble_eq_true rfl) (by decide) fun _ s_50 => ?_
      refine J_goto C 42 dX11_comeDown_25 rfl ?_
      exact J_vret C dX11_comeDown_42 (by decide) (by decide)
def fX11_comeUp (s0 : zS) (i0 : Nat) (x1 : Int) (x2 : Int) : Option (Unit × zS) :=
  nm_ (gR s0 64 i0 1) fun (r_1 : Option Nat) => Option.bind r_1 fun i_2 => g_ ((0 : Int) ≤ x2 ∧ (x2 : Int) < 16) (nm_ (gI s0 67 i_2 (Int.toNat (x2))) fun (x_5 : Int) => if x_5 = 0 then (nm_ (gR s0 64 i0 16) fun (r_13 : Option Nat) => Option.bind r_13 fun i_14 => g_ ((0 : Int) ≤ x1 ∧ (x1 : Int) < 24) (up_ (sI s0 82 i_14 (Int.toNat (x1)) 3) fun (s_17 : zS) => nm_ (gR s_17 64 i0 18) fun (r_18 : Option Nat) => Option.bind r_18 fun i_19 => g_ ((0 : Int) ≤ x1 ∧ (x1 : Int) < 24) (up_ (sI s_17 84 i_19 (Int.toNat (x1)) (gI s_17 64 i0 13)) fun (s_22 : zS) => some ((), s_22)))) else (cl_ (fX11_waitAt s0 i0 x1 x_5 1 (-9)) fun (_ : Unit) (s_6 : zS) => nm_ (gR s_6 64 i0 21) fun (r_7 : Option Nat) => Option.bind r_7 fun i_8 => g_ ((0 : Int) ≤ x1 ∧ (x1 : Int) < 24) (up_ (sI s_6 87 i_8 (Int.toNat (x1)) x2) fun (s_11 : zS) => cl_ (fX11_ring s_11 i0 x_5) fun (_ : Unit) (s_12 : zS) => some ((), s_12))))
set_option maxHeartbeats 4000000 in
set_option maxRecDepth 20000 in
theorem kX11_comeUp (s0 : zS) (i0 : Nat) (x1 : Int) (x2 : Int) : zCt zw yX11_comeUp cX11_comeUp 4 none 1 24 0 0 eV [.inr (64, some i0), .inl x1, .inl x2] s0 (fX11_comeUp s0 i0 x1 x2) := by
  refine zCt_on (own := RX11) (nm := "comeUp") rfl rfl (by decide) (Nat.le_of_ble_eq_true rfl) fun K C => ?_
  show zJ zw 4 K _ 0 0 0 [(0, .inr (64, some i0)), (1, .inl x1), (2, .inl x2)] [] s0 (fX11_comeUp s0 i0 x1 x2)
  unfold fX11_comeUp
  refine J_aload_n C 0 dX11_comeUp_0 rfl ?_
  refine gf_64_1 C dX11_comeUp_1 q_845 ?_
  refine J_nmR fun r_1 => ?_
  refine J_iload_n C 2 dX11_comeUp_4 rfl ?_
  refine J_bind fun i_2 e_3 => ?_
  subst e_3
  refine J_g fun h_4 => ?_
  refine J_iald (t := 67) (N := 16) C (Nat.le_of_ble_eq_true rfl) rfl rfl h_4 dX11_comeUp_5 ?_
  refine J_nm fun x_5 => ?_
  refine J_istore_n (L' := [(0, .inr (64, some i0)), (1, .inl x1), (2, .inl x2), (3, .inl x_5)]) C dX11_comeUp_6 (Nat.le_of_ble_eq_true rfl) rfl ?_
  refine J_iload_n C 3 dX11_comeUp_7 rfl ?_
  refine J_if_ne C 31 dX11_comeUp_8 rfl (fun _ => ?_) (fun _ => ?_)
  · refine J_aload_n C 0 dX11_comeUp_31 rfl ?_
    refine J_iload_n C 1 dX11_comeUp_32 rfl ?_
    refine J_iload_n C 3 dX11_comeUp_33 rfl ?_
    refine J_iconst C dX11_comeUp_34 (zi9 rfl rfl) ?_
    refine J_bipush C dX11_comeUp_35 (zi9 rfl rfl) (by decide) ?_
    refine J_callVV (S := []) (avs := [.inl x1, .inl x_5, .inl 1, .inl (-9)]) C zx64 yw_91 rfl (kX11_waitAt _ _ _ _ _ _) dX11_comeUp_37 rfl (Nat.le_of_ble_eq_true rfl) (by decide) fun _ s_6 => ?_
    refine J_aload_n C 0 dX11_comeUp_40 rfl ?_
    refine gf_64_21 C dX11_comeUp_41 q_865 ?_
    refine J_nmR fun r_7 => ?_
    refine J_iload_n C 1 dX11_comeUp_44 rfl ?_
    refine J_iload_n C 2 dX11_comeUp_45 rfl ?_
    refine J_bind fun i_8 e_9 => ?_
    subst e_9
    refine J_g fun h_10 => ?_
    refine J_iast (t := 87) (N := 24) C (Nat.le_of_ble_eq_true rfl) rfl rfl h_10 dX11_comeUp_46 fun s_11 => ?_
    refine J_aload_n C 0 dX11_comeUp_47 rfl ?_
    refine J_iload_n C 3 dX11_comeUp_48 rfl ?_
    refine J_callVV (S := []) (avs := [.inl x_5]) C zx64 yw_100 rfl (kX11_ring _ _ _) dX11_comeUp_49 rfl (Nat.le_of_ble_eq_true rfl) (by decide) fun _ s_12 => ?_
    exact J_vret C dX11_comeUp_52 (by decide) (by decide)
  · refine J_aload_n C 0 dX11_comeUp_11 rfl ?_
    refine gf_64_16 C dX11_comeUp_12 q_860 ?_
    refine J_nmR fun r_13 => ?_
    refine J_iload_n C 1 dX11_comeUp_15 rfl ?_
    refine J_iconst C dX11_comeUp_16 (zi9 rfl rfl) ?_
    refine J_bind fun i_14 e_15 => ?_
    subst e_15
    refine J_g fun h_16 => ?_
    refine J_iast (t := 82) (N := 24) C (Nat.le_of_ble_eq_true rfl) rfl rfl h_16 dX11_comeUp_17 fun s_17 => ?_
    refine J_aload_n C 0 dX11_comeUp_18 rfl ?_
    refine gf_64_18 C dX11_comeUp_19 q_862 ?_
    refine J_nmR fun r_18 => ?_
    refine J_iload_n C 1 dX11_comeUp_22 rfl ?_
    refine J_aload_n C 0 dX11_comeUp_23 rfl ?_
    refine gf_64_13 C dX11_comeUp_24 q_857 ?_
    refine J_bind fun i_19 e_20 => ?_
    subst e_20
    refine J_g fun h_21 => ?_
    refine J_iast (t := 84) (N := 24) C (Nat.le_of_ble_eq_true rfl) rfl rfl h_21 dX11_comeUp_27 fun s_22 => ?_
    refine J_goto C 52 dX11_comeUp_28 rfl ?_
    exact J_vret C dX11_comeUp_52 (by decide) (by decide)
def fX11_move_L2 (k104 : zS → Option (Unit × zS)) (o0 : Nat) (nf : Nat) : Nat → zS → Int → Option (Unit × zS)
  | 0, _, _ => none
  | n + 1, s0, x1 =>
    if x1 < gI s0 64 o0 14 then (nm_ (gR s0 64 o0 16) fun (r_1 : Option Nat) => Option.bind r_1 fun i_2 => g_ ((0 : Int) ≤ x1 ∧ (x1 : Int) < 24) (nm_ (fun (s_5 : zS) => nm_ (wr (x1 + 1)) fun (x_6 : Int) => fX11_move_L2 k104 o0 nf n s_5 x_6) fun (j98 : zS → Option (Unit × zS)) => if gI s0 82 i_2 (Int.toNat (x1)) = 2 then (nm_ (gR s0 64 o0 6) fun (r_7 : Option Nat) => nm_ (gR s0 64 o0 17) fun (r_8 : Option Nat) => Option.bind r_8 fun i_9 => g_ ((0 : Int) ≤ x1 ∧ (x1 : Int) < 24) (Option.bind r_7 fun i_12 => g_ ((0 : Int) ≤ gI s0 83 i_9 (Int.toNat (x1)) ∧ (gI s0 83 i_9 (Int.toNat (x1)) : Int) < 16) (if gI s0 72 i_12 (Int.toNat (gI s0 83 i_9 (Int.toNat (x1)))) = 0 then (nm_ (gR s0 64 o0 43) fun (r_15 : Option Nat) => Option.bind r_15 fun i_16 => g_ ((0 : Int) ≤ x1 ∧ (x1 : Int) < 24) (g_ ((0 : Int) ≤ x1 ∧ (x1 : Int) < 24) (up_ (sI s0 109 i_16 (Int.toNat (x1)) (wr ((gI s0 109 i_16 (Int.toNat (x1))) + 1))) fun (s_20 : zS) => nm_ (gR s_20 64 o0 43) fun (r_21 : Option Nat) => Option.bind r_21 fun i_22 => g_ ((0 : Int) ≤ x1 ∧ (x1 : Int) < 24) (nm_ (gR s_20 64 o0 3) fun (r_25 : Option Nat) => nm_ (gR s_20 64 o0 17) fun (r_26 : Option Nat) => Option.bind r_26 fun i_27 => g_ ((0 : Int) ≤ x1 ∧ (x1 : Int) < 24) (Option.bind r_25 fun i_30 => g_ ((0 : Int) ≤ gI s_20 83 i_27 (Int.toNat (x1)) ∧ (gI s_20 83 i_27 (Int.toNat (x1)) : Int) < 16) (if gI s_20 109 i_22 (Int.toNat (x1)) = gI s_20 69 i_30 (Int.toNat (gI s_20 83 i_27 (Int.toNat (x1)))) then (nm_ (gR s_20 64 o0 19) fun (r_33 : Option Nat) => Option.bind r_33 fun i_34 => g_ ((0 : Int) ≤ x1 ∧ (x1 : Int) < 24) (if gI s_20 85 i_34 (Int.toNat (x1)) = 0 then (nm_ (gR s_20 64 o0 17) fun (r_37 : Option Nat) => Option.bind r_37 fun i_38 => g_ ((0 : Int) ≤ x1 ∧ (x1 : Int) < 24) (cl_ (fX11_comeDown nf s_20 o0 x1 (gI s_20 83 i_38 (Int.toNat (x1)))) fun (_ : Unit) (s_41 : zS) => j98 s_41)) else (nm_ (gR s_20 64 o0 17) fun (r_42 : Option Nat) => Option.bind r_42 fun i_43 => g_ ((0 : Int) ≤ x1 ∧ (x1 : Int) < 24) (cl_ (fX11_comeUp s_20 o0 x1 (gI s_20 83 i_43 (Int.toNat (x1)))) fun (_ : Unit) (s_46 : zS) => j98 s_46)))) else (j98 s_20))))))) else (j98 s0)))) else (j98 s0))) else (k104 s0)
def fX11_move_L106 (o0 : Nat) (nf : Nat) : Nat → zS → Int → Option (Unit × zS)
  | 0, _, _ => none
  | n + 1, s0, x1 =>
    if x1 < gI s0 64 o0 14 then (nm_ (gR s0 64 o0 16) fun (r_2 : Option Nat) => Option.bind r_2 fun i_3 => g_ ((0 : Int) ≤ x1 ∧ (x1 : Int) < 24) (nm_ (fun (s_6 : zS) => nm_ (wr (x1 + 1)) fun (x_7 : Int) => fX11_move_L106 o0 nf n s_6 x_7) fun (j143 : zS → Option (Unit × zS)) => if gI s0 82 i_3 (Int.toNat (x1)) = 6 then (nm_ (gR s0 64 o0 18) fun (r_8 : Option Nat) => Option.bind r_8 fun i_9 => g_ ((0 : Int) ≤ x1 ∧ (x1 : Int) < 24) (if gI s0 84 i_9 (Int.toNat (x1)) = gI s0 64 o0 13 then (cl_ (fX11_comeHome nf s0 o0 x1) fun (_ : Unit) (s_12 : zS) => j143 s_12) else (j143 s0))) else (j143 s0))) else (some ((), s0))
def fX11_move (nf : Nat) (s0 : zS) (i0 : Nat) : Option (Unit × zS) :=
  fX11_move_L2 (fun (s_1 : zS) => fX11_move_L106 i0 nf nf s_1 0) i0 nf nf s0 0
set_option maxHeartbeats 4000000 in
set_option maxRecDepth 20000 in
theorem kX11_move_L2 {K : zKx} (C : zC zw 2 K RX11 cX11_move "move" none 4 90 0 0)  (nf : Nat) (o0 : Nat) (k104 : zS → Option (Unit × zS)) (hk104 : ∀ (s1 : zS), zJ zw 2 K (zQm zw eV 0 0 K) 0 0 104 [(0, .inr (64, some o0))] [] s1 (k104 s1)) : ∀ (n : Nat) (s0 : zS) (x1 : Int), zJ zw 2 K (zQm zw eV 0 0 K) 0 0 2 [(0, .inr (64, some o0)), (1, .inl x1)] [] s0 (fX11_move_L2 k104 o0 nf n s0 x1) := by
  intro n
  induction n with
  | zero => intro s0 x1; exact J_none
  | succ n ih =>
    intro s0 x1
    rw [fX11_move_L2]
    refine J_iload_n C 1 dX11_move_2 rfl ?_
    refine J_aload_n C 0 dX11_move_3 rfl ?_
    refine gf_64_14 C dX11_move_4 q_858 ?_
    refine J_ic_ge C 104 dX11_move_7 rfl (fun _ => ?_) (fun _ => ?_)
    · refine J_loc (L' := [(0, .inr (64, some o0))]) [0] rfl ?_
      exact hk104 _
    · refine J_aload_n C 0 dX11_move_10 rfl ?_
      refine gf_64_16 C dX11_move_11 q_860 ?_
      refine J_nmR fun r_1 => ?_
      refine J_iload_n C 1 dX11_move_14 rfl ?_
      refine J_bind fun i_2 e_3 => ?_
      subst e_3
      refine J_g fun h_4 => ?_
      refine J_iald (t := 82) (N := 24) C (Nat.le_of_ble_eq_true rfl) rfl rfl h_4 dX11_move_15 ?_
      refine J_iconst C dX11_move_16 (zi9 rfl rfl) ?_
      refine J_join (fun j98 => ∀ (s_5 : zS), zJ zw 2 K (zQm zw eV 0 0 K) 0 0 98 [(0, .inr (64, some o0)), (1, .inl x1)] [] s_5 (j98 s_5)) ?_ fun j98 hj98 => ?_
      · intro s_5
        refine J_iinc C 1 dX11_move_98 (zi9 rfl rfl) (Nat.le_of_ble_eq_true rfl) rfl fun x_6 => ?_
        refine J_goto C 2 dX11_move_101 rfl ?_
        exact ih _ _
      · refine J_ic_ne C 98 dX11_move_17 rfl (fun _ => ?_) (fun _ => ?_)
        · exact hj98 _
        · refine J_aload_n C 0 dX11_move_20 rfl ?_
          refine gf_64_6 C dX11_move_21 q_850 ?_
          refine J_nmR fun r_7 => ?_
          refine J_aload_n C 0 dX11_move_24 rfl ?_
          refine gf_64_17 C dX11_move_25 q_861 ?_
          refine J_nmR fun r_8 => ?_
          refine J_iload_n C 1 dX11_move_28 rfl ?_
          refine J_bind fun i_9 e_10 => ?_
          subst e_10
          refine J_g fun h_11 => ?_
          refine J_iald (t := 83) (N := 24) C (Nat.le_of_ble_eq_true rfl) rfl rfl h_11 dX11_move_29 ?_
          refine J_bind fun i_12 e_13 => ?_
          subst e_13
          refine J_g fun h_14 => ?_
          refine J_bald (t := 72) (N := 16) C (Nat.le_of_ble_eq_true rfl) rfl rfl h_14 dX11_move_30 ?_
          refine J_if_ne C 98 dX11_move_31 rfl (fun _ => ?_) (fun _ => ?_)
          · exact hj98 _
          · refine J_aload_n C 0 dX11_move_34 rfl ?_
            refine gf_64_43 C dX11_move_35 q_887 ?_
            refine J_nmR fun r_15 => ?_
            refine J_iload_n C 1 dX11_move_38 rfl ?_
            refine J_dup2 C dX11_move_39 ?_
            refine J_bind fun i_16 e_17 => ?_
            subst e_17
            refine J_g fun h_18 => ?_
            refine J_iald (t := 109) (N := 24) C (Nat.le_of_ble_eq_true rfl) rfl rfl h_18 dX11_move_40 ?_
            refine J_iconst C dX11_move_41 (zi9 rfl rfl) ?_
            refine J_iadd C dX11_move_42 ?_
            refine J_g fun h_19 => ?_
            refine J_iast (t := 109) (N := 24) C (Nat.le_of_ble_eq_true rfl) rfl rfl h_19 dX11_move_43 fun s_20 => ?_
            refine J_aload_n C 0 dX11_move_44 rfl ?_
            refine gf_64_43 C dX11_move_45 q_887 ?_
            refine J_nmR fun r_21 => ?_
            refine J_iload_n C 1 dX11_move_48 rfl ?_
            refine J_bind fun i_22 e_23 => ?_
            subst e_23
            refine J_g fun h_24 => ?_
            refine J_iald (t := 109) (N := 24) C (Nat.le_of_ble_eq_true rfl) rfl rfl h_24 dX11_move_49 ?_
            refine J_aload_n C 0 dX11_move_50 rfl ?_
            refine gf_64_3 C dX11_move_51 q_847 ?_
            refine J_nmR fun r_25 => ?_
            refine J_aload_n C 0 dX11_move_54 rfl ?_
            refine gf_64_17 C dX11_move_55 q_861 ?_
            refine J_nmR fun r_26 => ?_
            refine J_iload_n C 1 dX11_move_58 rfl ?_
            refine J_bind fun i_27 e_28 => ?_
            subst e_28
            refine J_g fun h_29 => ?_
            refine J_iald (t := 83) (N := 24) C (Nat.le_of_ble_eq_true rfl) rfl rfl h_29 dX11_move_59 ?_
            refine J_bind fun i_30 e_31 => ?_
            subst e_31
            refine J_g fun h_32 => ?_
            refine J_iald (t := 69) (N := 16) C (Nat.le_of_ble_eq_true rfl) rfl rfl h_32 dX11_move_60 ?_
            refine J_ic_ne C 98 dX11_move_61 rfl (fun _ => ?_) (fun _ => ?_)
            · exact hj98 _
            · refine J_aload_n C 0 dX11_move_64 rfl ?_
              refine gf_64_19 C dX11_move_65 q_863 ?_
              refine J_nmR fun r_33 => ?_
              refine J_iload_n C 1 dX11_move_68 rfl ?_
              refine J_bind fun i_34 e_35 => ?_
              subst e_35
              refine J_g fun h_36 => ?_
              refine J_bald (t := 85) (N := 24) C (Nat.le_of_ble_eq_true rfl) rfl rfl h_36 dX11_move_69 ?_
              refine J_if_eq C 87 dX11_move_70 rfl (fun _ => ?_) (fun _ => ?_)
              · refine J_aload_n C 0 dX11_move_87 rfl ?_
                refine J_iload_n C 1 dX11_move_88 rfl ?_
                refine J_aload_n C 0 dX11_move_89 rfl ?_
                refine gf_64_17 C dX11_move_90 q_861 ?_
                refine J_nmR fun r_37 => ?_
                refine J_iload_n C 1 dX11_move_93 rfl ?_
                refine J_bind fun i_38 e_39 => ?_
                subst e_39
                refine J_g fun h_40 => ?_
                refine J_iald (t := 83) (N := 24) C (Nat.le_of_ble_eq_true rfl) rfl rfl h_40 dX11_move_94 ?_
                refine J_callVV (S := []) (avs := [.inl x1, .inl (gI s_20 83 i_38 (Int.toNat (x1)))]) C zx64 yw_104 rfl (kX11_comeDown _ _ _ _ _) dX11_move_95 rfl (Nat.le_of_ble_eq_true rfl) (by decide) fun _ s_41 => ?_
                exact hj98 _
              · refine J_aload_n C 0 dX11_move_73 rfl ?_
                refine J_iload_n C 1 dX11_move_74 rfl ?_
                refine J_aload_n C 0 dX11_move_75 rfl ?_
                refine gf_64_17 C dX11_move_76 q_861 ?_
                refine J_nmR fun r_42 => ?_
                refine J_iload_n C 1 dX11_move_79 rfl ?_
                refine J_bind fun i_43 e_44 => ?_
                subst e_44
                refine J_g fun h_45 => ?_
                refine J_iald (t := 83) (N := 24) C (Nat.le_of_ble_eq_true rfl) rfl rfl h_45 dX11_move_80 ?_
                refine J_callVV (S := []) (avs := [.inl x1, .inl (gI s_20 83 i_43 (Int.toNat (x1)))]) C zx64 yw_105 rfl (kX11_comeUp _ _ _ _) dX11_move_81 rfl (Nat.le_of_ble_eq_true rfl) (by decide) fun _ s_46 => ?_
                refine J_goto C 98 dX11_move_84 rfl ?_
                exact hj98 _
set_option maxHeartbeats 4000000 in
set_option maxRecDepth 20000 in
theorem kX11_move_L106 {K : zKx} (C : zC zw 2 K RX11 cX11_move "move" none 4 90 0 0)  (nf : Nat) (o0 : Nat) : ∀ (n : Nat) (s0 : zS) (x1 : Int), zJ zw 2 K (zQm zw eV 0 0 K) 0 0 106 [(0, .inr (64, some o0)), (1, .inl x1)] [] s0 (fX11_move_L106 o0 nf n s0 x1) := by
  intro n
  induction n with
  | zero => intro s0 x1; exact J_none
  | succ n ih =>
    intro s0 x1
    rw [fX11_move_L106]
    refine J_iload_n C 1 dX11_move_106 rfl ?_
    refine J_aload_n C 0 dX11_move_107 rfl ?_
    refine gf_64_14 C dX11_move_108 q_858 ?_
    refine J_ic_ge C 149 dX11_move_111 rfl (fun _ => ?_) (fun _ => ?_)
    · exact J_vret C dX11_move_149 (by decide) (by decide)
    · refine J_aload_n C 0 dX11_move_114 rfl ?_
      refine gf_64_16 C dX11_move_115 q_860 ?_
      refine J_nmR fun r_2 => ?_
      refine J_iload_n C 1 dX11_move_118 rfl ?_
      refine J_bind fun i_3 e_4 => ?_
      subst e_4
      refine J_g fun h_5 => ?_
      refine J_iald (t := 82) (N := 24) C (Nat.le_of_ble_eq_true rfl) rfl rfl h_5 dX11_move_119 ?_
      refine J_bipush C dX11_move_120 (zi9 rfl rfl) (by decide) ?_
      refine J_join (fun j143 => ∀ (s_6 : zS), zJ zw 2 K (zQm zw eV 0 0 K) 0 0 143 [(0, .inr (64, some o0)), (1, .inl x1)] [] s_6 (j143 s_6)) ?_ fun j143 hj143 => ?_
      · intro s_6
        refine J_iinc C 1 dX11_move_143 (zi9 rfl rfl) (Nat.le_of_ble_eq_true rfl) rfl fun x_7 => ?_
        refine J_goto C 106 dX11_move_146 rfl ?_
        exact ih _ _
      · refine J_ic_ne C 143 dX11_move_122 rfl (fun _ => ?_) (fun _ => ?_)
        · exact hj143 _
        · refine J_aload_n C 0 dX11_move_125 rfl ?_
          refine gf_64_18 C dX11_move_126 q_862 ?_
          refine J_nmR fun r_8 => ?_
          refine J_iload_n C 1 dX11_move_129 rfl ?_
          refine J_bind fun i_9 e_10 => ?_
          subst e_10
          refine J_g fun h_11 => ?_
          refine J_iald (t := 84) (N := 24) C (Nat.le_of_ble_eq_true rfl) rfl rfl h_11 dX11_move_130 ?_
          refine J_aload_n C 0 dX11_move_131 rfl ?_
          refine gf_64_13 C dX11_move_132 q_857 ?_
          refine J_ic_ne C 143 dX11_move_135 rfl (fun _ => ?_) (fun _ => ?_)
          · exact hj143 _
          · refine J_aload_n C 0 dX11_move_138 rfl ?_
            refine J_iload_n C 1 dX11_move_139 rfl ?_
            refine J_callVV (S := []) (avs := [.inl x1]) C zx64 yw_103 rfl (kX11_comeHome _ _ _ _) dX11_move_140 rfl (Nat.le_of_ble_eq_true rfl) (by decide) fun _ s_12 => ?_
            exact hj143 _
set_option maxHeartbeats 4000000 in
set_option maxRecDepth 20000 in
theorem kX11_move (nf : Nat) (s0 : zS) (i0 : Nat) : zCt zw yX11_move cX11_move 2 none 4 90 0 0 eV [.inr (64, some i0)] s0 (fX11_move nf s0 i0) := by
  refine zCt_on (own := RX11) (nm := "move") rfl rfl (by decide) (Nat.le_of_ble_eq_true rfl) fun K C => ?_
  show zJ zw 2 K _ 0 0 0 [(0, .inr (64, some i0))] [] s0 (fX11_move nf s0 i0)
  unfold fX11_move
  refine J_iconst C dX11_move_0 (zi9 rfl rfl) ?_
  refine J_istore_n (L' := [(0, .inr (64, some i0)), (1, .inl 0)]) C dX11_move_1 (Nat.le_of_ble_eq_true rfl) rfl ?_
  refine kX11_move_L2 C _ _ _ ?_ _ _ _
  intro s_1
  refine J_iconst C dX11_move_104 (zi9 rfl rfl) ?_
  refine J_istore_n (L' := [(0, .inr (64, some i0)), (1, .inl 0)]) C dX11_move_105 (Nat.le_of_ble_eq_true rfl) rfl ?_
  exact kX11_move_L106 C _ _ _ _ _
def fX11_settle_L25 (k57 : zS → Option (Unit × zS)) (o0 : Nat) (c1 : Int) (c2 : Int) (nf : Nat) : Nat → zS → Int → Option (Unit × zS)
  | 0, _, _ => none
  | n + 1, s0, x3 =>
    if x3 < 6 then (nm_ (gR s0 64 o0 26) fun (r_19 : Option Nat) => Option.bind r_19 fun i_20 => g_ ((0 : Int) ≤ x3 ∧ (x3 : Int) < 6) (nm_ (gR s0 64 o0 25) fun (r_23 : Option Nat) => Option.bind r_23 fun i_24 => g_ ((0 : Int) ≤ wr ((wr (6 * c1)) + x3) ∧ (wr ((wr (6 * c1)) + x3) : Int) < 144) (g_ ((0 : Int) ≤ x3 ∧ (x3 : Int) < 6) (up_ (sI s0 92 i_20 (Int.toNat (x3)) (wr ((gI s0 92 i_20 (Int.toNat (x3))) + (gI s0 91 i_24 (Int.toNat (wr ((wr (6 * c1)) + x3))))))) fun (s_28 : zS) => nm_ (wr (x3 + 1)) fun (x_29 : Int) => fX11_settle_L25 k57 o0 c1 c2 nf n s_28 x_29)))) else (k57 s0)
def fX11_settle_L64 (k136 : zS → Option (Unit × zS)) (o0 : Nat) (c1 : Int) (nf : Nat) : Nat → zS → Int → Option (Unit × zS)
  | 0, _, _ => none
  | n + 1, s0, x3 =>
    if x3 < 6 then (nm_ (gR s0 64 o0 25) fun (r_21 : Option Nat) => nm_ (fun (s_22 : zS) (u_23 : Int) => Option.bind r_21 fun i_24 => g_ ((0 : Int) ≤ wr ((wr (6 * c1)) + x3) ∧ (wr ((wr (6 * c1)) + x3) : Int) < 144) (up_ (sI s_22 91 i_24 (Int.toNat (wr ((wr (6 * c1)) + x3))) u_23) fun (s_27 : zS) => nm_ (gR s_27 64 o0 26) fun (r_28 : Option Nat) => Option.bind r_28 fun i_29 => g_ ((0 : Int) ≤ x3 ∧ (x3 : Int) < 6) (nm_ (gR s_27 64 o0 25) fun (r_32 : Option Nat) => Option.bind r_32 fun i_33 => g_ ((0 : Int) ≤ wr ((wr (6 * c1)) + x3) ∧ (wr ((wr (6 * c1)) + x3) : Int) < 144) (g_ ((0 : Int) ≤ x3 ∧ (x3 : Int) < 6) (up_ (sI s_27 92 i_29 (Int.toNat (x3)) (wr ((gI s_27 92 i_29 (Int.toNat (x3))) - (gI s_27 91 i_33 (Int.toNat (wr ((wr (6 * c1)) + x3))))))) fun (s_37 : zS) => nm_ (wr (x3 + 1)) fun (x_38 : Int) => fX11_settle_L64 k136 o0 c1 nf n s_37 x_38))))) fun (j109 : zS → Int → Option (Unit × zS)) => if gI s0 64 o0 46 = (-9) then (nm_ (gR s0 64 o0 25) fun (r_43 : Option Nat) => Option.bind r_43 fun i_44 => g_ ((0 : Int) ≤ wr ((wr (6 * c1)) + x3) ∧ (wr ((wr (6 * c1)) + x3) : Int) < 144) (j109 s0 (gI s0 91 i_44 (Int.toNat (wr ((wr (6 * c1)) + x3)))))) else (nm_ (gR s0 64 o0 44) fun (r_39 : Option Nat) => Option.bind r_39 fun i_40 => g_ ((0 : Int) ≤ x3 ∧ (x3 : Int) < 6) (j109 s0 (gI s0 110 i_40 (Int.toNat (x3)))))) else (k136 s0)
def fX11_settle (nf : Nat) (s0 : zS) (i0 : Nat) (x1 : Int) : Option (Unit × zS) :=
  nm_ (gR s0 64 i0 22) fun (r_1 : Option Nat) => Option.bind r_1 fun i_2 => g_ ((0 : Int) ≤ x1 ∧ (x1 : Int) < 24) (if gI s0 88 i_2 (Int.toNat (x1)) = 1 then (cl_ (fX11_worthOf nf s0 i0 x1) fun (x_13 : Int) (s_12 : zS) => nm_ (gR s_12 64 i0 23) fun (r_14 : Option Nat) => Option.bind r_14 fun i_15 => g_ ((0 : Int) ≤ x1 ∧ (x1 : Int) < 24) (nm_ (wr (x_13 - (gI s_12 89 i_15 (Int.toNat (x1))))) fun (x_18 : Int) => fX11_settle_L25 (fun (s_19 : zS) => cl_ (fX11_layChange nf s_19 i0 x_18) fun (_ : Unit) (s_20 : zS) => fX11_settle_L64 (fun (s_21 : zS) => nm_ (gR s_21 64 i0 22) fun (r_22 : Option Nat) => if gI s_21 64 i0 46 = (-9) then (Option.bind r_22 fun i_34 => g_ ((0 : Int) ≤ x1 ∧ (x1 : Int) < 24) (up_ (sI s_21 88 i_34 (Int.toNat (x1)) 3) fun (s_37 : zS) => nm_ (gR s_37 64 i0 15) fun (r_38 : Option Nat) => Option.bind r_38 fun i_39 => g_ ((0 : Int) ≤ x1 ∧ (x1 : Int) < 24) (cl_ (fX11_rightChild nf s_37 i0 0 (gI s_37 81 i_39 (Int.toNat (x1)))) fun (x_43 : Int) (s_42 : zS) => cl_ (fX11_waitAt s_42 i0 x1 0 0 x_43) fun (_ : Unit) (s_44 : zS) => some ((), s_44)))) else (Option.bind r_22 fun i_23 => g_ ((0 : Int) ≤ x1 ∧ (x1 : Int) < 24) (up_ (sI s_21 88 i_23 (Int.toNat (x1)) 2) fun (s_26 : zS) => nm_ (gR s_26 64 i0 15) fun (r_27 : Option Nat) => Option.bind r_27 fun i_28 => g_ ((0 : Int) ≤ x1 ∧ (x1 : Int) < 24) (cl_ (fX11_rightChild nf s_26 i0 0 (gI s_26 81 i_28 (Int.toNat (x1)))) fun (x_32 : Int) (s_31 : zS) => cl_ (fX11_waitAt s_31 i0 x1 0 0 x_32) fun (_ : Unit) (s_33 : zS) => some ((), s_33))))) i0 x1 nf nf s_20 0) i0 x1 x_18 nf nf s_12 0)) else (nm_ (gR s0 64 i0 15) fun (r_5 : Option Nat) => Option.bind r_5 fun i_6 => g_ ((0 : Int) ≤ x1 ∧ (x1 : Int) < 24) (cl_ (fX11_rightChild nf s0 i0 0 (gI s0 81 i_6 (Int.toNat (x1)))) fun (x_10 : Int) (s_9 : zS) => cl_ (fX11_waitAt s_9 i0 x1 0 0 x_10) fun (_ : Unit) (s_11 : zS) => some ((), s_11))))
set_option maxHeartbeats 4000000 in
set_option maxRecDepth 20000 in
theorem kX11_settle_L25 {K : zKx} (C : zC zw 4 K RX11 cX11_settle "settle" none 3 73 0 0)  (nf : Nat) (o0 : Nat) (c1 : Int) (c2 : Int) (k57 : zS → Option (Unit × zS)) (hk57 : ∀ (s1 : zS), zJ zw 4 K (zQm zw eV 0 0 K) 0 0 57 [(0, .inr (64, some o0)), (1, .inl c1), (2, .inl c2)] [] s1 (k57 s1)) : ∀ (n : Nat) (s0 : zS) (x3 : Int), zJ zw 4 K (zQm zw eV 0 0 K) 0 0 25 [(0, .inr (64, some o0)), (1, .inl c1), (2, .inl c2), (3, .inl x3)] [] s0 (fX11_settle_L25 k57 o0 c1 c2 nf n s0 x3) := by
  intro n
  induction n with
  | zero => intro s0 x3; exact J_none
  | succ n ih =>
    intro s0 x3
    rw [fX11_settle_L25]
    refine J_iload_n C 3 dX11_settle_25 rfl ?_
    refine J_bipush C dX11_settle_26 (zi9 rfl rfl) (by decide) ?_
    refine J_ic_ge C 57 dX11_settle_28 rfl (fun _ => ?_) (fun _ => ?_)
    · refine J_loc (L' := [(0, .inr (64, some o0)), (1, .inl c1), (2, .inl c2)]) [0, 1, 2] rfl ?_
      exact hk57 _
    · refine J_aload_n C 0 dX11_settle_31 rfl ?_
      refine gf_64_26 C dX11_settle_32 q_870 ?_
      refine J_nmR fun r_19 => ?_
      refine J_iload_n C 3 dX11_settle_35 rfl ?_
      refine J_dup2 C dX11_settle_36 ?_
      refine J_bind fun i_20 e_21 => ?_
      subst e_21
      refine J_g fun h_22 => ?_
      refine J_iald (t := 92) (N := 6) C (Nat.le_of_ble_eq_true rfl) rfl rfl h_22 dX11_settle_37 ?_
      refine J_aload_n C 0 dX11_settle_38 rfl ?_
      refine gf_64_25 C dX11_settle_39 q_869 ?_
      refine J_nmR fun r_23 => ?_
      refine J_bipush C dX11_settle_42 (zi9 rfl rfl) (by decide) ?_
      refine J_iload_n C 1 dX11_settle_44 rfl ?_
      refine J_imul C dX11_settle_45 ?_
      refine J_iload_n C 3 dX11_settle_46 rfl ?_
      refine J_iadd C dX11_settle_47 ?_
      refine J_bind fun i_24 e_25 => ?_
      subst e_25
      refine J_g fun h_26 => ?_
      refine J_iald (t := 91) (N := 144) C (Nat.le_of_ble_eq_true rfl) rfl rfl h_26 dX11_settle_48 ?_
      refine J_iadd C dX11_settle_49 ?_
      refine J_g fun h_27 => ?_
      refine J_iast (t := 92) (N := 6) C (Nat.le_of_ble_eq_true rfl) rfl rfl h_27 dX11_settle_50 fun s_28 => ?_
      refine J_iinc C 3 dX11_settle_51 (zi9 rfl rfl) (Nat.le_of_ble_eq_true rfl) rfl fun x_29 => ?_
      refine J_goto C 25 dX11_settle_54 rfl ?_
      exact ih _ _
set_option maxHeartbeats 4000000 in
set_option maxRecDepth 20000 in
theorem kX11_settle_L64 {K : zKx} (C : zC zw 4 K RX11 cX11_settle "settle" none 3 73 0 0)  (nf : Nat) (o0 : Nat) (c1 : Int) (k136 : zS → Option (Unit × zS)) (hk136 : ∀ (s1 : zS), zJ zw 4 K (zQm zw eV 0 0 K) 0 0 136 [(0, .inr (64, some o0)), (1, .inl c1)] [] s1 (k136 s1)) : ∀ (n : Nat) (s0 : zS) (x3 : Int), zJ zw 4 K (zQm zw eV 0 0 K) 0 0 64 [(0, .inr (64, some o0)), (1, .inl c1), (3, .inl x3)] [] s0 (fX11_settle_L64 k136 o0 c1 nf n s0 x3) := by
  intro n
  induction n with
  | zero => intro s0 x3; exact J_none
  | succ n ih =>
    intro s0 x3
    rw [fX11_settle_L64]
    refine J_iload_n C 2 dX11_settle_64 rfl ?_
    refine J_bipush C dX11_settle_65 (zi9 rfl rfl) (by decide) ?_
    refine J_ic_ge C 136 dX11_settle_67 rfl (fun _ => ?_) (fun _ => ?_)
    · refine J_loc (L' := [(0, .inr (64, some o0)), (1, .inl c1)]) [0, 1] rfl ?_
      exact hk136 _
    · refine J_aload_n C 0 dX11_settle_70 rfl ?_
      refine gf_64_25 C dX11_settle_71 q_869 ?_
      refine J_nmR fun r_21 => ?_
      refine J_bipush C dX11_settle_74 (zi9 rfl rfl) (by decide) ?_
      refine J_iload_n C 1 dX11_settle_76 rfl ?_
      refine J_imul C dX11_settle_77 ?_
      refine J_iload_n C 2 dX11_settle_78 rfl ?_
      refine J_iadd C dX11_settle_79 ?_
      refine J_aload_n C 0 dX11_settle_80 rfl ?_
      refine gf_64_46 C dX11_settle_81 q_890 ?_
      refine J_bipush C dX11_settle_84 (zi9 rfl rfl) (by decide) ?_
      refine J_join (fun j109 => ∀ (s_22 : zS) (u_23 : Int), zJ zw 4 K (zQm zw eV 0 0 K) 0 0 109 [(0, .inr (64, some o0)), (1, .inl c1), (3, .inl x3)] [.inl u_23, .inl (wr ((wr (6 * c1)) + x3)), .inr (91, r_21)] s_22 (j109 s_22 u_23)) ?_ fun j109 hj109 => ?_
      · intro s_22 u_23
        refine J_bind fun i_24 e_25 => ?_
        subst e_25
        refine J_g fun h_26 => ?_
        refine J_iast (t := 91) (N := 144) C (Nat.le_of_ble_eq_true rfl) rfl rfl h_26 dX11_settle_109 fun s_27 => ?_
        refine J_aload_n C 0 dX11_settle_110 rfl ?_
        refine gf_64_26 C dX11_settle_111 q_870 ?_
        refine J_nmR fun r_28 => ?_
        refine J_iload_n C 2 dX11_settle_114 rfl ?_
        refine J_dup2 C dX11_settle_115 ?_
        refine J_bind fun i_29 e_30 => ?_
        subst e_30
        refine J_g fun h_31 => ?_
        refine J_iald (t := 92) (N := 6) C (Nat.le_of_ble_eq_true rfl) rfl rfl h_31 dX11_settle_116 ?_
        refine J_aload_n C 0 dX11_settle_117 rfl ?_
        refine gf_64_25 C dX11_settle_118 q_869 ?_
        refine J_nmR fun r_32 => ?_
        refine J_bipush C dX11_settle_121 (zi9 rfl rfl) (by decide) ?_
        refine J_iload_n C 1 dX11_settle_123 rfl ?_
        refine J_imul C dX11_settle_124 ?_
        refine J_iload_n C 2 dX11_settle_125 rfl ?_
        refine J_iadd C dX11_settle_126 ?_
        refine J_bind fun i_33 e_34 => ?_
        subst e_34
        refine J_g fun h_35 => ?_
        refine J_iald (t := 91) (N := 144) C (Nat.le_of_ble_eq_true rfl) rfl rfl h_35 dX11_settle_127 ?_
        refine J_isub C dX11_settle_128 ?_
        refine J_g fun h_36 => ?_
        refine J_iast (t := 92) (N := 6) C (Nat.le_of_ble_eq_true rfl) rfl rfl h_36 dX11_settle_129 fun s_37 => ?_
        refine J_iinc C 2 dX11_settle_130 (zi9 rfl rfl) (Nat.le_of_ble_eq_true rfl) rfl fun x_38 => ?_
        refine J_goto C 64 dX11_settle_133 rfl ?_
        exact ih _ _
      · refine J_ic_ne C 103 dX11_settle_86 rfl (fun _ => ?_) (fun _ => ?_)
        · refine J_aload_n C 0 dX11_settle_103 rfl ?_
          refine gf_64_44 C dX11_settle_104 q_888 ?_
          refine J_nmR fun r_39 => ?_
          refine J_iload_n C 2 dX11_settle_107 rfl ?_
          refine J_bind fun i_40 e_41 => ?_
          subst e_41
          refine J_g fun h_42 => ?_
          refine J_iald (t := 110) (N := 6) C (Nat.le_of_ble_eq_true rfl) rfl rfl h_42 dX11_settle_108 ?_
          exact hj109 _ _
        · refine J_aload_n C 0 dX11_settle_89 rfl ?_
          refine gf_64_25 C dX11_settle_90 q_869 ?_
          refine J_nmR fun r_43 => ?_
          refine J_bipush C dX11_settle_93 (zi9 rfl rfl) (by decide) ?_
          refine J_iload_n C 1 dX11_settle_95 rfl ?_
          refine J_imul C dX11_settle_96 ?_
          refine J_iload_n C 2 dX11_settle_97 rfl ?_
          refine J_iadd C dX11_settle_98 ?_
          refine J_bind fun i_44 e_45 => ?_
          subst e_45
          refine J_g fun h_46 => ?_
          refine J_iald (t := 91) (N := 144) C (Nat.le_of_ble_eq_true rfl) rfl rfl h_46 dX11_settle_99 ?_
          refine J_goto C 109 dX11_settle_100 rfl ?_
          exact hj109 _ _
set_option maxHeartbeats 4000000 in
set_option maxRecDepth 20000 in
theorem kX11_settle (nf : Nat) (s0 : zS) (i0 : Nat) (x1 : Int) : zCt zw yX11_settle cX11_settle 4 none 3 73 0 0 eV [.inr (64, some i0), .inl x1] s0 (fX11_settle nf s0 i0 x1) := by
  refine zCt_on (own := RX11) (nm := "settle") rfl rfl (by decide) (Nat.le_of_ble_eq_true rfl) fun K C => ?_
  show zJ zw 4 K _ 0 0 0 [(0, .inr (64, some i0)), (1, .inl x1)] [] s0 (fX11_settle nf s0 i0 x1)
  unfold fX11_settle
  refine J_aload_n C 0 dX11_settle_0 rfl ?_
  refine gf_64_22 C dX11_settle_1 q_866 ?_
  refine J_nmR fun r_1 => ?_
  refine J_iload_n C 1 dX11_settle_4 rfl ?_
  refine J_bind fun i_2 e_3 => ?_
  subst e_3
  refine J_g fun h_4 => ?_
  refine J_iald (t := 88) (N := 24) C (Nat.le_of_ble_eq_true rfl) rfl rfl h_4 dX11_settle_5 ?_
  refine J_iconst C dX11_settle_6 (zi9 rfl rfl) ?_
  refine J_ic_ne C 156 dX11_settle_7 rfl (fun _ => ?_) (fun _ => ?_)
  · refine J_aload_n C 0 dX11_settle_156 rfl ?_
    refine J_iload_n C 1 dX11_settle_157 rfl ?_
    refine J_iconst C dX11_settle_158 (zi9 rfl rfl) ?_
    refine J_iconst C dX11_settle_159 (zi9 rfl rfl) ?_
    refine J_aload_n C 0 dX11_settle_160 rfl ?_
    refine J_iconst C dX11_settle_161 (zi9 rfl rfl) ?_
    refine J_aload_n C 0 dX11_settle_162 rfl ?_
    refine gf_64_15 C dX11_settle_163 q_859 ?_
    refine J_nmR fun r_5 => ?_
    refine J_iload_n C 1 dX11_settle_166 rfl ?_
    refine J_bind fun i_6 e_7 => ?_
    subst e_7
    refine J_g fun h_8 => ?_
    refine J_iald (t := 81) (N := 24) C (Nat.le_of_ble_eq_true rfl) rfl rfl h_8 dX11_settle_167 ?_
    refine J_callVI (S := [.inl 0, .inl 0, .inl x1, .inr (64, some i0)]) (avs := [.inl 0, .inl (gI s0 81 i_6 (Int.toNat (x1)))]) C zx64 yw_102 rfl (kX11_rightChild _ _ _ _ _) dX11_settle_168 rfl (Nat.le_of_ble_eq_true rfl) (by decide) fun x_10 s_9 => ?_
    refine J_callVV (S := []) (avs := [.inl x1, .inl 0, .inl 0, .inl x_10]) C zx64 yw_91 rfl (kX11_waitAt _ _ _ _ _ _) dX11_settle_171 rfl (Nat.le_of_ble_eq_true rfl) (by decide) fun _ s_11 => ?_
    exact J_vret C dX11_settle_174 (by decide) (by decide)
  · refine J_aload_n C 0 dX11_settle_10 rfl ?_
    refine J_iload_n C 1 dX11_settle_11 rfl ?_
    refine J_callVI (S := []) (avs := [.inl x1]) C zx64 yw_97 rfl (kX11_worthOf _ _ _ _) dX11_settle_12 rfl (Nat.le_of_ble_eq_true rfl) (by decide) fun x_13 s_12 => ?_
    refine J_aload_n C 0 dX11_settle_15 rfl ?_
    refine gf_64_23 C dX11_settle_16 q_867 ?_
    refine J_nmR fun r_14 => ?_
    refine J_iload_n C 1 dX11_settle_19 rfl ?_
    refine J_bind fun i_15 e_16 => ?_
    subst e_16
    refine J_g fun h_17 => ?_
    refine J_iald (t := 89) (N := 24) C (Nat.le_of_ble_eq_true rfl) rfl rfl h_17 dX11_settle_20 ?_
    refine J_isub C dX11_settle_21 ?_
    refine J_nm fun x_18 => ?_
    refine J_istore_n (L' := [(0, .inr (64, some i0)), (1, .inl x1), (2, .inl x_18)]) C dX11_settle_22 (Nat.le_of_ble_eq_true rfl) rfl ?_
    refine J_iconst C dX11_settle_23 (zi9 rfl rfl) ?_
    refine J_istore_n (L' := [(0, .inr (64, some i0)), (1, .inl x1), (2, .inl x_18), (3, .inl 0)]) C dX11_settle_24 (Nat.le_of_ble_eq_true rfl) rfl ?_
    refine kX11_settle_L25 C _ _ _ _ _ ?_ _ _ _
    intro s_19
    refine J_aload_n C 0 dX11_settle_57 rfl ?_
    refine J_iload_n C 2 dX11_settle_58 rfl ?_
    refine J_callVV (S := []) (avs := [.inl x_18]) C zx64 yw_99 rfl (kX11_layChange _ _ _ _) dX11_settle_59 rfl (Nat.le_of_ble_eq_true rfl) (by decide) fun _ s_20 => ?_
    refine J_iconst C dX11_settle_62 (zi9 rfl rfl) ?_
    refine J_istore_n (L' := [(0, .inr (64, some i0)), (1, .inl x1), (2, .inl x_18), (3, .inl 0)]) C dX11_settle_63 (Nat.le_of_ble_eq_true rfl) rfl ?_
    refine J_loc (L' := [(0, .inr (64, some i0)), (1, .inl x1), (3, .inl 0)]) [0, 1, 3] rfl ?_
    refine kX11_settle_L64 C _ _ _ _ ?_ _ _ _
    intro s_21
    refine J_aload_n C 0 dX11_settle_136 rfl ?_
    refine gf_64_22 C dX11_settle_137 q_866 ?_
    refine J_nmR fun r_22 => ?_
    refine J_iload_n C 1 dX11_settle_140 rfl ?_
    refine J_aload_n C 0 dX11_settle_141 rfl ?_
    refine gf_64_46 C dX11_settle_142 q_890 ?_
    refine J_bipush C dX11_settle_145 (zi9 rfl rfl) (by decide) ?_
    refine J_ic_ne C 154 dX11_settle_147 rfl (fun _ => ?_) (fun _ => ?_)
    · refine J_iconst C dX11_settle_154 (zi9 rfl rfl) ?_
      refine J_bind fun i_23 e_24 => ?_
      subst e_24
      refine J_g fun h_25 => ?_
      refine J_iast (t := 88) (N := 24) C (Nat.le_of_ble_eq_true rfl) rfl rfl h_25 dX11_settle_155 fun s_26 => ?_
      refine J_aload_n C 0 dX11_settle_156 rfl ?_
      refine J_iload_n C 1 dX11_settle_157 rfl ?_
      refine J_iconst C dX11_settle_158 (zi9 rfl rfl) ?_
      refine J_iconst C dX11_settle_159 (zi9 rfl rfl) ?_
      refine J_aload_n C 0 dX11_settle_160 rfl ?_
      refine J_iconst C dX11_settle_161 (zi9 rfl rfl) ?_
      refine J_aload_n C 0 dX11_settle_162 rfl ?_
      refine gf_64_15 C dX11_settle_163 q_859 ?_
      refine J_nmR fun r_27 => ?_
      refine J_iload_n C 1 dX11_settle_166 rfl ?_
      refine J_bind fun i_28 e_29 => ?_
      subst e_29
      refine J_g fun h_30 => ?_
      refine J_iald (t := 81) (N := 24) C (Nat.le_of_ble_eq_true rfl) rfl rfl h_30 dX11_settle_167 ?_
      refine J_callVI (S := [.inl 0, .inl 0, .inl x1, .inr (64, some i0)]) (avs := [.inl 0, .inl (gI s_26 81 i_28 (Int.toNat (x1)))]) C zx64 yw_102 rfl (kX11_rightChild _ _ _ _ _) dX11_settle_168 rfl (Nat.le_of_ble_eq_true rfl) (by decide) fun x_32 s_31 => ?_
      refine J_callVV (S := []) (avs := [.inl x1, .inl 0, .inl 0, .inl x_32]) C zx64 yw_91 rfl (kX11_waitAt _ _ _ _ _ _) dX11_settle_171 rfl (Nat.le_of_ble_eq_true rfl) (by decide) fun _ s_33 => ?_
      exact J_vret C dX11_settle_174 (by decide) (by decide)
    · refine J_iconst C dX11_settle_150 (zi9 rfl rfl) ?_
      refine J_goto C 155 dX11_settle_151 rfl ?_
      refine J_bind fun i_34 e_35 => ?_
      subst e_35
      refine J_g fun h_36 => ?_
      refine J_iast (t := 88) (N := 24) C (Nat.le_of_ble_eq_true rfl) rfl rfl h_36 dX11_settle_155 fun s_37 => ?_
      refine J_aload_n C 0 dX11_settle_156 rfl ?_
      refine J_iload_n C 1 dX11_settle_157 rfl ?_
      refine J_iconst C dX11_settle_158 (zi9 rfl rfl) ?_
      refine J_iconst C dX11_settle_159 (zi9 rfl rfl) ?_
      refine J_aload_n C 0 dX11_settle_160 rfl ?_
      refine J_iconst C dX11_settle_161 (zi9 rfl rfl) ?_
      refine J_aload_n C 0 dX11_settle_162 rfl ?_
      refine gf_64_15 C dX11_settle_163 q_859 ?_
      refine J_nmR fun r_38 => ?_
      refine J_iload_n C 1 dX11_settle_166 rfl ?_
      refine J_bind fun i_39 e_40 => ?_
      subst e_40
      refine J_g fun h_41 => ?_
      refine J_iald (t := 81) (N := 24) C (Nat.le_of_ble_eq_true rfl) rfl rfl h_41 dX11_settle_167 ?_
      refine J_callVI (S := [.inl 0, .inl 0, .inl x1, .inr (64, some i0)]) (avs := [.inl 0, .inl (gI s_37 81 i_39 (Int.toNat (x1)))]) C zx64 yw_102 rfl (kX11_rightChild _ _ _ _ _) dX11_settle_168 rfl (Nat.le_of_ble_eq_true rfl) (by decide) fun x_43 s_42 => ?_
      refine J_callVV (S := []) (avs := [.inl x1, .inl 0, .inl 0, .inl x_43]) C zx64 yw_91 rfl (kX11_waitAt _ _ _ _ _ _) dX11_settle_171 rfl (Nat.le_of_ble_eq_true rfl) (by decide) fun _ s_44 => ?_
      exact J_vret C dX11_settle_174 (by decide) (by decide)
