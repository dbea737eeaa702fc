def fX11_tick_L31 (o0 : Nat) (c1 : Int) (nf : Nat) : Nat → zS → Int → Option (Int × zS)
  | 0, _, _ => none
  | n + 1, s0, x2 =>
    if x2 < c1 then (up_ (sI s0 64 o0 13 (wr ((gI s0 64 o0 13) + 1))) fun (s_3 : zS) => cl_ (fX11_move nf s_3 o0) fun (_ : Unit) (s_4 : zS) => cl_ (fX11_serve nf s_4 o0) fun (_ : Unit) (s_5 : zS) => cl_ (fX11_bring nf s_5 o0) fun (_ : Unit) (s_6 : zS) => cl_ (fX11_takeOn nf s_6 o0) fun (_ : Unit) (s_7 : zS) => cl_ (fX11_letAll nf s_7 o0) fun (_ : Unit) (s_8 : zS) => nm_ (wr (x2 + 1)) fun (x_9 : Int) => fX11_tick_L31 o0 c1 nf n s_8 x_9) else (some (gI s0 64 o0 13, s0))
def fX11_tick (nf : Nat) (s0 : zS) (i0 : Nat) (x1 : Int) : Option (Int × zS) :=
  cl_ (fX11_in s0 x1 1 200) fun (x_2 : Int) (s_1 : zS) => if x_2 = 0 then (some ((-2), s_1)) else (if 20000 < wr ((gI s_1 64 i0 13) + x1) then (some ((-4), s_1)) else (fX11_tick_L31 i0 x1 nf nf s_1 0))
set_option maxHeartbeats 4000000 in
set_option maxRecDepth 20000 in
theorem kX11_tick_L31 {K : zKx} (C : zC zw 3 K RX11 cX11_tick "tick" (some .int) 5 118 0 0)  (nf : Nat) (o0 : Nat) (c1 : Int) : ∀ (n : Nat) (s0 : zS) (x2 : Int), zJ zw 3 K (zQm zw eI 0 0 K) 0 0 31 [(0, .inr (64, some o0)), (1, .inl c1), (2, .inl x2)] [] s0 (fX11_tick_L31 o0 c1 nf n s0 x2) := by
  intro n
  induction n with
  | zero => intro s0 x2; exact J_none
  | succ n ih =>
    intro s0 x2
    rw [fX11_tick_L31]
    refine J_iload_n C 2 dX11_tick_31 rfl ?_
    refine J_iload_n C 1 dX11_tick_32 rfl ?_
    refine J_ic_ge C 72 dX11_tick_33 rfl (fun _ => ?_) (fun _ => ?_)
    · refine J_aload_n C 0 dX11_tick_72 rfl ?_
      refine gf_64_13 C dX11_tick_73 q_857 ?_
      exact J_iret C dX11_tick_76 (by decide) (by decide)
    · refine J_aload_n C 0 dX11_tick_36 rfl ?_
      refine J_dup C dX11_tick_37 ?_
      refine gf_64_13 C dX11_tick_38 q_857 ?_
      refine J_iconst C dX11_tick_41 (zi9 rfl rfl) ?_
      refine J_iadd C dX11_tick_42 ?_
      refine pf_64_13 C dX11_tick_43 q_857 fun s_3 => ?_
      refine J_aload_n C 0 dX11_tick_46 rfl ?_
      refine J_callVV (S := []) (avs := []) C zx64 yw_123 rfl (kX11_move _ _ _) dX11_tick_47 rfl (Nat.le_of_ble_eq_true rfl) (by decide) fun _ s_4 => ?_
      refine J_aload_n C 0 dX11_tick_50 rfl ?_
      refine J_callVV (S := []) (avs := []) C zx64 yw_122 rfl (kX11_serve _ _ _) dX11_tick_51 rfl (Nat.le_of_ble_eq_true rfl) (by decide) fun _ s_5 => ?_
      refine J_aload_n C 0 dX11_tick_54 rfl ?_
      refine J_callVV (S := []) (avs := []) C zx64 yw_121 rfl (kX11_bring _ _ _) dX11_tick_55 rfl (Nat.le_of_ble_eq_true rfl) (by decide) fun _ s_6 => ?_
      refine J_aload_n C 0 dX11_tick_58 rfl ?_
      refine J_callVV (S := []) (avs := []) C zx64 yw_120 rfl (kX11_takeOn _ _ _) dX11_tick_59 rfl (Nat.le_of_ble_eq_true rfl) (by decide) fun _ s_7 => ?_
      refine J_aload_n C 0 dX11_tick_62 rfl ?_
      refine J_callVV (S := []) (avs := []) C zx64 yw_119 rfl (kX11_letAll _ _ _) dX11_tick_63 rfl (Nat.le_of_ble_eq_true rfl) (by decide) fun _ s_8 => ?_
      refine J_iinc C 2 dX11_tick_66 (zi9 rfl rfl) (Nat.le_of_ble_eq_true rfl) rfl fun x_9 => ?_
      refine J_goto C 31 dX11_tick_69 rfl ?_
      exact ih _ _
set_option maxHeartbeats 4000000 in
set_option maxRecDepth 20000 in
theorem kX11_tick (nf : Nat) (s0 : zS) (i0 : Nat) (x1 : Int) : zCt zw yX11_tick cX11_tick 3 (some .int) 5 118 0 0 eI [.inr (64, some i0), .inl x1] s0 (fX11_tick nf s0 i0 x1) := by
  refine zCt_on (own := RX11) (nm := "tick") rfl rfl (by decide) (Nat.le_of_ble_eq_true rfl) fun K C => ?_
  show zJ zw 3 K _ 0 0 0 [(0, .inr (64, some i0)), (1, .inl x1)] [] s0 (fX11_tick nf s0 i0 x1)
  unfold fX11_tick
  refine J_iload_n C 1 dX11_tick_0 rfl ?_
  refine J_iconst C dX11_tick_1 (zi9 rfl rfl) ?_
  refine J_sipush C dX11_tick_2 (zi9 rfl rfl) (by decide) ?_
  refine J_callSI (S := []) (avs := [.inl x1, .inl 1, .inl 200]) C yw_87 (kX11_in _ _ _ _) dX11_tick_5 rfl (Nat.le_of_ble_eq_true rfl) (by decide) fun x_2 s_1 => ?_
  refine J_if_ne C 14 dX11_tick_8 rfl (fun _ => ?_) (fun _ => ?_)
  · refine J_aload_n C 0 dX11_tick_14 rfl ?_
    refine gf_64_13 C dX11_tick_15 q_857 ?_
    refine J_iload_n C 1 dX11_tick_18 rfl ?_
    refine J_iadd C dX11_tick_19 ?_
    refine J_sipush C dX11_tick_20 (zi9 rfl rfl) (by decide) ?_
    refine J_ic_le C 29 dX11_tick_23 rfl (fun _ => ?_) (fun _ => ?_)
    · refine J_iconst C dX11_tick_29 (zi9 rfl rfl) ?_
      refine J_istore_n (L' := [(0, .inr (64, some i0)), (1, .inl x1), (2, .inl 0)]) C dX11_tick_30 (Nat.le_of_ble_eq_true rfl) rfl ?_
      exact kX11_tick_L31 C _ _ _ _ _ _
    · refine J_bipush C dX11_tick_26 (zi9 rfl rfl) (by decide) ?_
      exact J_iret C dX11_tick_28 (by decide) (by decide)
  · refine J_bipush C dX11_tick_11 (zi9 rfl rfl) (by decide) ?_
    exact J_iret C dX11_tick_13 (by decide) (by decide)
def fX11_row (nf : Nat) (s0 : zS) (i0 : Nat) (x1 : Int) : Option (Int × zS) :=
  cl_ (fX11_layRow nf s0 i0 (gI s0 64 i0 38)) fun (_ : Unit) (s_1 : zS) => cl_ (fX11_in s_1 x1 0 (wr ((gI s_1 64 i0 52) - 1))) fun (x_3 : Int) (s_2 : zS) => if x_3 = 0 then (some ((-9), s_2)) else (nm_ (gR s_2 64 i0 51) fun (r_4 : Option Nat) => Option.bind r_4 fun i_5 => g_ ((0 : Int) ≤ x1 ∧ (x1 : Int) < 24) (some (gI s_2 117 i_5 (Int.toNat (x1)), s_2)))
set_option maxHeartbeats 4000000 in
set_option maxRecDepth 20000 in
theorem kX11_row (nf : Nat) (s0 : zS) (i0 : Nat) (x1 : Int) : zCt zw yX11_row cX11_row 2 (some .int) 3 68 0 0 eI [.inr (64, some i0), .inl x1] s0 (fX11_row nf s0 i0 x1) := by
  refine zCt_on (own := RX11) (nm := "row") rfl rfl (by decide) (Nat.le_of_ble_eq_true rfl) fun K C => ?_
  show zJ zw 2 K _ 0 0 0 [(0, .inr (64, some i0)), (1, .inl x1)] [] s0 (fX11_row nf s0 i0 x1)
  unfold fX11_row
  refine J_aload_n C 0 dX11_row_0 rfl ?_
  refine J_aload_n C 0 dX11_row_1 rfl ?_
  refine gf_64_38 C dX11_row_2 q_882 ?_
  refine J_callVV (S := []) (avs := [.inl (gI s0 64 i0 38)]) C zx64 yw_109 rfl (kX11_layRow _ _ _ _) dX11_row_5 rfl (Nat.le_of_ble_eq_true rfl) (by decide) fun _ s_1 => ?_
  refine J_iload_n C 1 dX11_row_8 rfl ?_
  refine J_iconst C dX11_row_9 (zi9 rfl rfl) ?_
  refine J_aload_n C 0 dX11_row_10 rfl ?_
  refine gf_64_52 C dX11_row_11 q_896 ?_
  refine J_iconst C dX11_row_14 (zi9 rfl rfl) ?_
  refine J_isub C dX11_row_15 ?_
  refine J_callSI (S := []) (avs := [.inl x1, .inl 0, .inl (wr ((gI s_1 64 i0 52) - 1))]) C yw_87 (kX11_in _ _ _ _) dX11_row_16 rfl (Nat.le_of_ble_eq_true rfl) (by decide) fun x_3 s_2 => ?_
  refine J_if_eq C 31 dX11_row_19 rfl (fun _ => ?_) (fun _ => ?_)
  · refine J_bipush C dX11_row_31 (zi9 rfl rfl) (by decide) ?_
    exact J_iret C dX11_row_33 (by decide) (by decide)
  · refine J_aload_n C 0 dX11_row_22 rfl ?_
    refine gf_64_51 C dX11_row_23 q_895 ?_
    refine J_nmR fun r_4 => ?_
    refine J_iload_n C 1 dX11_row_26 rfl ?_
    refine J_bind fun i_5 e_6 => ?_
    subst e_6
    refine J_g fun h_7 => ?_
    refine J_iald (t := 117) (N := 24) C (Nat.le_of_ble_eq_true rfl) rfl rfl h_7 dX11_row_27 ?_
    refine J_goto C 33 dX11_row_28 rfl ?_
    exact J_iret C dX11_row_33 (by decide) (by decide)
def fX11_clerkAt (s0 : zS) (i0 : Nat) (x1 : Int) (x2 : Int) : Option (Int × zS) :=
  cl_ (fX11_in s0 x1 0 (wr ((gI s0 64 i0 34) - 1))) fun (x_2 : Int) (s_1 : zS) => if x_2 = 0 then (some ((-1), s_1)) else (if x2 = 0 then (nm_ (gR s_1 64 i0 36) fun (r_15 : Option Nat) => Option.bind r_15 fun i_16 => g_ ((0 : Int) ≤ x1 ∧ (x1 : Int) < 4) (some (gI s_1 102 i_16 (Int.toNat (x1)), s_1))) else (if x2 = 1 then (nm_ (gR s_1 64 i0 36) fun (r_7 : Option Nat) => Option.bind r_7 fun i_8 => g_ ((0 : Int) ≤ x1 ∧ (x1 : Int) < 4) (if gI s_1 102 i_8 (Int.toNat (x1)) = (-9) then (some (0, s_1)) else (nm_ (gR s_1 64 i0 37) fun (r_11 : Option Nat) => Option.bind r_11 fun i_12 => g_ ((0 : Int) ≤ x1 ∧ (x1 : Int) < 4) (some (gI s_1 103 i_12 (Int.toNat (x1)), s_1))))) else (if x2 = 2 then (nm_ (gR s_1 64 i0 35) fun (r_3 : Option Nat) => Option.bind r_3 fun i_4 => g_ ((0 : Int) ≤ x1 ∧ (x1 : Int) < 4) (some (gI s_1 101 i_4 (Int.toNat (x1)), s_1))) else (some ((-2), s_1)))))
set_option maxHeartbeats 4000000 in
set_option maxRecDepth 20000 in
theorem kX11_clerkAt (s0 : zS) (i0 : Nat) (x1 : Int) (x2 : Int) : zCt zw yX11_clerkAt cX11_clerkAt 3 (some .int) 1 22 0 0 eI [.inr (64, some i0), .inl x1, .inl x2] s0 (fX11_clerkAt s0 i0 x1 x2) := by
  refine zCt_on (own := RX11) (nm := "clerkAt") rfl rfl (by decide) (Nat.le_of_ble_eq_true rfl) fun K C => ?_
  show zJ zw 3 K _ 0 0 0 [(0, .inr (64, some i0)), (1, .inl x1), (2, .inl x2)] [] s0 (fX11_clerkAt s0 i0 x1 x2)
  unfold fX11_clerkAt
  refine J_iload_n C 1 dX11_clerkAt_0 rfl ?_
  refine J_iconst C dX11_clerkAt_1 (zi9 rfl rfl) ?_
  refine J_aload_n C 0 dX11_clerkAt_2 rfl ?_
  refine gf_64_34 C dX11_clerkAt_3 q_878 ?_
  refine J_iconst C dX11_clerkAt_6 (zi9 rfl rfl) ?_
  refine J_isub C dX11_clerkAt_7 ?_
  refine J_callSI (S := []) (avs := [.inl x1, .inl 0, .inl (wr ((gI s0 64 i0 34) - 1))]) C yw_87 (kX11_in _ _ _ _) dX11_clerkAt_8 rfl (Nat.le_of_ble_eq_true rfl) (by decide) fun x_2 s_1 => ?_
  refine J_if_ne C 16 dX11_clerkAt_11 rfl (fun _ => ?_) (fun _ => ?_)
  · refine J_iload_n C 2 dX11_clerkAt_16 rfl ?_
    refine J_if_ne C 29 dX11_clerkAt_17 rfl (fun _ => ?_) (fun _ => ?_)
    · refine J_iload_n C 2 dX11_clerkAt_29 rfl ?_
      refine J_iconst C dX11_clerkAt_30 (zi9 rfl rfl) ?_
      refine J_ic_ne C 58 dX11_clerkAt_31 rfl (fun _ => ?_) (fun _ => ?_)
      · refine J_iload_n C 2 dX11_clerkAt_58 rfl ?_
        refine J_iconst C dX11_clerkAt_59 (zi9 rfl rfl) ?_
        refine J_ic_ne C 72 dX11_clerkAt_60 rfl (fun _ => ?_) (fun _ => ?_)
        · refine J_bipush C dX11_clerkAt_72 (zi9 rfl rfl) (by decide) ?_
          exact J_iret C dX11_clerkAt_74 (by decide) (by decide)
        · refine J_aload_n C 0 dX11_clerkAt_63 rfl ?_
          refine gf_64_35 C dX11_clerkAt_64 q_879 ?_
          refine J_nmR fun r_3 => ?_
          refine J_iload_n C 1 dX11_clerkAt_67 rfl ?_
          refine J_bind fun i_4 e_5 => ?_
          subst e_5
          refine J_g fun h_6 => ?_
          refine J_iald (t := 101) (N := 4) C (Nat.le_of_ble_eq_true rfl) rfl rfl h_6 dX11_clerkAt_68 ?_
          refine J_goto C 74 dX11_clerkAt_69 rfl ?_
          exact J_iret C dX11_clerkAt_74 (by decide) (by decide)
      · refine J_aload_n C 0 dX11_clerkAt_34 rfl ?_
        refine gf_64_36 C dX11_clerkAt_35 q_880 ?_
        refine J_nmR fun r_7 => ?_
        refine J_iload_n C 1 dX11_clerkAt_38 rfl ?_
        refine J_bind fun i_8 e_9 => ?_
        subst e_9
        refine J_g fun h_10 => ?_
        refine J_iald (t := 102) (N := 4) C (Nat.le_of_ble_eq_true rfl) rfl rfl h_10 dX11_clerkAt_39 ?_
        refine J_bipush C dX11_clerkAt_40 (zi9 rfl rfl) (by decide) ?_
        refine J_ic_ne C 49 dX11_clerkAt_42 rfl (fun _ => ?_) (fun _ => ?_)
        · refine J_aload_n C 0 dX11_clerkAt_49 rfl ?_
          refine gf_64_37 C dX11_clerkAt_50 q_881 ?_
          refine J_nmR fun r_11 => ?_
          refine J_iload_n C 1 dX11_clerkAt_53 rfl ?_
          refine J_bind fun i_12 e_13 => ?_
          subst e_13
          refine J_g fun h_14 => ?_
          refine J_iald (t := 103) (N := 4) C (Nat.le_of_ble_eq_true rfl) rfl rfl h_14 dX11_clerkAt_54 ?_
          refine J_goto C 74 dX11_clerkAt_55 rfl ?_
          exact J_iret C dX11_clerkAt_74 (by decide) (by decide)
        · refine J_iconst C dX11_clerkAt_45 (zi9 rfl rfl) ?_
          refine J_goto C 74 dX11_clerkAt_46 rfl ?_
          exact J_iret C dX11_clerkAt_74 (by decide) (by decide)
    · refine J_aload_n C 0 dX11_clerkAt_20 rfl ?_
      refine gf_64_36 C dX11_clerkAt_21 q_880 ?_
      refine J_nmR fun r_15 => ?_
      refine J_iload_n C 1 dX11_clerkAt_24 rfl ?_
      refine J_bind fun i_16 e_17 => ?_
      subst e_17
      refine J_g fun h_18 => ?_
      refine J_iald (t := 102) (N := 4) C (Nat.le_of_ble_eq_true rfl) rfl rfl h_18 dX11_clerkAt_25 ?_
      refine J_goto C 74 dX11_clerkAt_26 rfl ?_
      exact J_iret C dX11_clerkAt_74 (by decide) (by decide)
  · refine J_iconst C dX11_clerkAt_14 (zi9 rfl rfl) ?_
    exact J_iret C dX11_clerkAt_15 (by decide) (by decide)
def fX11_on (nf : Nat) (s0 : zS) (i0 : Nat) (x1 : Int) (x2 : Int) : Option (Int × zS) :=
  cl_ (fX11_isWire s0 i0 x1) fun (x_2 : Int) (s_1 : zS) => if x_2 = 0 then (some ((-1), s_1)) else (cl_ (fX11_onMany nf s_1 i0 x1 x2) fun (x_4 : Int) (s_3 : zS) => some (x_4, s_3))
set_option maxHeartbeats 4000000 in
set_option maxRecDepth 20000 in
theorem kX11_on (nf : Nat) (s0 : zS) (i0 : Nat) (x1 : Int) (x2 : Int) : zCt zw yX11_on cX11_on 3 (some .int) 2 43 0 0 eI [.inr (64, some i0), .inl x1, .inl x2] s0 (fX11_on nf s0 i0 x1 x2) := by
  refine zCt_on (own := RX11) (nm := "on") rfl rfl (by decide) (Nat.le_of_ble_eq_true rfl) fun K C => ?_
  show zJ zw 3 K _ 0 0 0 [(0, .inr (64, some i0)), (1, .inl x1), (2, .inl x2)] [] s0 (fX11_on nf s0 i0 x1 x2)
  unfold fX11_on
  refine J_aload_n C 0 dX11_on_0 rfl ?_
  refine J_iload_n C 1 dX11_on_1 rfl ?_
  refine J_callVI (S := []) (avs := [.inl x1]) C zx64 yw_89 rfl (kX11_isWire _ _ _) dX11_on_2 rfl (Nat.le_of_ble_eq_true rfl) (by decide) fun x_2 s_1 => ?_
  refine J_if_eq C 17 dX11_on_5 rfl (fun _ => ?_) (fun _ => ?_)
  · refine J_iconst C dX11_on_17 (zi9 rfl rfl) ?_
    exact J_iret C dX11_on_18 (by decide) (by decide)
  · refine J_aload_n C 0 dX11_on_8 rfl ?_
    refine J_iload_n C 1 dX11_on_9 rfl ?_
    refine J_iload_n C 2 dX11_on_10 rfl ?_
    refine J_callVI (S := []) (avs := [.inl x1, .inl x2]) C zx64 yw_114 rfl (kX11_onMany _ _ _ _ _) dX11_on_11 rfl (Nat.le_of_ble_eq_true rfl) (by decide) fun x_4 s_3 => ?_
    refine J_goto C 18 dX11_on_14 rfl ?_
    exact J_iret C dX11_on_18 (by decide) (by decide)
def fX11_waits (s0 : zS) (i0 : Nat) (x1 : Int) (x2 : Int) : Option (Int × zS) :=
  cl_ (fX11_isPost s0 i0 x1) fun (x_2 : Int) (s_1 : zS) => if x_2 = 0 then (some ((-1), s_1)) else (nm_ (gR s_1 64 i0 2) fun (r_3 : Option Nat) => Option.bind r_3 fun i_4 => g_ ((0 : Int) ≤ x1 ∧ (x1 : Int) < 16) (if gI s_1 68 i_4 (Int.toNat (x1)) = 2 then (if x2 = 0 then (nm_ (gR s_1 64 i0 29) fun (r_8 : Option Nat) => Option.bind r_8 fun i_9 => g_ ((0 : Int) ≤ x1 ∧ (x1 : Int) < 16) (some (gI s_1 95 i_9 (Int.toNat (x1)), s_1))) else (if x2 = 1 then (nm_ (gR s_1 64 i0 30) fun (r_13 : Option Nat) => Option.bind r_13 fun i_14 => g_ ((0 : Int) ≤ x1 ∧ (x1 : Int) < 16) (some (gI s_1 96 i_14 (Int.toNat (x1)), s_1))) else (if x2 = 2 then (nm_ (gR s_1 64 i0 29) fun (r_18 : Option Nat) => Option.bind r_18 fun i_19 => g_ ((0 : Int) ≤ x1 ∧ (x1 : Int) < 16) (if gI s_1 95 i_19 (Int.toNat (x1)) = 0 then (some ((-9), s_1)) else (nm_ (gR s_1 64 i0 31) fun (r_22 : Option Nat) => Option.bind r_22 fun i_23 => g_ ((0 : Int) ≤ x1 ∧ (x1 : Int) < 16) (some (gI s_1 97 i_23 (Int.toNat (x1)), s_1))))) else (if x2 = 3 then (nm_ (gR s_1 64 i0 32) fun (r_27 : Option Nat) => Option.bind r_27 fun i_28 => g_ ((0 : Int) ≤ x1 ∧ (x1 : Int) < 16) (some (gI s_1 98 i_28 (Int.toNat (x1)), s_1))) else (if x2 = 4 then (nm_ (gR s_1 64 i0 33) fun (r_32 : Option Nat) => Option.bind r_32 fun i_33 => g_ ((0 : Int) ≤ x1 ∧ (x1 : Int) < 16) (some (gI s_1 99 i_33 (Int.toNat (x1)), s_1))) else (some ((-2), s_1))))))) else (some ((-3), s_1))))
set_option maxHeartbeats 4000000 in
set_option maxRecDepth 20000 in
theorem kX11_waits (s0 : zS) (i0 : Nat) (x1 : Int) (x2 : Int) : zCt zw yX11_waits cX11_waits 3 (some .int) 2 43 0 0 eI [.inr (64, some i0), .inl x1, .inl x2] s0 (fX11_waits s0 i0 x1 x2) := by
  refine zCt_on (own := RX11) (nm := "waits") rfl rfl (by decide) (Nat.le_of_ble_eq_true rfl) fun K C => ?_
  show zJ zw 3 K _ 0 0 0 [(0, .inr (64, some i0)), (1, .inl x1), (2, .inl x2)] [] s0 (fX11_waits s0 i0 x1 x2)
  unfold fX11_waits
  refine J_aload_n C 0 dX11_waits_0 rfl ?_
  refine J_iload_n C 1 dX11_waits_1 rfl ?_
  refine J_callVI (S := []) (avs := [.inl x1]) C zx64 yw_88 rfl (kX11_isPost _ _ _) dX11_waits_2 rfl (Nat.le_of_ble_eq_true rfl) (by decide) fun x_2 s_1 => ?_
  refine J_if_ne C 10 dX11_waits_5 rfl (fun _ => ?_) (fun _ => ?_)
  · refine J_aload_n C 0 dX11_waits_10 rfl ?_
    refine gf_64_2 C dX11_waits_11 q_846 ?_
    refine J_nmR fun r_3 => ?_
    refine J_iload_n C 1 dX11_waits_14 rfl ?_
    refine J_bind fun i_4 e_5 => ?_
    subst e_5
    refine J_g fun h_6 => ?_
    refine J_iald (t := 68) (N := 16) C (Nat.le_of_ble_eq_true rfl) rfl rfl h_6 dX11_waits_15 ?_
    refine J_iconst C dX11_waits_16 (zi9 rfl rfl) ?_
    refine J_ic_eq C 23 dX11_waits_17 rfl (fun _ => ?_) (fun _ => ?_)
    · refine J_iload_n C 2 dX11_waits_23 rfl ?_
      refine J_if (fun h_7 => ?_) (fun h_7 => ?_)
      · refine J_swIn C 60 dX11_waits_24 (by omega) (by omega) (by rw [h_7]; rfl) rfl ?_
        refine J_aload_n C 0 dX11_waits_60 rfl ?_
        refine gf_64_29 C dX11_waits_61 q_873 ?_
        refine J_nmR fun r_8 => ?_
        refine J_iload_n C 1 dX11_waits_64 rfl ?_
        refine J_bind fun i_9 e_10 => ?_
        subst e_10
        refine J_g fun h_11 => ?_
        refine J_iald (t := 95) (N := 16) C (Nat.le_of_ble_eq_true rfl) rfl rfl h_11 dX11_waits_65 ?_
        exact J_iret C dX11_waits_66 (by decide) (by decide)
      · refine J_if (fun h_12 => ?_) (fun h_12 => ?_)
        · refine J_swIn C 67 dX11_waits_24 (by omega) (by omega) (by rw [h_12]; rfl) rfl ?_
          refine J_aload_n C 0 dX11_waits_67 rfl ?_
          refine gf_64_30 C dX11_waits_68 q_874 ?_
          refine J_nmR fun r_13 => ?_
          refine J_iload_n C 1 dX11_waits_71 rfl ?_
          refine J_bind fun i_14 e_15 => ?_
          subst e_15
          refine J_g fun h_16 => ?_
          refine J_iald (t := 96) (N := 16) C (Nat.le_of_ble_eq_true rfl) rfl rfl h_16 dX11_waits_72 ?_
          exact J_iret C dX11_waits_73 (by decide) (by decide)
        · refine J_if (fun h_17 => ?_) (fun h_17 => ?_)
          · refine J_swIn C 74 dX11_waits_24 (by omega) (by omega) (by rw [h_17]; rfl) rfl ?_
            refine J_aload_n C 0 dX11_waits_74 rfl ?_
            refine gf_64_29 C dX11_waits_75 q_873 ?_
            refine J_nmR fun r_18 => ?_
            refine J_iload_n C 1 dX11_waits_78 rfl ?_
            refine J_bind fun i_19 e_20 => ?_
            subst e_20
            refine J_g fun h_21 => ?_
            refine J_iald (t := 95) (N := 16) C (Nat.le_of_ble_eq_true rfl) rfl rfl h_21 dX11_waits_79 ?_
            refine J_if_ne C 88 dX11_waits_80 rfl (fun _ => ?_) (fun _ => ?_)
            · refine J_aload_n C 0 dX11_waits_88 rfl ?_
              refine gf_64_31 C dX11_waits_89 q_875 ?_
              refine J_nmR fun r_22 => ?_
              refine J_iload_n C 1 dX11_waits_92 rfl ?_
              refine J_bind fun i_23 e_24 => ?_
              subst e_24
              refine J_g fun h_25 => ?_
              refine J_iald (t := 97) (N := 16) C (Nat.le_of_ble_eq_true rfl) rfl rfl h_25 dX11_waits_93 ?_
              exact J_iret C dX11_waits_94 (by decide) (by decide)
            · refine J_bipush C dX11_waits_83 (zi9 rfl rfl) (by decide) ?_
              refine J_goto C 94 dX11_waits_85 rfl ?_
              exact J_iret C dX11_waits_94 (by decide) (by decide)
          · refine J_if (fun h_26 => ?_) (fun h_26 => ?_)
            · refine J_swIn C 95 dX11_waits_24 (by omega) (by omega) (by rw [h_26]; rfl) rfl ?_
              refine J_aload_n C 0 dX11_waits_95 rfl ?_
              refine gf_64_32 C dX11_waits_96 q_876 ?_
              refine J_nmR fun r_27 => ?_
              refine J_iload_n C 1 dX11_waits_99 rfl ?_
              refine J_bind fun i_28 e_29 => ?_
              subst e_29
              refine J_g fun h_30 => ?_
              refine J_iald (t := 98) (N := 16) C (Nat.le_of_ble_eq_true rfl) rfl rfl h_30 dX11_waits_100 ?_
              exact J_iret C dX11_waits_101 (by decide) (by decide)
            · refine J_if (fun h_31 => ?_) (fun h_31 => ?_)
              · refine J_swIn C 102 dX11_waits_24 (by omega) (by omega) (by rw [h_31]; rfl) rfl ?_
                refine J_aload_n C 0 dX11_waits_102 rfl ?_
                refine gf_64_33 C dX11_waits_103 q_877 ?_
                refine J_nmR fun r_32 => ?_
                refine J_iload_n C 1 dX11_waits_106 rfl ?_
                refine J_bind fun i_33 e_34 => ?_
                subst e_34
                refine J_g fun h_35 => ?_
                refine J_iald (t := 99) (N := 16) C (Nat.le_of_ble_eq_true rfl) rfl rfl h_35 dX11_waits_107 ?_
                exact J_iret C dX11_waits_108 (by decide) (by decide)
              · refine J_swOut C 109 dX11_waits_24 (by omega) rfl ?_
                refine J_bipush C dX11_waits_109 (zi9 rfl rfl) (by decide) ?_
                exact J_iret C dX11_waits_111 (by decide) (by decide)
    · refine J_bipush C dX11_waits_20 (zi9 rfl rfl) (by decide) ?_
      exact J_iret C dX11_waits_22 (by decide) (by decide)
  · refine J_iconst C dX11_waits_8 (zi9 rfl rfl) ?_
    exact J_iret C dX11_waits_9 (by decide) (by decide)
def fX11_measure_L2 (k43 : zS → Option (Unit × zS)) (o0 : Nat) (nf : Nat) : Nat → zS → Int → Option (Unit × zS)
  | 0, _, _ => none
  | n + 1, s0, x1 =>
    if x1 < gI s0 64 o0 34 then (nm_ (gR s0 64 o0 53) fun (r_1 : Option Nat) => nm_ (gR s0 64 o0 36) fun (r_2 : Option Nat) => Option.bind r_2 fun i_3 => g_ ((0 : Int) ≤ x1 ∧ (x1 : Int) < 4) (nm_ (fun (s_6 : zS) (u_7 : Int) => Option.bind r_1 fun i_8 => g_ ((0 : Int) ≤ x1 ∧ (x1 : Int) < 4) (up_ (sI s_6 119 i_8 (Int.toNat (x1)) u_7) fun (s_11 : zS) => nm_ (wr (x1 + 1)) fun (x_12 : Int) => fX11_measure_L2 k43 o0 nf n s_11 x_12)) fun (j36 : zS → Int → Option (Unit × zS)) => if gI s0 102 i_3 (Int.toNat (x1)) = (-9) then (j36 s0 0) else (nm_ (gR s0 64 o0 37) fun (r_13 : Option Nat) => Option.bind r_13 fun i_14 => g_ ((0 : Int) ≤ x1 ∧ (x1 : Int) < 4) (j36 s0 (gI s0 103 i_14 (Int.toNat (x1))))))) else (k43 s0)
def fX11_measure_L67 (k102 : zS → Int → Option (Unit × zS)) (o0 : Nat) (c1 : Int) (nf : Nat) : Nat → zS → Int → Int → Option (Unit × zS)
  | 0, _, _, _ => none
  | n + 1, s0, x2, x3 =>
    if x3 < gI s0 64 o0 34 then (nm_ (gR s0 64 o0 53) fun (r_4 : Option Nat) => Option.bind r_4 fun i_5 => g_ ((0 : Int) ≤ x3 ∧ (x3 : Int) < 4) (nm_ (gR s0 64 o0 53) fun (r_8 : Option Nat) => Option.bind r_8 fun i_9 => g_ ((0 : Int) ≤ x2 ∧ (x2 : Int) < 4) (nm_ (fun (s_12 : zS) (u_13 : Int) => nm_ (wr (x3 + 1)) fun (x_14 : Int) => fX11_measure_L67 k102 o0 c1 nf n s_12 u_13 x_14) fun (j95 : zS → Int → Option (Unit × zS)) => if gI s0 119 i_5 (Int.toNat (x3)) < gI s0 119 i_9 (Int.toNat (x2)) then (j95 s0 x3) else (j95 s0 x2)))) else (k102 s0 x2)
def fX11_measure_L55 (o0 : Nat) (nf : Nat) : Nat → zS → Int → Option (Unit × zS)
  | 0, _, _ => none
  | n + 1, s0, x1 =>
    if x1 < gI s0 64 o0 52 then (fX11_measure_L67 (fun (s_5 : zS) (y_4 : Int) => nm_ (gR s_5 64 o0 53) fun (r_6 : Option Nat) => Option.bind r_6 fun i_7 => g_ ((0 : Int) ≤ y_4 ∧ (y_4 : Int) < 4) (nm_ (gR s_5 64 o0 35) fun (r_10 : Option Nat) => Option.bind r_10 fun i_11 => g_ ((0 : Int) ≤ y_4 ∧ (y_4 : Int) < 4) (g_ ((0 : Int) ≤ y_4 ∧ (y_4 : Int) < 4) (up_ (sI s_5 119 i_7 (Int.toNat (y_4)) (wr ((gI s_5 119 i_7 (Int.toNat (y_4))) + (gI s_5 101 i_11 (Int.toNat (y_4)))))) fun (s_15 : zS) => nm_ (gR s_15 64 o0 53) fun (r_16 : Option Nat) => Option.bind r_16 fun i_17 => g_ ((0 : Int) ≤ y_4 ∧ (y_4 : Int) < 4) (nm_ (gR s_15 64 o0 51) fun (r_20 : Option Nat) => Option.bind r_20 fun i_21 => g_ ((0 : Int) ≤ x1 ∧ (x1 : Int) < 24) (cl_ (fX11_sentOf s_15 o0 (gI s_15 117 i_21 (Int.toNat (x1)))) fun (x_25 : Int) (s_24 : zS) => nm_ (wr ((wr ((gI s_15 64 o0 13) + (gI s_15 119 i_17 (Int.toNat (y_4))))) - x_25)) fun (x_26 : Int) => nm_ (fun (s_27 : zS) (u_28 : Int) => up_ (sI s_27 64 o0 54 u_28) fun (s_29 : zS) => up_ (sI s_29 64 o0 55 (wr ((gI s_29 64 o0 55) + x_26))) fun (s_30 : zS) => nm_ (wr (x1 + 1)) fun (x_31 : Int) => fX11_measure_L55 o0 nf n s_30 x_31) fun (j157 : zS → Int → Option (Unit × zS)) => if gI s_24 64 o0 54 < x_26 then (j157 s_24 x_26) else (j157 s_24 (gI s_24 64 o0 54)))))))) o0 x1 nf nf s0 0 1) else (some ((), s0))
def fX11_measure (nf : Nat) (s0 : zS) (i0 : Nat) : Option (Unit × zS) :=
  fX11_measure_L2 (fun (s_1 : zS) => up_ (sI s_1 64 i0 54 (-1)) fun (s_2 : zS) => up_ (sI s_2 64 i0 55 0) fun (s_3 : zS) => fX11_measure_L55 i0 nf nf s_3 0) i0 nf nf s0 0
set_option maxHeartbeats 4000000 in
set_option maxRecDepth 20000 in
theorem kX11_measure_L2 {K : zKx} (C : zC zw 4 K RX11 cX11_measure "measure" none 1 21 0 0)  (nf : Nat) (o0 : Nat) (k43 : zS → Option (Unit × zS)) (hk43 : ∀ (s1 : zS), zJ zw 4 K (zQm zw eV 0 0 K) 0 0 43 [(0, .inr (64, some o0))] [] s1 (k43 s1)) : ∀ (n : Nat) (s0 : zS) (x1 : Int), zJ zw 4 K (zQm zw eV 0 0 K) 0 0 2 [(0, .inr (64, some o0)), (1, .inl x1)] [] s0 (fX11_measure_L2 k43 o0 nf n s0 x1) := by
  intro n
  induction n with
  | zero => intro s0 x1; exact J_none
  | succ n ih =>
    intro s0 x1
    rw [fX11_measure_L2]
    refine J_iload_n C 1 dX11_measure_2 rfl ?_
    refine J_aload_n C 0 dX11_measure_3 rfl ?_
    refine gf_64_34 C dX11_measure_4 q_878 ?_
    refine J_ic_ge C 43 dX11_measure_7 rfl (fun _ => ?_) (fun _ => ?_)
    · refine J_loc (L' := [(0, .inr (64, some o0))]) [0] rfl ?_
      exact hk43 _
    · refine J_aload_n C 0 dX11_measure_10 rfl ?_
      refine gf_64_53 C dX11_measure_11 q_897 ?_
      refine J_nmR fun r_1 => ?_
      refine J_iload_n C 1 dX11_measure_14 rfl ?_
      refine J_aload_n C 0 dX11_measure_15 rfl ?_
      refine gf_64_36 C dX11_measure_16 q_880 ?_
      refine J_nmR fun r_2 => ?_
      refine J_iload_n C 1 dX11_measure_19 rfl ?_
      refine J_bind fun i_3 e_4 => ?_
      subst e_4
      refine J_g fun h_5 => ?_
      refine J_iald (t := 102) (N := 4) C (Nat.le_of_ble_eq_true rfl) rfl rfl h_5 dX11_measure_20 ?_
      refine J_bipush C dX11_measure_21 (zi9 rfl rfl) (by decide) ?_
      refine J_join (fun j36 => ∀ (s_6 : zS) (u_7 : Int), zJ zw 4 K (zQm zw eV 0 0 K) 0 0 36 [(0, .inr (64, some o0)), (1, .inl x1)] [.inl u_7, .inl x1, .inr (119, r_1)] s_6 (j36 s_6 u_7)) ?_ fun j36 hj36 => ?_
      · intro s_6 u_7
        refine J_bind fun i_8 e_9 => ?_
        subst e_9
        refine J_g fun h_10 => ?_
        refine J_iast (t := 119) (N := 4) C (Nat.le_of_ble_eq_true rfl) rfl rfl h_10 dX11_measure_36 fun s_11 => ?_
        refine J_iinc C 1 dX11_measure_37 (zi9 rfl rfl) (Nat.le_of_ble_eq_true rfl) rfl fun x_12 => ?_
        refine J_goto C 2 dX11_measure_40 rfl ?_
        exact ih _ _
      · refine J_ic_ne C 30 dX11_measure_23 rfl (fun _ => ?_) (fun _ => ?_)
        · refine J_aload_n C 0 dX11_measure_30 rfl ?_
          refine gf_64_37 C dX11_measure_31 q_881 ?_
          refine J_nmR fun r_13 => ?_
          refine J_iload_n C 1 dX11_measure_34 rfl ?_
          refine J_bind fun i_14 e_15 => ?_
          subst e_15
          refine J_g fun h_16 => ?_
          refine J_iald (t := 103) (N := 4) C (Nat.le_of_ble_eq_true rfl) rfl rfl h_16 dX11_measure_35 ?_
          exact hj36 _ _
        · refine J_iconst C dX11_measure_26 (zi9 rfl rfl) ?_
          refine J_goto C 36 dX11_measure_27 rfl ?_
          exact hj36 _ _
set_option maxHeartbeats 4000000 in
set_option maxRecDepth 20000 in
theorem kX11_measure_L67 {K : zKx} (C : zC zw 4 K RX11 cX11_measure "measure" none 1 21 0 0)  (nf : Nat) (o0 : Nat) (c1 : Int) (k102 : zS → Int → Option (Unit × zS)) (hk102 : ∀ (s1 : zS) (z2 : Int), zJ zw 4 K (zQm zw eV 0 0 K) 0 0 102 [(0, .inr (64, some o0)), (1, .inl c1), (2, .inl z2)] [] s1 (k102 s1 z2)) : ∀ (n : Nat) (s0 : zS) (x2 : Int) (x3 : Int), zJ zw 4 K (zQm zw eV 0 0 K) 0 0 67 [(0, .inr (64, some o0)), (1, .inl c1), (2, .inl x2), (3, .inl x3)] [] s0 (fX11_measure_L67 k102 o0 c1 nf n s0 x2 x3) := by
  intro n
  induction n with
  | zero => intro s0 x2 x3; exact J_none
  | succ n ih =>
    intro s0 x2 x3
    rw [fX11_measure_L67]
    refine J_iload_n C 3 dX11_measure_67 rfl ?_
    refine J_aload_n C 0 dX11_measure_68 rfl ?_
    refine gf_64_34 C dX11_measure_69 q_878 ?_
    refine J_ic_ge C 102 dX11_measure_72 rfl (fun _ => ?_) (fun _ => ?_)
    · refine J_loc (L' := [(0, .inr (64, some o0)), (1, .inl c1), (2, .inl x2)]) [0, 1, 2] rfl ?_
      exact hk102 _ _
    · refine J_aload_n C 0 dX11_measure_75 rfl ?_
      refine gf_64_53 C dX11_measure_76 q_897 ?_
      refine J_nmR fun r_4 => ?_
      refine J_iload_n C 3 dX11_measure_79 rfl ?_
      refine J_bind fun i_5 e_6 => ?_
      subst e_6
      refine J_g fun h_7 => ?_
      refine J_iald (t := 119) (N := 4) C (Nat.le_of_ble_eq_true rfl) rfl rfl h_7 dX11_measure_80 ?_
      refine J_aload_n C 0 dX11_measure_81 rfl ?_
      refine gf_64_53 C dX11_measure_82 q_897 ?_
      refine J_nmR fun r_8 => ?_
      refine J_iload_n C 2 dX11_measure_85 rfl ?_
      refine J_bind fun i_9 e_10 => ?_
      subst e_10
      refine J_g fun h_11 => ?_
      refine J_iald (t := 119) (N := 4) C (Nat.le_of_ble_eq_true rfl) rfl rfl h_11 dX11_measure_86 ?_
      refine J_join (fun j95 => ∀ (s_12 : zS) (u_13 : Int), zJ zw 4 K (zQm zw eV 0 0 K) 0 0 95 [(0, .inr (64, some o0)), (1, .inl c1), (3, .inl x3)] [.inl u_13] s_12 (j95 s_12 u_13)) ?_ fun j95 hj95 => ?_
      · intro s_12 u_13
        refine J_istore_n (L' := [(0, .inr (64, some o0)), (1, .inl c1), (2, .inl u_13), (3, .inl x3)]) C dX11_measure_95 (Nat.le_of_ble_eq_true rfl) rfl ?_
        refine J_iinc C 3 dX11_measure_96 (zi9 rfl rfl) (Nat.le_of_ble_eq_true rfl) rfl fun x_14 => ?_
        refine J_goto C 67 dX11_measure_99 rfl ?_
        exact ih _ _ _
      · refine J_ic_ge C 94 dX11_measure_87 rfl (fun _ => ?_) (fun _ => ?_)
        · refine J_iload_n C 2 dX11_measure_94 rfl ?_
          refine J_loc (L' := [(0, .inr (64, some o0)), (1, .inl c1), (3, .inl x3)]) [0, 1, 3] rfl ?_
          exact hj95 _ _
        · refine J_iload_n C 3 dX11_measure_90 rfl ?_
          refine J_goto C 95 dX11_measure_91 rfl ?_
          refine J_loc (L' := [(0, .inr (64, some o0)), (1, .inl c1), (3, .inl x3)]) [0, 1, 3] rfl ?_
          exact hj95 _ _
set_option maxHeartbeats 4000000 in
set_option maxRecDepth 20000 in
theorem kX11_measure_L55 {K : zKx} (C : zC zw 4 K RX11 cX11_measure "measure" none 1 21 0 0)  (nf : Nat) (o0 : Nat) : ∀ (n : Nat) (s0 : zS) (x1 : Int), zJ zw 4 K (zQm zw eV 0 0 K) 0 0 55 [(0, .inr (64, some o0)), (1, .inl x1)] [] s0 (fX11_measure_L55 o0 nf n s0 x1) := by
  intro n
  induction n with
  | zero => intro s0 x1; exact J_none
  | succ n ih =>
    intro s0 x1
    rw [fX11_measure_L55]
    refine J_iload_n C 1 dX11_measure_55 rfl ?_
    refine J_aload_n C 0 dX11_measure_56 rfl ?_
    refine gf_64_52 C dX11_measure_57 q_896 ?_
    refine J_ic_ge C 176 dX11_measure_60 rfl (fun _ => ?_) (fun _ => ?_)
    · exact J_vret C dX11_measure_176 (by decide) (by decide)
    · refine J_iconst C dX11_measure_63 (zi9 rfl rfl) ?_
      refine J_istore_n (L' := [(0, .inr (64, some o0)), (1, .inl x1), (2, .inl 0)]) C dX11_measure_64 (Nat.le_of_ble_eq_true rfl) rfl ?_
      refine J_iconst C dX11_measure_65 (zi9 rfl rfl) ?_
      refine J_istore_n (L' := [(0, .inr (64, some o0)), (1, .inl x1), (2, .inl 0), (3, .inl 1)]) C dX11_measure_66 (Nat.le_of_ble_eq_true rfl) rfl ?_
      refine kX11_measure_L67 C _ _ _ _ ?_ _ _ _ _
      intro s_5 y_4
      refine J_aload_n C 0 dX11_measure_102 rfl ?_
      refine gf_64_53 C dX11_measure_103 q_897 ?_
      refine J_nmR fun r_6 => ?_
      refine J_iload_n C 2 dX11_measure_106 rfl ?_
      refine J_dup2 C dX11_measure_107 ?_
      refine J_bind fun i_7 e_8 => ?_
      subst e_8
      refine J_g fun h_9 => ?_
      refine J_iald (t := 119) (N := 4) C (Nat.le_of_ble_eq_true rfl) rfl rfl h_9 dX11_measure_108 ?_
      refine J_aload_n C 0 dX11_measure_109 rfl ?_
      refine gf_64_35 C dX11_measure_110 q_879 ?_
      refine J_nmR fun r_10 => ?_
      refine J_iload_n C 2 dX11_measure_113 rfl ?_
      refine J_bind fun i_11 e_12 => ?_
      subst e_12
      refine J_g fun h_13 => ?_
      refine J_iald (t := 101) (N := 4) C (Nat.le_of_ble_eq_true rfl) rfl rfl h_13 dX11_measure_114 ?_
      refine J_iadd C dX11_measure_115 ?_
      refine J_g fun h_14 => ?_
      refine J_iast (t := 119) (N := 4) C (Nat.le_of_ble_eq_true rfl) rfl rfl h_14 dX11_measure_116 fun s_15 => ?_
      refine J_aload_n C 0 dX11_measure_117 rfl ?_
      refine gf_64_13 C dX11_measure_118 q_857 ?_
      refine J_aload_n C 0 dX11_measure_121 rfl ?_
      refine gf_64_53 C dX11_measure_122 q_897 ?_
      refine J_nmR fun r_16 => ?_
      refine J_iload_n C 2 dX11_measure_125 rfl ?_
      refine J_bind fun i_17 e_18 => ?_
      subst e_18
      refine J_g fun h_19 => ?_
      refine J_iald (t := 119) (N := 4) C (Nat.le_of_ble_eq_true rfl) rfl rfl h_19 dX11_measure_126 ?_
      refine J_iadd C dX11_measure_127 ?_
      refine J_aload_n C 0 dX11_measure_128 rfl ?_
      refine J_aload_n C 0 dX11_measure_129 rfl ?_
      refine gf_64_51 C dX11_measure_130 q_895 ?_
      refine J_nmR fun r_20 => ?_
      refine J_iload_n C 1 dX11_measure_133 rfl ?_
      refine J_bind fun i_21 e_22 => ?_
      subst e_22
      refine J_g fun h_23 => ?_
      refine J_iald (t := 117) (N := 24) C (Nat.le_of_ble_eq_true rfl) rfl rfl h_23 dX11_measure_134 ?_
      refine J_callVI (S := [.inl (wr ((gI s_15 64 o0 13) + (gI s_15 119 i_17 (Int.toNat (y_4)))))]) (avs := [.inl (gI s_15 117 i_21 (Int.toNat (x1)))]) C zx64 yw_107 rfl (kX11_sentOf _ _ _) dX11_measure_135 rfl (Nat.le_of_ble_eq_true rfl) (by decide) fun x_25 s_24 => ?_
      refine J_isub C dX11_measure_138 ?_
      refine J_nm fun x_26 => ?_
      refine J_istore_n (L' := [(0, .inr (64, some o0)), (1, .inl x1), (2, .inl y_4), (3, .inl x_26)]) C dX11_measure_139 (Nat.le_of_ble_eq_true rfl) rfl ?_
      refine J_aload_n C 0 dX11_measure_140 rfl ?_
      refine J_iload_n C 3 dX11_measure_141 rfl ?_
      refine J_aload_n C 0 dX11_measure_142 rfl ?_
      refine gf_64_54 C dX11_measure_143 q_898 ?_
      refine J_join (fun j157 => ∀ (s_27 : zS) (u_28 : Int), zJ zw 4 K (zQm zw eV 0 0 K) 0 0 157 [(0, .inr (64, some o0)), (1, .inl x1), (3, .inl x_26)] [.inl u_28, .inr (64, some o0)] s_27 (j157 s_27 u_28)) ?_ fun j157 hj157 => ?_
      · intro s_27 u_28
        refine pf_64_54 C dX11_measure_157 q_898 fun s_29 => ?_
        refine J_aload_n C 0 dX11_measure_160 rfl ?_
        refine J_dup C dX11_measure_161 ?_
        refine gf_64_55 C dX11_measure_162 q_899 ?_
        refine J_iload_n C 2 dX11_measure_165 rfl ?_
        refine J_iadd C dX11_measure_166 ?_
        refine pf_64_55 C dX11_measure_167 q_899 fun s_30 => ?_
        refine J_iinc C 1 dX11_measure_170 (zi9 rfl rfl) (Nat.le_of_ble_eq_true rfl) rfl fun x_31 => ?_
        refine J_goto C 55 dX11_measure_173 rfl ?_
        refine J_loc (L' := [(0, .inr (64, some o0)), (1, .inl x_31)]) [0, 1] rfl ?_
        exact ih _ _
      · refine J_ic_le C 153 dX11_measure_146 rfl (fun _ => ?_) (fun _ => ?_)
        · refine J_aload_n C 0 dX11_measure_153 rfl ?_
          refine gf_64_54 C dX11_measure_154 q_898 ?_
          refine J_loc (L' := [(0, .inr (64, some o0)), (1, .inl x1), (3, .inl x_26)]) [0, 1, 3] rfl ?_
          exact hj157 _ _
        · refine J_iload_n C 3 dX11_measure_149 rfl ?_
          refine J_goto C 157 dX11_measure_150 rfl ?_
          refine J_loc (L' := [(0, .inr (64, some o0)), (1, .inl x1), (3, .inl x_26)]) [0, 1, 3] rfl ?_
          exact hj157 _ _
set_option maxHeartbeats 4000000 in
set_option maxRecDepth 20000 in
theorem kX11_measure (nf : Nat) (s0 : zS) (i0 : Nat) : zCt zw yX11_measure cX11_measure 4 none 1 21 0 0 eV [.inr (64, some i0)] s0 (fX11_measure nf s0 i0) := by
  refine zCt_on (own := RX11) (nm := "measure") rfl rfl (by decide) (Nat.le_of_ble_eq_true rfl) fun K C => ?_
  show zJ zw 4 K _ 0 0 0 [(0, .inr (64, some i0))] [] s0 (fX11_measure nf s0 i0)
  unfold fX11_measure
  refine J_iconst C dX11_measure_0 (zi9 rfl rfl) ?_
  refine J_istore_n (L' := [(0, .inr (64, some i0)), (1, .inl 0)]) C dX11_measure_1 (Nat.le_of_ble_eq_true rfl) rfl ?_
  refine kX11_measure_L2 C _ _ _ ?_ _ _ _
  intro s_1
  refine J_aload_n C 0 dX11_measure_43 rfl ?_
  refine J_iconst C dX11_measure_44 (zi9 rfl rfl) ?_
  refine pf_64_54 C dX11_measure_45 q_898 fun s_2 => ?_
  refine J_aload_n C 0 dX11_measure_48 rfl ?_
  refine J_iconst C dX11_measure_49 (zi9 rfl rfl) ?_
  refine pf_64_55 C dX11_measure_50 q_899 fun s_3 => ?_
  refine J_iconst C dX11_measure_53 (zi9 rfl rfl) ?_
  refine J_istore_n (L' := [(0, .inr (64, some i0)), (1, .inl 0)]) C dX11_measure_54 (Nat.le_of_ble_eq_true rfl) rfl ?_
  exact kX11_measure_L55 C _ _ _ _ _
def fX11_swap (s0 : zS) (i0 : Nat) (x1 : Int) (x2 : Int) : Option (Unit × zS) :=
  nm_ (gR s0 64 i0 51) fun (r_1 : Option Nat) => Option.bind r_1 fun i_2 => g_ ((0 : Int) ≤ x1 ∧ (x1 : Int) < 24) (nm_ (gI s0 117 i_2 (Int.toNat (x1))) fun (x_5 : Int) => nm_ (gR s0 64 i0 51) fun (r_6 : Option Nat) => nm_ (gR s0 64 i0 51) fun (r_7 : Option Nat) => Option.bind r_7 fun i_8 => g_ ((0 : Int) ≤ x2 ∧ (x2 : Int) < 24) (Option.bind r_6 fun i_11 => g_ ((0 : Int) ≤ x1 ∧ (x1 : Int) < 24) (up_ (sI s0 117 i_11 (Int.toNat (x1)) (gI s0 117 i_8 (Int.toNat (x2)))) fun (s_14 : zS) => nm_ (gR s_14 64 i0 51) fun (r_15 : Option Nat) => Option.bind r_15 fun i_16 => g_ ((0 : Int) ≤ x2 ∧ (x2 : Int) < 24) (up_ (sI s_14 117 i_16 (Int.toNat (x2)) x_5) fun (s_19 : zS) => some ((), s_19)))))
set_option maxHeartbeats 4000000 in
set_option maxRecDepth 20000 in
theorem kX11_swap (s0 : zS) (i0 : Nat) (x1 : Int) (x2 : Int) : zCt zw yX11_swap cX11_swap 4 none 0 0 0 0 eV [.inr (64, some i0), .inl x1, .inl x2] s0 (fX11_swap s0 i0 x1 x2) := by
  refine zCt_on (own := RX11) (nm := "swap") rfl rfl (by decide) (Nat.le_of_ble_eq_true rfl) fun K C => ?_
  show zJ zw 4 K _ 0 0 0 [(0, .inr (64, some i0)), (1, .inl x1), (2, .inl x2)] [] s0 (fX11_swap s0 i0 x1 x2)
  unfold fX11_swap
  refine J_aload_n C 0 dX11_swap_0 rfl ?_
  refine gf_64_51 C dX11_swap_1 q_895 ?_
  refine J_nmR fun r_1 => ?_
  refine J_iload_n C 1 dX11_swap_4 rfl ?_
  refine J_bind fun i_2 e_3 => ?_
  subst e_3
  refine J_g fun h_4 => ?_
  refine J_iald (t := 117) (N := 24) C (Nat.le_of_ble_eq_true rfl) rfl rfl h_4 dX11_swap_5 ?_
  refine J_nm fun x_5 => ?_
  refine J_istore_n (L' := [(0, .inr (64, some i0)), (1, .inl x1), (2, .inl x2), (3, .inl x_5)]) C dX11_swap_6 (Nat.le_of_ble_eq_true rfl) rfl ?_
  refine J_aload_n C 0 dX11_swap_7 rfl ?_
  refine gf_64_51 C dX11_swap_8 q_895 ?_
  refine J_nmR fun r_6 => ?_
  refine J_iload_n C 1 dX11_swap_11 rfl ?_
  refine J_aload_n C 0 dX11_swap_12 rfl ?_
  refine gf_64_51 C dX11_swap_13 q_895 ?_
  refine J_nmR fun r_7 => ?_
  refine J_iload_n C 2 dX11_swap_16 rfl ?_
  refine J_bind fun i_8 e_9 => ?_
  subst e_9
  refine J_g fun h_10 => ?_
  refine J_iald (t := 117) (N := 24) C (Nat.le_of_ble_eq_true rfl) rfl rfl h_10 dX11_swap_17 ?_
  refine J_bind fun i_11 e_12 => ?_
  subst e_12
  refine J_g fun h_13 => ?_
  refine J_iast (t := 117) (N := 24) C (Nat.le_of_ble_eq_true rfl) rfl rfl h_13 dX11_swap_18 fun s_14 => ?_
  refine J_aload_n C 0 dX11_swap_19 rfl ?_
  refine gf_64_51 C dX11_swap_20 q_895 ?_
  refine J_nmR fun r_15 => ?_
  refine J_iload_n C 2 dX11_swap_23 rfl ?_
  refine J_iload_n C 3 dX11_swap_24 rfl ?_
  refine J_bind fun i_16 e_17 => ?_
  subst e_17
  refine J_g fun h_18 => ?_
  refine J_iast (t := 117) (N := 24) C (Nat.le_of_ble_eq_true rfl) rfl rfl h_18 dX11_swap_25 fun s_19 => ?_
  exact J_vret C dX11_swap_26 (by decide) (by decide)
def fX11_nextLine_L7 (k34 : zS → Int → Option (Int × zS)) (o0 : Nat) (nf : Nat) : Nat → zS → Int → Option (Int × zS)
  | 0, _, _ => none
  | n + 1, s0, x1 =>
    if x1 < 0 then (k34 s0 x1) else (nm_ (gR s0 64 o0 51) fun (r_2 : Option Nat) => Option.bind r_2 fun i_3 => g_ ((0 : Int) ≤ x1 ∧ (x1 : Int) < 24) (nm_ (gR s0 64 o0 51) fun (r_6 : Option Nat) => Option.bind r_6 fun i_7 => g_ ((0 : Int) ≤ wr (x1 + 1) ∧ (wr (x1 + 1) : Int) < 24) (if gI s0 117 i_7 (Int.toNat (wr (x1 + 1))) < gI s0 117 i_3 (Int.toNat (x1)) then (nm_ (wr (x1 + (-1))) fun (x_10 : Int) => fX11_nextLine_L7 k34 o0 nf n s0 x_10) else (k34 s0 x1))))
def fX11_nextLine_L47 (k68 : zS → Int → Option (Int × zS)) (o0 : Nat) (c1 : Int) (nf : Nat) : Nat → zS → Int → Option (Int × zS)
  | 0, _, _ => none
  | n + 1, s0, x2 =>
    nm_ (gR s0 64 o0 51) fun (r_5 : Option Nat) => Option.bind r_5 fun i_6 => g_ ((0 : Int) ≤ x2 ∧ (x2 : Int) < 24) (nm_ (gR s0 64 o0 51) fun (r_9 : Option Nat) => Option.bind r_9 fun i_10 => g_ ((0 : Int) ≤ c1 ∧ (c1 : Int) < 24) (if gI s0 117 i_6 (Int.toNat (x2)) < gI s0 117 i_10 (Int.toNat (c1)) then (nm_ (wr (x2 + (-1))) fun (x_13 : Int) => fX11_nextLine_L47 k68 o0 c1 nf n s0 x_13) else (k68 s0 x2)))
def fX11_nextLine_L86 (o0 : Nat) (nf : Nat) : Nat → zS → Int → Int → Option (Int × zS)
  | 0, _, _, _ => none
  | n + 1, s0, x3, x4 =>
    if x3 < x4 then (cl_ (fX11_swap s0 o0 x3 x4) fun (_ : Unit) (s_10 : zS) => nm_ (wr (x3 + 1)) fun (x_11 : Int) => nm_ (wr (x4 + (-1))) fun (x_12 : Int) => fX11_nextLine_L86 o0 nf n s_10 x_11 x_12) else (some (1, s0))
def fX11_nextLine (nf : Nat) (s0 : zS) (i0 : Nat) : Option (Int × zS) :=
  nm_ (wr ((gI s0 64 i0 52) - 2)) fun (x_1 : Int) => fX11_nextLine_L7 (fun (s_3 : zS) (y_2 : Int) => if y_2 < 0 then (some (0, s_3)) else (nm_ (wr ((gI s_3 64 i0 52) - 1)) fun (x_4 : Int) => fX11_nextLine_L47 (fun (s_6 : zS) (y_5 : Int) => cl_ (fX11_swap s_6 i0 y_2 y_5) fun (_ : Unit) (s_7 : zS) => nm_ (wr (y_2 + 1)) fun (x_8 : Int) => nm_ (wr ((gI s_7 64 i0 52) - 1)) fun (x_9 : Int) => fX11_nextLine_L86 i0 nf nf s_7 x_8 x_9) i0 y_2 nf nf s_3 x_4)) i0 nf nf s0 x_1
set_option maxHeartbeats 4000000 in
set_option maxRecDepth 20000 in
theorem kX11_nextLine_L7 {K : zKx} (C : zC zw 5 K RX11 cX11_nextLine "nextLine" (some .boolean) 1 23 0 0)  (nf : Nat) (o0 : Nat) (k34 : zS → Int → Option (Int × zS)) (hk34 : ∀ (s1 : zS) (z1 : Int), zJ zw 5 K (zQm zw eI 0 0 K) 0 0 34 [(0, .inr (64, some o0)), (1, .inl z1)] [] s1 (k34 s1 z1)) : ∀ (n : Nat) (s0 : zS) (x1 : Int), zJ zw 5 K (zQm zw eI 0 0 K) 0 0 7 [(0, .inr (64, some o0)), (1, .inl x1)] [] s0 (fX11_nextLine_L7 k34 o0 nf n s0 x1) := by
  intro n
  induction n with
  | zero => intro s0 x1; exact J_none
  | succ n ih =>
    intro s0 x1
    rw [fX11_nextLine_L7]
    refine J_iload_n C 1 dX11_nextLine_7 rfl ?_
    refine J_if_lt C 34 dX11_nextLine_8 rfl (fun _ => ?_) (fun _ => ?_)
    · exact hk34 _ _
    · refine J_aload_n C 0 dX11_nextLine_11 rfl ?_
      refine gf_64_51 C dX11_nextLine_12 q_895 ?_
      refine J_nmR fun r_2 => ?_
      refine J_iload_n C 1 dX11_nextLine_15 rfl ?_
      refine J_bind fun i_3 e_4 => ?_
      subst e_4
      refine J_g fun h_5 => ?_
      refine J_iald (t := 117) (N := 24) C (Nat.le_of_ble_eq_true rfl) rfl rfl h_5 dX11_nextLine_16 ?_
      refine J_aload_n C 0 dX11_nextLine_17 rfl ?_
      refine gf_64_51 C dX11_nextLine_18 q_895 ?_
      refine J_nmR fun r_6 => ?_
      refine J_iload_n C 1 dX11_nextLine_21 rfl ?_
      refine J_iconst C dX11_nextLine_22 (zi9 rfl rfl) ?_
      refine J_iadd C dX11_nextLine_23 ?_
      refine J_bind fun i_7 e_8 => ?_
      subst e_8
      refine J_g fun h_9 => ?_
      refine J_iald (t := 117) (N := 24) C (Nat.le_of_ble_eq_true rfl) rfl rfl h_9 dX11_nextLine_24 ?_
      refine J_ic_le C 34 dX11_nextLine_25 rfl (fun _ => ?_) (fun _ => ?_)
      · exact hk34 _ _
      · refine J_iinc C 1 dX11_nextLine_28 (zi9 rfl rfl) (Nat.le_of_ble_eq_true rfl) rfl fun x_10 => ?_
        refine J_goto C 7 dX11_nextLine_31 rfl ?_
        exact ih _ _
set_option maxHeartbeats 4000000 in
set_option maxRecDepth 20000 in
theorem kX11_nextLine_L47 {K : zKx} (C : zC zw 5 K RX11 cX11_nextLine "nextLine" (some .boolean) 1 23 0 0)  (nf : Nat) (o0 : Nat) (c1 : Int) (k68 : zS → Int → Option (Int × zS)) (hk68 : ∀ (s1 : zS) (z2 : Int), zJ zw 5 K (zQm zw eI 0 0 K) 0 0 68 [(0, .inr (64, some o0)), (1, .inl c1), (2, .inl z2)] [] s1 (k68 s1 z2)) : ∀ (n : Nat) (s0 : zS) (x2 : Int), zJ zw 5 K (zQm zw eI 0 0 K) 0 0 47 [(0, .inr (64, some o0)), (1, .inl c1), (2, .inl x2)] [] s0 (fX11_nextLine_L47 k68 o0 c1 nf n s0 x2) := by
  intro n
  induction n with
  | zero => intro s0 x2; exact J_none
  | succ n ih =>
    intro s0 x2
    rw [fX11_nextLine_L47]
    refine J_aload_n C 0 dX11_nextLine_47 rfl ?_
    refine gf_64_51 C dX11_nextLine_48 q_895 ?_
    refine J_nmR fun r_5 => ?_
    refine J_iload_n C 2 dX11_nextLine_51 rfl ?_
    refine J_bind fun i_6 e_7 => ?_
    subst e_7
    refine J_g fun h_8 => ?_
    refine J_iald (t := 117) (N := 24) C (Nat.le_of_ble_eq_true rfl) rfl rfl h_8 dX11_nextLine_52 ?_
    refine J_aload_n C 0 dX11_nextLine_53 rfl ?_
    refine gf_64_51 C dX11_nextLine_54 q_895 ?_
    refine J_nmR fun r_9 => ?_
    refine J_iload_n C 1 dX11_nextLine_57 rfl ?_
    refine J_bind fun i_10 e_11 => ?_
    subst e_11
    refine J_g fun h_12 => ?_
    refine J_iald (t := 117) (N := 24) C (Nat.le_of_ble_eq_true rfl) rfl rfl h_12 dX11_nextLine_58 ?_
    refine J_ic_ge C 68 dX11_nextLine_59 rfl (fun _ => ?_) (fun _ => ?_)
    · exact hk68 _ _
    · refine J_iinc C 2 dX11_nextLine_62 (zi9 rfl rfl) (Nat.le_of_ble_eq_true rfl) rfl fun x_13 => ?_
      refine J_goto C 47 dX11_nextLine_65 rfl ?_
      exact ih _ _
set_option maxHeartbeats 4000000 in
set_option maxRecDepth 20000 in
theorem kX11_nextLine_L86 {K : zKx} (C : zC zw 5 K RX11 cX11_nextLine "nextLine" (some .boolean) 1 23 0 0)  (nf : Nat) (o0 : Nat) : ∀ (n : Nat) (s0 : zS) (x3 : Int) (x4 : Int), zJ zw 5 K (zQm zw eI 0 0 K) 0 0 86 [(0, .inr (64, some o0)), (3, .inl x3), (4, .inl x4)] [] s0 (fX11_nextLine_L86 o0 nf n s0 x3 x4) := by
  intro n
  induction n with
  | zero => intro s0 x3 x4; exact J_none
  | succ n ih =>
    intro s0 x3 x4
    rw [fX11_nextLine_L86]
    refine J_iload_n C 1 dX11_nextLine_86 rfl ?_
    refine J_iload C 2 dX11_nextLine_87 rfl ?_
    refine J_ic_ge C 108 dX11_nextLine_89 rfl (fun _ => ?_) (fun _ => ?_)
    · refine J_iconst C dX11_nextLine_108 (zi9 rfl rfl) ?_
      exact J_zret C (by decide) dX11_nextLine_109 (by decide) (by decide)
    · refine J_aload_n C 0 dX11_nextLine_92 rfl ?_
      refine J_iload_n C 1 dX11_nextLine_93 rfl ?_
      refine J_iload C 2 dX11_nextLine_94 rfl ?_
      refine J_callVV (S := []) (avs := [.inl x3, .inl x4]) C zx64 yw_124 rfl (kX11_swap _ _ _ _) dX11_nextLine_96 rfl (Nat.le_of_ble_eq_true rfl) (by decide) fun _ s_10 => ?_
      refine J_iinc C 1 dX11_nextLine_99 (zi9 rfl rfl) (Nat.le_of_ble_eq_true rfl) rfl fun x_11 => ?_
      refine J_iinc C 2 dX11_nextLine_102 (zi9 rfl rfl) (Nat.le_of_ble_eq_true rfl) rfl fun x_12 => ?_
      refine J_goto C 86 dX11_nextLine_105 rfl ?_
      exact ih _ _ _
set_option maxHeartbeats 4000000 in
set_option maxRecDepth 20000 in
theorem kX11_nextLine (nf : Nat) (s0 : zS) (i0 : Nat) : zCt zw yX11_nextLine cX11_nextLine 5 (some .boolean) 1 23 0 0 eI [.inr (64, some i0)] s0 (fX11_nextLine nf s0 i0) := by
  refine zCt_on (own := RX11) (nm := "nextLine") rfl rfl (by decide) (Nat.le_of_ble_eq_true rfl) fun K C => ?_
  show zJ zw 5 K _ 0 0 0 [(0, .inr (64, some i0))] [] s0 (fX11_nextLine nf s0 i0)
  unfold fX11_nextLine
  refine J_aload_n C 0 dX11_nextLine_0 rfl ?_
  refine gf_64_52 C dX11_nextLine_1 q_896 ?_
  refine J_iconst C dX11_nextLine_4 (zi9 rfl rfl) ?_
  refine J_isub C dX11_nextLine_5 ?_
  refine J_nm fun x_1 => ?_
  refine J_istore_n (L' := [(0, .inr (64, some i0)), (1, .inl x_1)]) C dX11_nextLine_6 (Nat.le_of_ble_eq_true rfl) rfl ?_
  refine kX11_nextLine_L7 C _ _ _ ?_ _ _ _
  intro s_3 y_2
  refine J_iload_n C 1 dX11_nextLine_34 rfl ?_
  refine J_if_ge C 40 dX11_nextLine_35 rfl (fun _ => ?_) (fun _ => ?_)
  · refine J_aload_n C 0 dX11_nextLine_40 rfl ?_
    refine gf_64_52 C dX11_nextLine_41 q_896 ?_
    refine J_iconst C dX11_nextLine_44 (zi9 rfl rfl) ?_
    refine J_isub C dX11_nextLine_45 ?_
    refine J_nm fun x_4 => ?_
    refine J_istore_n (L' := [(0, .inr (64, some i0)), (1, .inl y_2), (2, .inl x_4)]) C dX11_nextLine_46 (Nat.le_of_ble_eq_true rfl) rfl ?_
    refine kX11_nextLine_L47 C _ _ _ _ ?_ _ _ _
    intro s_6 y_5
    refine J_aload_n C 0 dX11_nextLine_68 rfl ?_
    refine J_iload_n C 1 dX11_nextLine_69 rfl ?_
    refine J_iload_n C 2 dX11_nextLine_70 rfl ?_
    refine J_callVV (S := []) (avs := [.inl y_2, .inl y_5]) C zx64 yw_124 rfl (kX11_swap _ _ _ _) dX11_nextLine_71 rfl (Nat.le_of_ble_eq_true rfl) (by decide) fun _ s_7 => ?_
    refine J_iload_n C 1 dX11_nextLine_74 rfl ?_
    refine J_iconst C dX11_nextLine_75 (zi9 rfl rfl) ?_
    refine J_iadd C dX11_nextLine_76 ?_
    refine J_nm fun x_8 => ?_
    refine J_istore_n (L' := [(0, .inr (64, some i0)), (1, .inl y_2), (2, .inl y_5), (3, .inl x_8)]) C dX11_nextLine_77 (Nat.le_of_ble_eq_true rfl) rfl ?_
    refine J_aload_n C 0 dX11_nextLine_78 rfl ?_
    refine gf_64_52 C dX11_nextLine_79 q_896 ?_
    refine J_iconst C dX11_nextLine_82 (zi9 rfl rfl) ?_
    refine J_isub C dX11_nextLine_83 ?_
    refine J_nm fun x_9 => ?_
    refine J_istore (L' := [(0, .inr (64, some i0)), (1, .inl y_2), (2, .inl y_5), (3, .inl x_8), (4, .inl x_9)]) C dX11_nextLine_84 (Nat.le_of_ble_eq_true rfl) rfl ?_
    refine J_loc (L' := [(0, .inr (64, some i0)), (3, .inl x_8), (4, .inl x_9)]) [0, 3, 4] rfl ?_
    exact kX11_nextLine_L86 C _ _ _ _ _ _
  · refine J_iconst C dX11_nextLine_38 (zi9 rfl rfl) ?_
    exact J_zret C (by decide) dX11_nextLine_39 (by decide) (by decide)
def fX11_mayOrder (nf : Nat) (s0 : zS) (i0 : Nat) : Option (Int × zS) :=
  cl_ (fX11_layRow nf s0 i0 0) fun (_ : Unit) (s_1 : zS) => if gI s_1 64 i0 52 = 0 then (some ((-9), s_1)) else (if gI s_1 64 i0 34 = 0 then (some ((-9), s_1)) else (if 6 < gI s_1 64 i0 52 then (some ((-3), s_1)) else (some (0, s_1))))
set_option maxHeartbeats 4000000 in
set_option maxRecDepth 20000 in
theorem kX11_mayOrder (nf : Nat) (s0 : zS) (i0 : Nat) : zCt zw yX11_mayOrder cX11_mayOrder 1 (some .int) 3 68 0 0 eI [.inr (64, some i0)] s0 (fX11_mayOrder nf s0 i0) := by
  refine zCt_on (own := RX11) (nm := "mayOrder") rfl rfl (by decide) (Nat.le_of_ble_eq_true rfl) fun K C => ?_
  show zJ zw 1 K _ 0 0 0 [(0, .inr (64, some i0))] [] s0 (fX11_mayOrder nf s0 i0)
  unfold fX11_mayOrder
  refine J_aload_n C 0 dX11_mayOrder_0 rfl ?_
  refine J_iconst C dX11_mayOrder_1 (zi9 rfl rfl) ?_
  refine J_callVV (S := []) (avs := [.inl 0]) C zx64 yw_109 rfl (kX11_layRow _ _ _ _) dX11_mayOrder_2 rfl (Nat.le_of_ble_eq_true rfl) (by decide) fun _ s_1 => ?_
  refine J_aload_n C 0 dX11_mayOrder_5 rfl ?_
  refine gf_64_52 C dX11_mayOrder_6 q_896 ?_
  refine J_if_eq C 19 dX11_mayOrder_9 rfl (fun _ => ?_) (fun _ => ?_)
  · refine J_bipush C dX11_mayOrder_19 (zi9 rfl rfl) (by decide) ?_
    refine J_goto C 39 dX11_mayOrder_21 rfl ?_
    exact J_iret C dX11_mayOrder_39 (by decide) (by decide)
  · refine J_aload_n C 0 dX11_mayOrder_12 rfl ?_
    refine gf_64_34 C dX11_mayOrder_13 q_878 ?_
    refine J_if_ne C 24 dX11_mayOrder_16 rfl (fun _ => ?_) (fun _ => ?_)
    · refine J_aload_n C 0 dX11_mayOrder_24 rfl ?_
      refine gf_64_52 C dX11_mayOrder_25 q_896 ?_
      refine J_bipush C dX11_mayOrder_28 (zi9 rfl rfl) (by decide) ?_
      refine J_ic_le C 38 dX11_mayOrder_30 rfl (fun _ => ?_) (fun _ => ?_)
      · refine J_iconst C dX11_mayOrder_38 (zi9 rfl rfl) ?_
        exact J_iret C dX11_mayOrder_39 (by decide) (by decide)
      · refine J_bipush C dX11_mayOrder_33 (zi9 rfl rfl) (by decide) ?_
        refine J_goto C 39 dX11_mayOrder_35 rfl ?_
        exact J_iret C dX11_mayOrder_39 (by decide) (by decide)
    · refine J_bipush C dX11_mayOrder_19 (zi9 rfl rfl) (by decide) ?_
      refine J_goto C 39 dX11_mayOrder_21 rfl ?_
      exact J_iret C dX11_mayOrder_39 (by decide) (by decide)
def fX11_layBest_L7 (k51 : zS → Option (Unit × zS)) (o0 : Nat) (nf : Nat) : Nat → zS → Int → Option (Unit × zS)
  | 0, _, _ => none
  | n + 1, s0, x1 =>
    if x1 < gI s0 64 o0 14 then (nm_ (gR s0 64 o0 16) fun (r_2 : Option Nat) => Option.bind r_2 fun i_3 => g_ ((0 : Int) ≤ x1 ∧ (x1 : Int) < 24) (nm_ (fun (s_6 : zS) => nm_ (wr (x1 + 1)) fun (x_7 : Int) => fX11_layBest_L7 k51 o0 nf n s_6 x_7) fun (j45 : zS → Option (Unit × zS)) => if gI s0 82 i_3 (Int.toNat (x1)) = 3 then (nm_ (gR s0 64 o0 51) fun (r_8 : Option Nat) => Option.bind r_8 fun i_9 => g_ ((0 : Int) ≤ gI s0 64 o0 52 ∧ (gI s0 64 o0 52 : Int) < 24) (up_ (sI s0 117 i_9 (Int.toNat (gI s0 64 o0 52)) x1) fun (s_12 : zS) => up_ (sI s_12 64 o0 52 (wr ((gI s_12 64 o0 52) + 1))) fun (s_13 : zS) => j45 s_13)) else (j45 s0))) else (k51 s0)
def fX11_layBest_L120 (k146 : zS → Option (Unit × zS)) (o0 : Nat) (c1 : Int) (nf : Nat) : Nat → zS → Int → Option (Unit × zS)
  | 0, _, _ => none
  | n + 1, s0, x3 =>
    if x3 < gI s0 64 o0 52 then (nm_ (gR s0 64 o0 56) fun (r_12 : Option Nat) => nm_ (gR s0 64 o0 51) fun (r_13 : Option Nat) => Option.bind r_13 fun i_14 => g_ ((0 : Int) ≤ x3 ∧ (x3 : Int) < 24) (Option.bind r_12 fun i_17 => g_ ((0 : Int) ≤ x3 ∧ (x3 : Int) < 6) (up_ (sI s0 122 i_17 (Int.toNat (x3)) (gI s0 117 i_14 (Int.toNat (x3)))) fun (s_20 : zS) => nm_ (wr (x3 + 1)) fun (x_21 : Int) => fX11_layBest_L120 k146 o0 c1 nf n s_20 x_21))) else (k146 s0)
def fX11_layBest_L60 (o0 : Nat) (nf : Nat) : Nat → zS → Int → Int → Option (Unit × zS)
  | 0, _, _, _ => none
  | n + 1, s0, x1, x2 =>
    if x2 = 0 then (some ((), s0)) else (cl_ (fX11_measure nf s0 o0) fun (_ : Unit) (s_4 : zS) => nm_ (fun (s_5 : zS) (y_6 : Int) => cl_ (fX11_nextLine nf s_5 o0) fun (x_8 : Int) (s_7 : zS) => fX11_layBest_L60 o0 nf n s_7 y_6 x_8) fun (j146 : zS → Int → Option (Unit × zS)) => nm_ (fun (s_9 : zS) => up_ (sI s_9 64 o0 57 (gI s_9 64 o0 54)) fun (s_10 : zS) => nm_ (gI s_10 64 o0 55) fun (x_11 : Int) => fX11_layBest_L120 (fun (s_12 : zS) => j146 s_12 x_11) o0 x_11 nf nf s_10 0) fun (j105 : zS → Option (Unit × zS)) => if gI s_4 64 o0 57 < 0 then (j105 s_4) else (if gI s_4 64 o0 54 < gI s_4 64 o0 57 then (j105 s_4) else (if gI s_4 64 o0 54 = gI s_4 64 o0 57 then (if gI s_4 64 o0 55 < x1 then (j105 s_4) else (j146 s_4 x1)) else (j146 s_4 x1))))
def fX11_layBest (nf : Nat) (s0 : zS) (i0 : Nat) : Option (Unit × zS) :=
  up_ (sI s0 64 i0 52 0) fun (s_1 : zS) => fX11_layBest_L7 (fun (s_2 : zS) => up_ (sI s_2 64 i0 57 (-1)) fun (s_3 : zS) => fX11_layBest_L60 i0 nf nf s_3 0 1) i0 nf nf s_1 0
set_option maxHeartbeats 4000000 in
set_option maxRecDepth 20000 in
theorem kX11_layBest_L7 {K : zKx} (C : zC zw 4 K RX11 cX11_layBest "layBest" none 2 47 0 0)  (nf : Nat) (o0 : Nat) (k51 : zS → Option (Unit × zS)) (hk51 : ∀ (s1 : zS), zJ zw 4 K (zQm zw eV 0 0 K) 0 0 51 [(0, .inr (64, some o0))] [] s1 (k51 s1)) : ∀ (n : Nat) (s0 : zS) (x1 : Int), zJ zw 4 K (zQm zw eV 0 0 K) 0 0 7 [(0, .inr (64, some o0)), (1, .inl x1)] [] s0 (fX11_layBest_L7 k51 o0 nf n s0 x1) := by
  intro n
  induction n with
  | zero => intro s0 x1; exact J_none
  | succ n ih =>
    intro s0 x1
    rw [fX11_layBest_L7]
    refine J_iload_n C 1 dX11_layBest_7 rfl ?_
    refine J_aload_n C 0 dX11_layBest_8 rfl ?_
    refine gf_64_14 C dX11_layBest_9 q_858 ?_
    refine J_ic_ge C 51 dX11_layBest_12 rfl (fun _ => ?_) (fun _ => ?_)
    · refine J_loc (L' := [(0, .inr (64, some o0))]) [0] rfl ?_
      exact hk51 _
    · refine J_aload_n C 0 dX11_layBest_15 rfl ?_
      refine gf_64_16 C dX11_layBest_16 q_860 ?_
      refine J_nmR fun r_2 => ?_
      refine J_iload_n C 1 dX11_layBest_19 rfl ?_
      refine J_bind fun i_3 e_4 => ?_
      subst e_4
      refine J_g fun h_5 => ?_
      refine J_iald (t := 82) (N := 24) C (Nat.le_of_ble_eq_true rfl) rfl rfl h_5 dX11_layBest_20 ?_
      refine J_iconst C dX11_layBest_21 (zi9 rfl rfl) ?_
      refine J_join (fun j45 => ∀ (s_6 : zS), zJ zw 4 K (zQm zw eV 0 0 K) 0 0 45 [(0, .inr (64, some o0)), (1, .inl x1)] [] s_6 (j45 s_6)) ?_ fun j45 hj45 => ?_
      · intro s_6
        refine J_iinc C 1 dX11_layBest_45 (zi9 rfl rfl) (Nat.le_of_ble_eq_true rfl) rfl fun x_7 => ?_
        refine J_goto C 7 dX11_layBest_48 rfl ?_
        exact ih _ _
      · refine J_ic_ne C 45 dX11_layBest_22 rfl (fun _ => ?_) (fun _ => ?_)
        · exact hj45 _
        · refine J_aload_n C 0 dX11_layBest_25 rfl ?_
          refine gf_64_51 C dX11_layBest_26 q_895 ?_
          refine J_nmR fun r_8 => ?_
          refine J_aload_n C 0 dX11_layBest_29 rfl ?_
          refine gf_64_52 C dX11_layBest_30 q_896 ?_
          refine J_iload_n C 1 dX11_layBest_33 rfl ?_
          refine J_bind fun i_9 e_10 => ?_
          subst e_10
          refine J_g fun h_11 => ?_
          refine J_iast (t := 117) (N := 24) C (Nat.le_of_ble_eq_true rfl) rfl rfl h_11 dX11_layBest_34 fun s_12 => ?_
          refine J_aload_n C 0 dX11_layBest_35 rfl ?_
          refine J_dup C dX11_layBest_36 ?_
          refine gf_64_52 C dX11_layBest_37 q_896 ?_
          refine J_iconst C dX11_layBest_40 (zi9 rfl rfl) ?_
          refine J_iadd C dX11_layBest_41 ?_
          refine pf_64_52 C dX11_layBest_42 q_896 fun s_13 => ?_
          exact hj45 _
set_option maxHeartbeats 4000000 in
set_option maxRecDepth 20000 in
theorem kX11_layBest_L120 {K : zKx} (C : zC zw 4 K RX11 cX11_layBest "layBest" none 2 47 0 0)  (nf : Nat) (o0 : Nat) (c1 : Int) (k146 : zS → Option (Unit × zS)) (hk146 : ∀ (s1 : zS), zJ zw 4 K (zQm zw eV 0 0 K) 0 0 146 [(0, .inr (64, some o0)), (1, .inl c1)] [] s1 (k146 s1)) : ∀ (n : Nat) (s0 : zS) (x3 : Int), zJ zw 4 K (zQm zw eV 0 0 K) 0 0 120 [(0, .inr (64, some o0)), (1, .inl c1), (3, .inl x3)] [] s0 (fX11_layBest_L120 k146 o0 c1 nf n s0 x3) := by
  intro n
  induction n with
  | zero => intro s0 x3; exact J_none
  | succ n ih =>
    intro s0 x3
    rw [fX11_layBest_L120]
    refine J_iload_n C 2 dX11_layBest_120 rfl ?_
    refine J_aload_n C 0 dX11_layBest_121 rfl ?_
    refine gf_64_52 C dX11_layBest_122 q_896 ?_
    refine J_ic_ge C 146 dX11_layBest_125 rfl (fun _ => ?_) (fun _ => ?_)
    · refine J_loc (L' := [(0, .inr (64, some o0)), (1, .inl c1)]) [0, 1] rfl ?_
      exact hk146 _
    · refine J_aload_n C 0 dX11_layBest_128 rfl ?_
      refine gf_64_56 C dX11_layBest_129 q_900 ?_
      refine J_nmR fun r_12 => ?_
      refine J_iload_n C 2 dX11_layBest_132 rfl ?_
      refine J_aload_n C 0 dX11_layBest_133 rfl ?_
      refine gf_64_51 C dX11_layBest_134 q_895 ?_
      refine J_nmR fun r_13 => ?_
      refine J_iload_n C 2 dX11_layBest_137 rfl ?_
      refine J_bind fun i_14 e_15 => ?_
      subst e_15
      refine J_g fun h_16 => ?_
      refine J_iald (t := 117) (N := 24) C (Nat.le_of_ble_eq_true rfl) rfl rfl h_16 dX11_layBest_138 ?_
      refine J_bind fun i_17 e_18 => ?_
      subst e_18
      refine J_g fun h_19 => ?_
      refine J_iast (t := 122) (N := 6) C (Nat.le_of_ble_eq_true rfl) rfl rfl h_19 dX11_layBest_139 fun s_20 => ?_
      refine J_iinc C 2 dX11_layBest_140 (zi9 rfl rfl) (Nat.le_of_ble_eq_true rfl) rfl fun x_21 => ?_
      refine J_goto C 120 dX11_layBest_143 rfl ?_
      exact ih _ _
set_option maxHeartbeats 4000000 in
set_option maxRecDepth 20000 in
theorem kX11_layBest_L60 {K : zKx} (C : zC zw 4 K RX11 cX11_layBest "layBest" none 2 47 0 0)  (nf : Nat) (o0 : Nat) : ∀ (n : Nat) (s0 : zS) (x1 : Int) (x2 : Int), zJ zw 4 K (zQm zw eV 0 0 K) 0 0 60 [(0, .inr (64, some o0)), (1, .inl x1), (2, .inl x2)] [] s0 (fX11_layBest_L60 o0 nf n s0 x1 x2) := by
  intro n
  induction n with
  | zero => intro s0 x1 x2; exact J_none
  | succ n ih =>
    intro s0 x1 x2
    rw [fX11_layBest_L60]
    refine J_iload_n C 2 dX11_layBest_60 rfl ?_
    refine J_if_eq C 154 dX11_layBest_61 rfl (fun _ => ?_) (fun _ => ?_)
    · exact J_vret C dX11_layBest_154 (by decide) (by decide)
    · refine J_aload_n C 0 dX11_layBest_64 rfl ?_
      refine J_callVV (S := []) (avs := []) C zx64 yw_126 rfl (kX11_measure _ _ _) dX11_layBest_65 rfl (Nat.le_of_ble_eq_true rfl) (by decide) fun _ s_4 => ?_
      refine J_aload_n C 0 dX11_layBest_68 rfl ?_
      refine gf_64_57 C dX11_layBest_69 q_901 ?_
      refine J_join (fun j146 => ∀ (s_5 : zS) (y_6 : Int), zJ zw 4 K (zQm zw eV 0 0 K) 0 0 146 [(0, .inr (64, some o0)), (1, .inl y_6)] [] s_5 (j146 s_5 y_6)) ?_ fun j146 hj146 => ?_
      · intro s_5 y_6
        refine J_aload_n C 0 dX11_layBest_146 rfl ?_
        refine J_callVI (S := []) (avs := []) C zx64 yw_125 rfl (kX11_nextLine _ _ _) dX11_layBest_147 rfl (Nat.le_of_ble_eq_true rfl) (by decide) fun x_8 s_7 => ?_
        refine J_istore_n (L' := [(0, .inr (64, some o0)), (1, .inl y_6), (2, .inl x_8)]) C dX11_layBest_150 (Nat.le_of_ble_eq_true rfl) rfl ?_
        refine J_goto C 60 dX11_layBest_151 rfl ?_
        exact ih _ _ _
      · refine J_join (fun j105 => ∀ (s_9 : zS), zJ zw 4 K (zQm zw eV 0 0 K) 0 0 105 [(0, .inr (64, some o0))] [] s_9 (j105 s_9)) ?_ fun j105 hj105 => ?_
        · intro s_9
          refine J_aload_n C 0 dX11_layBest_105 rfl ?_
          refine J_aload_n C 0 dX11_layBest_106 rfl ?_
          refine gf_64_54 C dX11_layBest_107 q_898 ?_
          refine pf_64_57 C dX11_layBest_110 q_901 fun s_10 => ?_
          refine J_aload_n C 0 dX11_layBest_113 rfl ?_
          refine gf_64_55 C dX11_layBest_114 q_899 ?_
          refine J_nm fun x_11 => ?_
          refine J_istore_n (L' := [(0, .inr (64, some o0)), (1, .inl x_11)]) C dX11_layBest_117 (Nat.le_of_ble_eq_true rfl) rfl ?_
          refine J_iconst C dX11_layBest_118 (zi9 rfl rfl) ?_
          refine J_istore_n (L' := [(0, .inr (64, some o0)), (1, .inl x_11), (3, .inl 0)]) C dX11_layBest_119 (Nat.le_of_ble_eq_true rfl) rfl ?_
          refine kX11_layBest_L120 C _ _ _ _ ?_ _ _ _
          intro s_12
          exact hj146 _ _
        · refine J_if_lt C 105 dX11_layBest_72 rfl (fun _ => ?_) (fun _ => ?_)
          · refine J_loc (L' := [(0, .inr (64, some o0))]) [0] rfl ?_
            exact hj105 _
          · refine J_aload_n C 0 dX11_layBest_75 rfl ?_
            refine gf_64_54 C dX11_layBest_76 q_898 ?_
            refine J_aload_n C 0 dX11_layBest_79 rfl ?_
            refine gf_64_57 C dX11_layBest_80 q_901 ?_
            refine J_ic_lt C 105 dX11_layBest_83 rfl (fun _ => ?_) (fun _ => ?_)
            · refine J_loc (L' := [(0, .inr (64, some o0))]) [0] rfl ?_
              exact hj105 _
            · refine J_aload_n C 0 dX11_layBest_86 rfl ?_
              refine gf_64_54 C dX11_layBest_87 q_898 ?_
              refine J_aload_n C 0 dX11_layBest_90 rfl ?_
              refine gf_64_57 C dX11_layBest_91 q_901 ?_
              refine J_ic_ne C 146 dX11_layBest_94 rfl (fun _ => ?_) (fun _ => ?_)
              · refine J_loc (L' := [(0, .inr (64, some o0)), (1, .inl x1)]) [0, 1] rfl ?_
                exact hj146 _ _
              · refine J_aload_n C 0 dX11_layBest_97 rfl ?_
                refine gf_64_55 C dX11_layBest_98 q_899 ?_
                refine J_iload_n C 1 dX11_layBest_101 rfl ?_
                refine J_ic_ge C 146 dX11_layBest_102 rfl (fun _ => ?_) (fun _ => ?_)
                · refine J_loc (L' := [(0, .inr (64, some o0)), (1, .inl x1)]) [0, 1] rfl ?_
                  exact hj146 _ _
                · refine J_loc (L' := [(0, .inr (64, some o0))]) [0] rfl ?_
                  exact hj105 _
set_option maxHeartbeats 4000000 in
set_option maxRecDepth 20000 in
theorem kX11_layBest (nf : Nat) (s0 : zS) (i0 : Nat) : zCt zw yX11_layBest cX11_layBest 4 none 2 47 0 0 eV [.inr (64, some i0)] s0 (fX11_layBest nf s0 i0) := by
  refine zCt_on (own := RX11) (nm := "layBest") rfl rfl (by decide) (Nat.le_of_ble_eq_true rfl) fun K C => ?_
  show zJ zw 4 K _ 0 0 0 [(0, .inr (64, some i0))] [] s0 (fX11_layBest nf s0 i0)
  unfold fX11_layBest
  refine J_aload_n C 0 dX11_layBest_0 rfl ?_
  refine J_iconst C dX11_layBest_1 (zi9 rfl rfl) ?_
  refine pf_64_52 C dX11_layBest_2 q_896 fun s_1 => ?_
  refine J_iconst C dX11_layBest_5 (zi9 rfl rfl) ?_
  refine J_istore_n (L' := [(0, .inr (64, some i0)), (1, .inl 0)]) C dX11_layBest_6 (Nat.le_of_ble_eq_true rfl) rfl ?_
  refine kX11_layBest_L7 C _ _ _ ?_ _ _ _
  intro s_2
  refine J_aload_n C 0 dX11_layBest_51 rfl ?_
  refine J_iconst C dX11_layBest_52 (zi9 rfl rfl) ?_
  refine pf_64_57 C dX11_layBest_53 q_901 fun s_3 => ?_
  refine J_iconst C dX11_layBest_56 (zi9 rfl rfl) ?_
  refine J_istore_n (L' := [(0, .inr (64, some i0)), (1, .inl 0)]) C dX11_layBest_57 (Nat.le_of_ble_eq_true rfl) rfl ?_
  refine J_iconst C dX11_layBest_58 (zi9 rfl rfl) ?_
  refine J_istore_n (L' := [(0, .inr (64, some i0)), (1, .inl 0), (2, .inl 1)]) C dX11_layBest_59 (Nat.le_of_ble_eq_true rfl) rfl ?_
  exact kX11_layBest_L60 C _ _ _ _ _ _
def fX11_worst (nf : Nat) (s0 : zS) (i0 : Nat) : Option (Int × zS) :=
  cl_ (fX11_mayOrder nf s0 i0) fun (x_2 : Int) (s_1 : zS) => if x_2 < 0 then (some (x_2, s_1)) else (cl_ (fX11_layBest nf s_1 i0) fun (_ : Unit) (s_3 : zS) => some (gI s_3 64 i0 57, s_3))
set_option maxHeartbeats 4000000 in
set_option maxRecDepth 20000 in
theorem kX11_worst (nf : Nat) (s0 : zS) (i0 : Nat) : zCt zw yX11_worst cX11_worst 2 (some .int) 4 88 0 0 eI [.inr (64, some i0)] s0 (fX11_worst nf s0 i0) := by
  refine zCt_on (own := RX11) (nm := "worst") rfl rfl (by decide) (Nat.le_of_ble_eq_true rfl) fun K C => ?_
  show zJ zw 2 K _ 0 0 0 [(0, .inr (64, some i0))] [] s0 (fX11_worst nf s0 i0)
  unfold fX11_worst
  refine J_aload_n C 0 dX11_worst_0 rfl ?_
  refine J_callVI (S := []) (avs := []) C zx64 yw_128 rfl (kX11_mayOrder _ _ _) dX11_worst_1 rfl (Nat.le_of_ble_eq_true rfl) (by decide) fun x_2 s_1 => ?_
  refine J_istore_n (L' := [(0, .inr (64, some i0)), (1, .inl x_2)]) C dX11_worst_4 (Nat.le_of_ble_eq_true rfl) rfl ?_
  refine J_iload_n C 1 dX11_worst_5 rfl ?_
  refine J_if_ge C 11 dX11_worst_6 rfl (fun _ => ?_) (fun _ => ?_)
  · refine J_aload_n C 0 dX11_worst_11 rfl ?_
    refine J_callVV (S := []) (avs := []) C zx64 yw_127 rfl (kX11_layBest _ _ _) dX11_worst_12 rfl (Nat.le_of_ble_eq_true rfl) (by decide) fun _ s_3 => ?_
    refine J_aload_n C 0 dX11_worst_15 rfl ?_
    refine gf_64_57 C dX11_worst_16 q_901 ?_
    exact J_iret C dX11_worst_19 (by decide) (by decide)
  · refine J_iload_n C 1 dX11_worst_9 rfl ?_
    exact J_iret C dX11_worst_10 (by decide) (by decide)
def fX11_best (nf : Nat) (s0 : zS) (i0 : Nat) (x1 : Int) : Option (Int × zS) :=
  cl_ (fX11_mayOrder nf s0 i0) fun (x_2 : Int) (s_1 : zS) => if x_2 < 0 then (some (x_2, s_1)) else (cl_ (fX11_layBest nf s_1 i0) fun (_ : Unit) (s_3 : zS) => cl_ (fX11_in s_3 x1 0 (wr ((gI s_3 64 i0 52) - 1))) fun (x_5 : Int) (s_4 : zS) => if x_5 = 0 then (some ((-9), s_4)) else (nm_ (gR s_4 64 i0 56) fun (r_6 : Option Nat) => Option.bind r_6 fun i_7 => g_ ((0 : Int) ≤ x1 ∧ (x1 : Int) < 6) (some (gI s_4 122 i_7 (Int.toNat (x1)), s_4))))
set_option maxHeartbeats 4000000 in
set_option maxRecDepth 20000 in
theorem kX11_best (nf : Nat) (s0 : zS) (i0 : Nat) (x1 : Int) : zCt zw yX11_best cX11_best 3 (some .int) 4 88 0 0 eI [.inr (64, some i0), .inl x1] s0 (fX11_best nf s0 i0 x1) := by
  refine zCt_on (own := RX11) (nm := "best") rfl rfl (by decide) (Nat.le_of_ble_eq_true rfl) fun K C => ?_
  show zJ zw 3 K _ 0 0 0 [(0, .inr (64, some i0)), (1, .inl x1)] [] s0 (fX11_best nf s0 i0 x1)
  unfold fX11_best
  refine J_aload_n C 0 dX11_best_0 rfl ?_
  refine J_callVI (S := []) (avs := []) C zx64 yw_128 rfl (kX11_mayOrder _ _ _) dX11_best_1 rfl (Nat.le_of_ble_eq_true rfl) (by decide) fun x_2 s_1 => ?_
  refine J_istore_n (L' := [(0, .inr (64, some i0)), (1, .inl x1), (2, .inl x_2)]) C dX11_best_4 (Nat.le_of_ble_eq_true rfl) rfl ?_
  refine J_iload_n C 2 dX11_best_5 rfl ?_
  refine J_if_ge C 11 dX11_best_6 rfl (fun _ => ?_) (fun _ => ?_)
  · refine J_aload_n C 0 dX11_best_11 rfl ?_
    refine J_callVV (S := []) (avs := []) C zx64 yw_127 rfl (kX11_layBest _ _ _) dX11_best_12 rfl (Nat.le_of_ble_eq_true rfl) (by decide) fun _ s_3 => ?_
    refine J_iload_n C 1 dX11_best_15 rfl ?_
    refine J_iconst C dX11_best_16 (zi9 rfl rfl) ?_
    refine J_aload_n C 0 dX11_best_17 rfl ?_
    refine gf_64_52 C dX11_best_18 q_896 ?_
    refine J_iconst C dX11_best_21 (zi9 rfl rfl) ?_
    refine J_isub C dX11_best_22 ?_
    refine J_callSI (S := []) (avs := [.inl x1, .inl 0, .inl (wr ((gI s_3 64 i0 52) - 1))]) C yw_87 (kX11_in _ _ _ _) dX11_best_23 rfl (Nat.le_of_ble_eq_true rfl) (by decide) fun x_5 s_4 => ?_
    refine J_if_eq C 38 dX11_best_26 rfl (fun _ => ?_) (fun _ => ?_)
    · refine J_bipush C dX11_best_38 (zi9 rfl rfl) (by decide) ?_
      exact J_iret C dX11_best_40 (by decide) (by decide)
    · refine J_aload_n C 0 dX11_best_29 rfl ?_
      refine gf_64_56 C dX11_best_30 q_900 ?_
      refine J_nmR fun r_6 => ?_
      refine J_iload_n C 1 dX11_best_33 rfl ?_
      refine J_bind fun i_7 e_8 => ?_
      subst e_8
      refine J_g fun h_9 => ?_
      refine J_iald (t := 122) (N := 6) C (Nat.le_of_ble_eq_true rfl) rfl rfl h_9 dX11_best_34 ?_
      refine J_goto C 40 dX11_best_35 rfl ?_
      exact J_iret C dX11_best_40 (by decide) (by decide)
  · refine J_iload_n C 2 dX11_best_9 rfl ?_
    exact J_iret C dX11_best_10 (by decide) (by decide)
def fX11_worstBy (nf : Nat) (s0 : zS) (i0 : Nat) (x1 : Int) : Option (Int × zS) :=
  cl_ (fX11_in s0 x1 0 2) fun (x_2 : Int) (s_1 : zS) => if x_2 = 0 then (some ((-2), s_1)) else (cl_ (fX11_mayOrder nf s_1 i0) fun (x_4 : Int) (s_3 : zS) => if x_4 < 0 then (some (x_4, s_3)) else (cl_ (fX11_layRow nf s_3 i0 x1) fun (_ : Unit) (s_5 : zS) => cl_ (fX11_measure nf s_5 i0) fun (_ : Unit) (s_6 : zS) => some (gI s_6 64 i0 54, s_6)))
set_option maxHeartbeats 4000000 in
set_option maxRecDepth 20000 in
theorem kX11_worstBy (nf : Nat) (s0 : zS) (i0 : Nat) (x1 : Int) : zCt zw yX11_worstBy cX11_worstBy 3 (some .int) 4 88 0 0 eI [.inr (64, some i0), .inl x1] s0 (fX11_worstBy nf s0 i0 x1) := by
  refine zCt_on (own := RX11) (nm := "worstBy") rfl rfl (by decide) (Nat.le_of_ble_eq_true rfl) fun K C => ?_
  show zJ zw 3 K _ 0 0 0 [(0, .inr (64, some i0)), (1, .inl x1)] [] s0 (fX11_worstBy nf s0 i0 x1)
  unfold fX11_worstBy
  refine J_iload_n C 1 dX11_worstBy_0 rfl ?_
  refine J_iconst C dX11_worstBy_1 (zi9 rfl rfl) ?_
  refine J_iconst C dX11_worstBy_2 (zi9 rfl rfl) ?_
  refine J_callSI (S := []) (avs := [.inl x1, .inl 0, .inl 2]) C yw_87 (kX11_in _ _ _ _) dX11_worstBy_3 rfl (Nat.le_of_ble_eq_true rfl) (by decide) fun x_2 s_1 => ?_
  refine J_if_ne C 12 dX11_worstBy_6 rfl (fun _ => ?_) (fun _ => ?_)
  · refine J_aload_n C 0 dX11_worstBy_12 rfl ?_
    refine J_callVI (S := []) (avs := []) C zx64 yw_128 rfl (kX11_mayOrder _ _ _) dX11_worstBy_13 rfl (Nat.le_of_ble_eq_true rfl) (by decide) fun x_4 s_3 => ?_
    refine J_istore_n (L' := [(0, .inr (64, some i0)), (1, .inl x1), (2, .inl x_4)]) C dX11_worstBy_16 (Nat.le_of_ble_eq_true rfl) rfl ?_
    refine J_iload_n C 2 dX11_worstBy_17 rfl ?_
    refine J_if_ge C 23 dX11_worstBy_18 rfl (fun _ => ?_) (fun _ => ?_)
    · refine J_aload_n C 0 dX11_worstBy_23 rfl ?_
      refine J_iload_n C 1 dX11_worstBy_24 rfl ?_
      refine J_callVV (S := []) (avs := [.inl x1]) C zx64 yw_109 rfl (kX11_layRow _ _ _ _) dX11_worstBy_25 rfl (Nat.le_of_ble_eq_true rfl) (by decide) fun _ s_5 => ?_
      refine J_aload_n C 0 dX11_worstBy_28 rfl ?_
      refine J_callVV (S := []) (avs := []) C zx64 yw_126 rfl (kX11_measure _ _ _) dX11_worstBy_29 rfl (Nat.le_of_ble_eq_true rfl) (by decide) fun _ s_6 => ?_
      refine J_aload_n C 0 dX11_worstBy_32 rfl ?_
      refine gf_64_54 C dX11_worstBy_33 q_898 ?_
      exact J_iret C dX11_worstBy_36 (by decide) (by decide)
    · refine J_iload_n C 2 dX11_worstBy_21 rfl ?_
      exact J_iret C dX11_worstBy_22 (by decide) (by decide)
  · refine J_bipush C dX11_worstBy_9 (zi9 rfl rfl) (by decide) ?_
    exact J_iret C dX11_worstBy_11 (by decide) (by decide)
def fX11_rush (s0 : zS) (i0 : Nat) (x1 : Int) (x2 : Int) (x3 : Int) : Option (Int × zS) :=
  cl_ (fX11_isPost s0 i0 x1) fun (x_2 : Int) (s_1 : zS) => if x_2 = 0 then (some ((-1), s_1)) else (nm_ (gR s_1 64 i0 2) fun (r_3 : Option Nat) => Option.bind r_3 fun i_4 => g_ ((0 : Int) ≤ x1 ∧ (x1 : Int) < 16) (if gI s_1 68 i_4 (Int.toNat (x1)) = 2 then (cl_ (fX11_in s_1 x2 0 5) fun (x_8 : Int) (s_7 : zS) => if x_8 = 0 then (some ((-2), s_7)) else (cl_ (fX11_in s_7 x3 0 300) fun (x_10 : Int) (s_9 : zS) => if x_10 = 0 then (some ((-2), s_9)) else (nm_ (gR s_9 64 i0 58) fun (r_11 : Option Nat) => Option.bind r_11 fun i_12 => g_ ((0 : Int) ≤ wr ((wr (6 * x1)) + x2) ∧ (wr ((wr (6 * x1)) + x2) : Int) < 96) (nm_ (gI s_9 124 i_12 (Int.toNat (wr ((wr (6 * x1)) + x2)))) fun (x_15 : Int) => nm_ (gR s_9 64 i0 58) fun (r_16 : Option Nat) => Option.bind r_16 fun i_17 => g_ ((0 : Int) ≤ wr ((wr (6 * x1)) + x2) ∧ (wr ((wr (6 * x1)) + x2) : Int) < 96) (up_ (sI s_9 124 i_17 (Int.toNat (wr ((wr (6 * x1)) + x2))) x3) fun (s_20 : zS) => some (x_15, s_20)))))) else (some ((-3), s_1))))
set_option maxHeartbeats 4000000 in
set_option maxRecDepth 20000 in
theorem kX11_rush (s0 : zS) (i0 : Nat) (x1 : Int) (x2 : Int) (x3 : Int) : zCt zw yX11_rush cX11_rush 5 (some .int) 2 43 0 0 eI [.inr (64, some i0), .inl x1, .inl x2, .inl x3] s0 (fX11_rush s0 i0 x1 x2 x3) := by
  refine zCt_on (own := RX11) (nm := "rush") rfl rfl (by decide) (Nat.le_of_ble_eq_true rfl) fun K C => ?_
  show zJ zw 5 K _ 0 0 0 [(0, .inr (64, some i0)), (1, .inl x1), (2, .inl x2), (3, .inl x3)] [] s0 (fX11_rush s0 i0 x1 x2 x3)
  unfold fX11_rush
  refine J_aload_n C 0 dX11_rush_0 rfl ?_
  refine J_iload_n C 1 dX11_rush_1 rfl ?_
  refine J_callVI (S := []) (avs := [.inl x1]) C zx64 yw_88 rfl (kX11_isPost _ _ _) dX11_rush_2 rfl (Nat.le_of_ble_eq_true rfl) (by decide) fun x_2 s_1 => ?_
  refine J_if_ne C 10 dX11_rush_5 rfl (fun _ => ?_) (fun _ => ?_)
  · refine J_aload_n C 0 dX11_rush_10 rfl ?_
    refine gf_64_2 C dX11_rush_11 q_846 ?_
    refine J_nmR fun r_3 => ?_
    refine J_iload_n C 1 dX11_rush_14 rfl ?_
    refine J_bind fun i_4 e_5 => ?_
    subst e_5
    refine J_g fun h_6 => ?_
    refine J_iald (t := 68) (N := 16) C (Nat.le_of_ble_eq_true rfl) rfl rfl h_6 dX11_rush_15 ?_
    refine J_iconst C dX11_rush_16 (zi9 rfl rfl) ?_
    refine J_ic_eq C 23 dX11_rush_17 rfl (fun _ => ?_) (fun _ => ?_)
    · refine J_iload_n C 2 dX11_rush_23 rfl ?_
      refine J_iconst C dX11_rush_24 (zi9 rfl rfl) ?_
      refine J_iconst C dX11_rush_25 (zi9 rfl rfl) ?_
      refine J_callSI (S := []) (avs := [.inl x2, .inl 0, .inl 5]) C yw_87 (kX11_in _ _ _ _) dX11_rush_26 rfl (Nat.le_of_ble_eq_true rfl) (by decide) fun x_8 s_7 => ?_
      refine J_if_eq C 43 dX11_rush_29 rfl (fun _ => ?_) (fun _ => ?_)
      · refine J_bipush C dX11_rush_43 (zi9 rfl rfl) (by decide) ?_
        exact J_iret C dX11_rush_45 (by decide) (by decide)
      · refine J_iload_n C 3 dX11_rush_32 rfl ?_
        refine J_iconst C dX11_rush_33 (zi9 rfl rfl) ?_
        refine J_sipush C dX11_rush_34 (zi9 rfl rfl) (by decide) ?_
        refine J_callSI (S := []) (avs := [.inl x3, .inl 0, .inl 300]) C yw_87 (kX11_in _ _ _ _) dX11_rush_37 rfl (Nat.le_of_ble_eq_true rfl) (by decide) fun x_10 s_9 => ?_
        refine J_if_ne C 46 dX11_rush_40 rfl (fun _ => ?_) (fun _ => ?_)
        · refine J_aload_n C 0 dX11_rush_46 rfl ?_
          refine gf_64_58 C dX11_rush_47 q_902 ?_
          refine J_nmR fun r_11 => ?_
          refine J_bipush C dX11_rush_50 (zi9 rfl rfl) (by decide) ?_
          refine J_iload_n C 1 dX11_rush_52 rfl ?_
          refine J_imul C dX11_rush_53 ?_
          refine J_iload_n C 2 dX11_rush_54 rfl ?_
          refine J_iadd C dX11_rush_55 ?_
          refine J_bind fun i_12 e_13 => ?_
          subst e_13
          refine J_g fun h_14 => ?_
          refine J_iald (t := 124) (N := 96) C (Nat.le_of_ble_eq_true rfl) rfl rfl h_14 dX11_rush_56 ?_
          refine J_nm fun x_15 => ?_
          refine J_istore (L' := [(0, .inr (64, some i0)), (1, .inl x1), (2, .inl x2), (3, .inl x3), (4, .inl x_15)]) C dX11_rush_57 (Nat.le_of_ble_eq_true rfl) rfl ?_
          refine J_aload_n C 0 dX11_rush_59 rfl ?_
          refine gf_64_58 C dX11_rush_60 q_902 ?_
          refine J_nmR fun r_16 => ?_
          refine J_bipush C dX11_rush_63 (zi9 rfl rfl) (by decide) ?_
          refine J_iload_n C 1 dX11_rush_65 rfl ?_
          refine J_imul C dX11_rush_66 ?_
          refine J_iload_n C 2 dX11_rush_67 rfl ?_
          refine J_iadd C dX11_rush_68 ?_
          refine J_iload_n C 3 dX11_rush_69 rfl ?_
          refine J_bind fun i_17 e_18 => ?_
          subst e_18
          refine J_g fun h_19 => ?_
          refine J_iast (t := 124) (N := 96) C (Nat.le_of_ble_eq_true rfl) rfl rfl h_19 dX11_rush_70 fun s_20 => ?_
          refine J_iload C 4 dX11_rush_71 rfl ?_
          exact J_iret C dX11_rush_73 (by decide) (by decide)
        · refine J_bipush C dX11_rush_43 (zi9 rfl rfl) (by decide) ?_
          exact J_iret C dX11_rush_45 (by decide) (by decide)
    · refine J_bipush C dX11_rush_20 (zi9 rfl rfl) (by decide) ?_
      exact J_iret C dX11_rush_22 (by decide) (by decide)
  · refine J_iconst C dX11_rush_8 (zi9 rfl rfl) ?_
    exact J_iret C dX11_rush_9 (by decide) (by decide)
def fX11_loadOf_L5 (o0 : Nat) (c1 : Int) (c2 : Int) (nf : Nat) : Nat → zS → Int → Int → Option (Int × zS)
  | 0, _, _, _ => none
  | n + 1, s0, x3, x4 =>
    if x4 < gI s0 64 o0 0 then (cl_ (fX11_liesBelow nf s0 o0 x4 c1) fun (x_2 : Int) (s_1 : zS) => nm_ (fun (s_3 : zS) (u_4 : Int) => nm_ (wr (x3 + u_4)) fun (x_5 : Int) => nm_ (wr (x4 + 1)) fun (x_6 : Int) => fX11_loadOf_L5 o0 c1 c2 nf n s_3 x_5 x_6) fun (j41 : zS → Int → Option (Int × zS)) => if x_2 = 0 then (j41 s_1 0) else (nm_ (gR s_1 64 o0 58) fun (r_7 : Option Nat) => Option.bind r_7 fun i_8 => g_ ((0 : Int) ≤ wr ((wr (6 * x4)) + c2) ∧ (wr ((wr (6 * x4)) + c2) : Int) < 96) (j41 s_1 (gI s_1 124 i_8 (Int.toNat (wr ((wr (6 * x4)) + c2))))))) else (some (x3, s0))
def fX11_loadOf (nf : Nat) (s0 : zS) (i0 : Nat) (x1 : Int) (x2 : Int) : Option (Int × zS) :=
  fX11_loadOf_L5 i0 x1 x2 nf nf s0 0 1
set_option maxHeartbeats 4000000 in
set_option maxRecDepth 20000 in
theorem kX11_loadOf_L5 {K : zKx} (C : zC zw 5 K RX11 cX11_loadOf "loadOf" (some .int) 1 23 0 0)  (nf : Nat) (o0 : Nat) (c1 : Int) (c2 : Int) : ∀ (n : Nat) (s0 : zS) (x3 : Int) (x4 : Int), zJ zw 5 K (zQm zw eI 0 0 K) 0 0 5 [(0, .inr (64, some o0)), (1, .inl c1), (2, .inl c2), (3, .inl x3), (4, .inl x4)] [] s0 (fX11_loadOf_L5 o0 c1 c2 nf n s0 x3 x4) := by
  intro n
  induction n with
  | zero => intro s0 x3 x4; exact J_none
  | succ n ih =>
    intro s0 x3 x4
    rw [fX11_loadOf_L5]
    refine J_iload C 4 dX11_loadOf_5 rfl ?_
    refine J_aload_n C 0 dX11_loadOf_7 rfl ?_
    refine gf_64_0 C dX11_loadOf_8 q_844 ?_
    refine J_ic_ge C 49 dX11_loadOf_11 rfl (fun _ => ?_) (fun _ => ?_)
    · refine J_iload_n C 3 dX11_loadOf_49 rfl ?_
      exact J_iret C dX11_loadOf_50 (by decide) (by decide)
    · refine J_iload_n C 3 dX11_loadOf_14 rfl ?_
      refine J_aload_n C 0 dX11_loadOf_15 rfl ?_
      refine J_iload C 4 dX11_loadOf_16 rfl ?_
      refine J_iload_n C 1 dX11_loadOf_18 rfl ?_
      refine J_callVI (S := [.inl x3]) (avs := [.inl x4, .inl c1]) C zx64 yw_93 rfl (kX11_liesBelow _ _ _ _ _) dX11_loadOf_19 rfl (Nat.le_of_ble_eq_true rfl) (by decide) fun x_2 s_1 => ?_
      refine J_join (fun j41 => ∀ (s_3 : zS) (u_4 : Int), zJ zw 5 K (zQm zw eI 0 0 K) 0 0 41 [(0, .inr (64, some o0)), (1, .inl c1), (2, .inl c2), (4, .inl x4)] [.inl u_4, .inl x3] s_3 (j41 s_3 u_4)) ?_ fun j41 hj41 => ?_
      · intro s_3 u_4
        refine J_iadd C dX11_loadOf_41 ?_
        refine J_nm fun x_5 => ?_
        refine J_istore_n (L' := [(0, .inr (64, some o0)), (1, .inl c1), (2, .inl c2), (3, .inl x_5), (4, .inl x4)]) C dX11_loadOf_42 (Nat.le_of_ble_eq_true rfl) rfl ?_
        refine J_iinc C 4 dX11_loadOf_43 (zi9 rfl rfl) (Nat.le_of_ble_eq_true rfl) rfl fun x_6 => ?_
        refine J_goto C 5 dX11_loadOf_46 rfl ?_
        exact ih _ _ _
      · refine J_if_eq C 40 dX11_loadOf_22 rfl (fun _ => ?_) (fun _ => ?_)
        · refine J_iconst C dX11_loadOf_40 (zi9 rfl rfl) ?_
          refine J_loc (L' := [(0, .inr (64, some o0)), (1, .inl c1), (2, .inl c2), (4, .inl x4)]) [0, 1, 2, 4] rfl ?_
          exact hj41 _ _
        · refine J_aload_n C 0 dX11_loadOf_25 rfl ?_
          refine gf_64_58 C dX11_loadOf_26 q_902 ?_
          refine J_nmR fun r_7 => ?_
          refine J_bipush C dX11_loadOf_29 (zi9 rfl rfl) (by decide) ?_
          refine J_iload C 4 dX11_loadOf_31 rfl ?_
          refine J_imul C dX11_loadOf_33 ?_
          refine J_iload_n C 2 dX11_loadOf_34 rfl ?_
          refine J_iadd C dX11_loadOf_35 ?_
          refine J_bind fun i_8 e_9 => ?_
          subst e_9
          refine J_g fun h_10 => ?_
          refine J_iald (t := 124) (N := 96) C (Nat.le_of_ble_eq_true rfl) rfl rfl h_10 dX11_loadOf_36 ?_
          refine J_goto C 41 dX11_loadOf_37 rfl ?_
          refine J_loc (L' := [(0, .inr (64, some o0)), (1, .inl c1), (2, .inl c2), (4, .inl x4)]) [0, 1, 2, 4] rfl ?_
          exact hj41 _ _
set_option maxHeartbeats 4000000 in
set_option maxRecDepth 20000 in
theorem kX11_loadOf (nf : Nat) (s0 : zS) (i0 : Nat) (x1 : Int) (x2 : Int) : zCt zw yX11_loadOf cX11_loadOf 5 (some .int) 1 23 0 0 eI [.inr (64, some i0), .inl x1, .inl x2] s0 (fX11_loadOf nf s0 i0 x1 x2) := by
  refine zCt_on (own := RX11) (nm := "loadOf") rfl rfl (by decide) (Nat.le_of_ble_eq_true rfl) fun K C => ?_
  show zJ zw 5 K _ 0 0 0 [(0, .inr (64, some i0)), (1, .inl x1), (2, .inl x2)] [] s0 (fX11_loadOf nf s0 i0 x1 x2)
  unfold fX11_loadOf
  refine J_iconst C dX11_loadOf_0 (zi9 rfl rfl) ?_
  refine J_istore_n (L' := [(0, .inr (64, some i0)), (1, .inl x1), (2, .inl x2), (3, .inl 0)]) C dX11_loadOf_1 (Nat.le_of_ble_eq_true rfl) rfl ?_
  refine J_iconst C dX11_loadOf_2 (zi9 rfl rfl) ?_
  refine J_istore (L' := [(0, .inr (64, some i0)), (1, .inl x1), (2, .inl x2), (3, .inl 0), (4, .inl 1)]) C dX11_loadOf_3 (Nat.le_of_ble_eq_true rfl) rfl ?_
  exact kX11_loadOf_L5 C _ _ _ _ _ _ _ _
def fX11_load (nf : Nat) (s0 : zS) (i0 : Nat) (x1 : Int) (x2 : Int) : Option (Int × zS) :=
  cl_ (fX11_isWire s0 i0 x1) fun (x_2 : Int) (s_1 : zS) => if x_2 = 0 then (some ((-1), s_1)) else (cl_ (fX11_in s_1 x2 0 5) fun (x_4 : Int) (s_3 : zS) => if x_4 = 0 then (some ((-2), s_3)) else (cl_ (fX11_loadOf nf s_3 i0 x1 x2) fun (x_6 : Int) (s_5 : zS) => some (x_6, s_5)))
set_option maxHeartbeats 4000000 in
set_option maxRecDepth 20000 in
theorem kX11_load (nf : Nat) (s0 : zS) (i0 : Nat) (x1 : Int) (x2 : Int) : zCt zw yX11_load cX11_load 3 (some .int) 2 47 0 0 eI [.inr (64, some i0), .inl x1, .inl x2] s0 (fX11_load nf s0 i0 x1 x2) := by
  refine zCt_on (own := RX11) (nm := "load") rfl rfl (by decide) (Nat.le_of_ble_eq_true rfl) fun K C => ?_
  show zJ zw 3 K _ 0 0 0 [(0, .inr (64, some i0)), (1, .inl x1), (2, .inl x2)] [] s0 (fX11_load nf s0 i0 x1 x2)
  unfold fX11_load
  refine J_aload_n C 0 dX11_load_0 rfl ?_
  refine J_iload_n C 1 dX11_load_1 rfl ?_
  refine J_callVI (S := []) (avs := [.inl x1]) C zx64 yw_89 rfl (kX11_isWire _ _ _) dX11_load_2 rfl (Nat.le_of_ble_eq_true rfl) (by decide) fun x_2 s_1 => ?_
  refine J_if_ne C 10 dX11_load_5 rfl (fun _ => ?_) (fun _ => ?_)
  · refine J_iload_n C 2 dX11_load_10 rfl ?_
    refine J_iconst C dX11_load_11 (zi9 rfl rfl) ?_
    refine J_iconst C dX11_load_12 (zi9 rfl rfl) ?_
    refine J_callSI (S := []) (avs := [.inl x2, .inl 0, .inl 5]) C yw_87 (kX11_in _ _ _ _) dX11_load_13 rfl (Nat.le_of_ble_eq_true rfl) (by decide) fun x_4 s_3 => ?_
    refine J_if_eq C 28 dX11_load_16 rfl (fun _ => ?_) (fun _ => ?_)
    · refine J_bipush C dX11_load_28 (zi9 rfl rfl) (by decide) ?_
      exact J_iret C dX11_load_30 (by decide) (by decide)
    · refine J_aload_n C 0 dX11_load_19 rfl ?_
      refine J_iload_n C 1 dX11_load_20 rfl ?_
      refine J_iload_n C 2 dX11_load_21 rfl ?_
      refine J_callVI (S := []) (avs := [.inl x1, .inl x2]) C zx64 yw_129 rfl (kX11_loadOf _ _ _ _ _) dX11_load_22 rfl (Nat.le_of_ble_eq_true rfl) (by decide) fun x_6 s_5 => ?_
      refine J_goto C 30 dX11_load_25 rfl ?_
      exact J_iret C dX11_load_30 (by decide) (by decide)
  · refine J_iconst C dX11_load_8 (zi9 rfl rfl) ?_
    exact J_iret C dX11_load_9 (by decide) (by decide)
def fX11_linesOf_L4 (o0 : Nat) (c1 : Int) (nf : Nat) : Nat → zS → Int → Int → Option (Int × zS)
  | 0, _, _, _ => none
  | n + 1, s0, x2, x3 =>
    if x3 < 6 then (cl_ (fX11_loadOf nf s0 o0 c1 x3) fun (x_10 : Int) (s_9 : zS) => nm_ (fun (s_11 : zS) (u_12 : Int) => nm_ (wr (x3 + 1)) fun (x_13 : Int) => fX11_linesOf_L4 o0 c1 nf n s_11 u_12 x_13) fun (j30 : zS → Int → Option (Int × zS)) => if x2 < x_10 then (j30 s_9 x_10) else (j30 s_9 x2)) else (nm_ (gR s0 64 o0 3) fun (r_1 : Option Nat) => Option.bind r_1 fun i_2 => g_ ((0 : Int) ≤ c1 ∧ (c1 : Int) < 16) (if 720 < wr ((wr (2 * x2)) * (gI s0 69 i_2 (Int.toNat (c1)))) then (nm_ (gR s0 64 o0 4) fun (r_5 : Option Nat) => Option.bind r_5 fun i_6 => g_ ((0 : Int) ≤ c1 ∧ (c1 : Int) < 16) (some (wr (2 * (wr (Int.tdiv (wr ((wr ((wr (x2 * (gI s0 70 i_6 (Int.toNat (c1))))) + 720)) - 1)) 720))), s0))) else (some (1, s0))))
def fX11_linesOf (nf : Nat) (s0 : zS) (i0 : Nat) (x1 : Int) : Option (Int × zS) :=
  fX11_linesOf_L4 i0 x1 nf nf s0 0 0
set_option maxHeartbeats 4000000 in
set_option maxRecDepth 20000 in
theorem kX11_linesOf_L4 {K : zKx} (C : zC zw 5 K RX11 cX11_linesOf "linesOf" (some .int) 2 47 0 0)  (nf : Nat) (o0 : Nat) (c1 : Int) : ∀ (n : Nat) (s0 : zS) (x2 : Int) (x3 : Int), zJ zw 5 K (zQm zw eI 0 0 K) 0 0 4 [(0, .inr (64, some o0)), (1, .inl c1), (2, .inl x2), (3, .inl x3)] [] s0 (fX11_linesOf_L4 o0 c1 nf n s0 x2 x3) := by
  intro n
  induction n with
  | zero => intro s0 x2 x3; exact J_none
  | succ n ih =>
    intro s0 x2 x3
    rw [fX11_linesOf_L4]
    refine J_iload_n C 3 dX11_linesOf_4 rfl ?_
    refine J_bipush C dX11_linesOf_5 (zi9 rfl rfl) (by decide) ?_
    refine J_ic_ge C 37 dX11_linesOf_7 rfl (fun _ => ?_) (fun _ => ?_)
    · refine J_iconst C dX11_linesOf_37 (zi9 rfl rfl) ?_
      refine J_iload_n C 2 dX11_linesOf_38 rfl ?_
      refine J_imul C dX11_linesOf_39 ?_
      refine J_aload_n C 0 dX11_linesOf_40 rfl ?_
      refine gf_64_3 C dX11_linesOf_41 q_847 ?_
      refine J_nmR fun r_1 => ?_
      refine J_iload_n C 1 dX11_linesOf_44 rfl ?_
      refine J_bind fun i_2 e_3 => ?_
      subst e_3
      refine J_g fun h_4 => ?_
      refine J_iald (t := 69) (N := 16) C (Nat.le_of_ble_eq_true rfl) rfl rfl h_4 dX11_linesOf_45 ?_
      refine J_imul C dX11_linesOf_46 ?_
      refine J_sipush C dX11_linesOf_47 (zi9 rfl rfl) (by decide) ?_
      refine J_ic_gt C 57 dX11_linesOf_50 rfl (fun _ => ?_) (fun _ => ?_)
      · refine J_iconst C dX11_linesOf_57 (zi9 rfl rfl) ?_
        refine J_iload_n C 2 dX11_linesOf_58 rfl ?_
        refine J_aload_n C 0 dX11_linesOf_59 rfl ?_
        refine gf_64_4 C dX11_linesOf_60 q_848 ?_
        refine J_nmR fun r_5 => ?_
        refine J_iload_n C 1 dX11_linesOf_63 rfl ?_
        refine J_bind fun i_6 e_7 => ?_
        subst e_7
        refine J_g fun h_8 => ?_
        refine J_iald (t := 70) (N := 16) C (Nat.le_of_ble_eq_true rfl) rfl rfl h_8 dX11_linesOf_64 ?_
        refine J_imul C dX11_linesOf_65 ?_
        refine J_sipush C dX11_linesOf_66 (zi9 rfl rfl) (by decide) ?_
        refine J_iadd C dX11_linesOf_69 ?_
        refine J_iconst C dX11_linesOf_70 (zi9 rfl rfl) ?_
        refine J_isub C dX11_linesOf_71 ?_
        refine J_sipush C dX11_linesOf_72 (zi9 rfl rfl) (by decide) ?_
        refine J_idiv C dX11_linesOf_75 (by decide) ?_
        refine J_imul C dX11_linesOf_76 ?_
        exact J_iret C dX11_linesOf_77 (by decide) (by decide)
      · refine J_iconst C dX11_linesOf_53 (zi9 rfl rfl) ?_
        refine J_goto C 77 dX11_linesOf_54 rfl ?_
        exact J_iret C dX11_linesOf_77 (by decide) (by decide)
    · refine J_aload_n C 0 dX11_linesOf_10 rfl ?_
      refine J_iload_n C 1 dX11_linesOf_11 rfl ?_
      refine J_iload_n C 3 dX11_linesOf_12 rfl ?_
      refine J_callVI (S := []) (avs := [.inl c1, .inl x3]) C zx64 yw_129 rfl (kX11_loadOf _ _ _ _ _) dX11_linesOf_13 rfl (Nat.le_of_ble_eq_true rfl) (by decide) fun x_10 s_9 => ?_
      refine J_istore (L' := [(0, .inr (64, some o0)), (1, .inl c1), (2, .inl x2), (3, .inl x3), (4, .inl x_10)]) C dX11_linesOf_16 (Nat.le_of_ble_eq_true rfl) rfl ?_
      refine J_iload C 4 dX11_linesOf_18 rfl ?_
      refine J_iload_n C 2 dX11_linesOf_20 rfl ?_
      refine J_join (fun j30 => ∀ (s_11 : zS) (u_12 : Int), zJ zw 5 K (zQm zw eI 0 0 K) 0 0 30 [(0, .inr (64, some o0)), (1, .inl c1), (3, .inl x3)] [.inl u_12] s_11 (j30 s_11 u_12)) ?_ fun j30 hj30 => ?_
      · intro s_11 u_12
        refine J_istore_n (L' := [(0, .inr (64, some o0)), (1, .inl c1), (2, .inl u_12), (3, .inl x3)]) C dX11_linesOf_30 (Nat.le_of_ble_eq_true rfl) rfl ?_
        refine J_iinc C 3 dX11_linesOf_31 (zi9 rfl rfl) (Nat.le_of_ble_eq_true rfl) rfl fun x_13 => ?_
        refine J_goto C 4 dX11_linesOf_34 rfl ?_
        exact ih _ _ _
      · refine J_ic_le C 29 dX11_linesOf_21 rfl (fun _ => ?_) (fun _ => ?_)
        · refine J_iload_n C 2 dX11_linesOf_29 rfl ?_
          refine J_loc (L' := [(0, .inr (64, some o0)), (1, .inl c1), (3, .inl x3)]) [0, 1, 3] rfl ?_
          exact hj30 _ _
        · refine J_iload C 4 dX11_linesOf_24 rfl ?_
          refine J_goto C 30 dX11_linesOf_26 rfl ?_
          refine J_loc (L' := [(0, .inr (64, some o0)), (1, .inl c1), (3, .inl x3)]) [0, 1, 3] rfl ?_
          exact hj30 _ _
set_option maxHeartbeats 4000000 in
set_option maxRecDepth 20000 in
theorem kX11_linesOf (nf : Nat) (s0 : zS) (i0 : Nat) (x1 : Int) : zCt zw yX11_linesOf cX11_linesOf 5 (some .int) 2 47 0 0 eI [.inr (64, some i0), .inl x1] s0 (fX11_linesOf nf s0 i0 x1) := by
  refine zCt_on (own := RX11) (nm := "linesOf") rfl rfl (by decide) (Nat.le_of_ble_eq_true rfl) fun K C => ?_
  show zJ zw 5 K _ 0 0 0 [(0, .inr (64, some i0)), (1, .inl x1)] [] s0 (fX11_linesOf nf s0 i0 x1)
  unfold fX11_linesOf
  refine J_iconst C dX11_linesOf_0 (zi9 rfl rfl) ?_
  refine J_istore_n (L' := [(0, .inr (64, some i0)), (1, .inl x1), (2, .inl 0)]) C dX11_linesOf_1 (Nat.le_of_ble_eq_true rfl) rfl ?_
  refine J_iconst C dX11_linesOf_2 (zi9 rfl rfl) ?_
  refine J_istore_n (L' := [(0, .inr (64, some i0)), (1, .inl x1), (2, .inl 0), (3, .inl 0)]) C dX11_linesOf_3 (Nat.le_of_ble_eq_true rfl) rfl ?_
  exact kX11_linesOf_L4 C _ _ _ _ _ _ _
def fX11_lines (nf : Nat) (s0 : zS) (i0 : Nat) (x1 : Int) : Option (Int × zS) :=
  cl_ (fX11_isWire s0 i0 x1) fun (x_2 : Int) (s_1 : zS) => if x_2 = 0 then (some ((-1), s_1)) else (cl_ (fX11_linesOf nf s_1 i0 x1) fun (x_4 : Int) (s_3 : zS) => some (x_4, s_3))
set_option maxHeartbeats 4000000 in
set_option maxRecDepth 20000 in
theorem kX11_lines (nf : Nat) (s0 : zS) (i0 : Nat) (x1 : Int) : zCt zw yX11_lines cX11_lines 2 (some .int) 3 71 0 0 eI [.inr (64, some i0), .inl x1] s0 (fX11_lines nf s0 i0 x1) := by
  refine zCt_on (own := RX11) (nm := "lines") rfl rfl (by decide) (Nat.le_of_ble_eq_true rfl) fun K C => ?_
  show zJ zw 2 K _ 0 0 0 [(0, .inr (64, some i0)), (1, .inl x1)] [] s0 (fX11_lines nf s0 i0 x1)
  unfold fX11_lines
  refine J_aload_n C 0 dX11_lines_0 rfl ?_
  refine J_iload_n C 1 dX11_lines_1 rfl ?_
  refine J_callVI (S := []) (avs := [.inl x1]) C zx64 yw_89 rfl (kX11_isWire _ _ _) dX11_lines_2 rfl (Nat.le_of_ble_eq_true rfl) (by decide) fun x_2 s_1 => ?_
  refine J_if_eq C 16 dX11_lines_5 rfl (fun _ => ?_) (fun _ => ?_)
  · refine J_iconst C dX11_lines_16 (zi9 rfl rfl) ?_
    exact J_iret C dX11_lines_17 (by decide) (by decide)
  · refine J_aload_n C 0 dX11_lines_8 rfl ?_
    refine J_iload_n C 1 dX11_lines_9 rfl ?_
    refine J_callVI (S := []) (avs := [.inl x1]) C zx64 yw_130 rfl (kX11_linesOf _ _ _ _) dX11_lines_10 rfl (Nat.le_of_ble_eq_true rfl) (by decide) fun x_4 s_3 => ?_
    refine J_goto C 17 dX11_lines_13 rfl ?_
    exact J_iret C dX11_lines_17 (by decide) (by decide)
def fX11_wanted_L4 (o0 : Nat) (nf : Nat) : Nat → zS → Int → Int → Option (Int × zS)
  | 0, _, _, _ => none
  | n + 1, s0, x1, x2 =>
    if x2 < gI s0 64 o0 0 then (nm_ (gR s0 64 o0 3) fun (r_1 : Option Nat) => Option.bind r_1 fun i_2 => g_ ((0 : Int) ≤ x2 ∧ (x2 : Int) < 16) (cl_ (fX11_linesOf nf s0 o0 x2) fun (x_6 : Int) (s_5 : zS) => nm_ (wr (x1 + (wr ((gI s0 69 i_2 (Int.toNat (x2))) * x_6)))) fun (x_7 : Int) => nm_ (wr (x2 + 1)) fun (x_8 : Int) => fX11_wanted_L4 o0 nf n s_5 x_7 x_8)) else (some (x1, s0))
def fX11_wanted (nf : Nat) (s0 : zS) (i0 : Nat) : Option (Int × zS) :=
  fX11_wanted_L4 i0 nf nf s0 0 1
set_option maxHeartbeats 4000000 in
set_option maxRecDepth 20000 in
theorem kX11_wanted_L4 {K : zKx} (C : zC zw 3 K RX11 cX11_wanted "wanted" (some .int) 3 71 0 0)  (nf : Nat) (o0 : Nat) : ∀ (n : Nat) (s0 : zS) (x1 : Int) (x2 : Int), zJ zw 3 K (zQm zw eI 0 0 K) 0 0 4 [(0, .inr (64, some o0)), (1, .inl x1), (2, .inl x2)] [] s0 (fX11_wanted_L4 o0 nf n s0 x1 x2) := by
  intro n
  induction n with
  | zero => intro s0 x1 x2; exact J_none
  | succ n ih =>
    intro s0 x1 x2
    rw [fX11_wanted_L4]
    refine J_iload_n C 2 dX11_wanted_4 rfl ?_
    refine J_aload_n C 0 dX11_wanted_5 rfl ?_
    refine gf_64_0 C dX11_wanted_6 q_844 ?_
    refine J_ic_ge C 33 dX11_wanted_9 rfl (fun _ => ?_) (fun _ => ?_)
    · refine J_iload_n C 1 dX11_wanted_33 rfl ?_
      exact J_iret C dX11_wanted_34 (by decide) (by decide)
    · refine J_iload_n C 1 dX11_wanted_12 rfl ?_
      refine J_aload_n C 0 dX11_wanted_13 rfl ?_
      refine gf_64_3 C dX11_wanted_14 q_847 ?_
      refine J_nmR fun r_1 => ?_
      refine J_iload_n C 2 dX11_wanted_17 rfl ?_
      refine J_bind fun i_2 e_3 => ?_
      subst e_3
      refine J_g fun h_4 => ?_
      refine J_iald (t := 69) (N := 16) C (Nat.le_of_ble_eq_true rfl) rfl rfl h_4 dX11_wanted_18 ?_
      refine J_aload_n C 0 dX11_wanted_19 rfl ?_
      refine J_iload_n C 2 dX11_wanted_20 rfl ?_
      refine J_callVI (S := [.inl (gI s0 69 i_2 (Int.toNat (x2))), .inl x1]) (avs := [.inl x2]) C zx64 yw_130 rfl (kX11_linesOf _ _ _ _) dX11_wanted_21 rfl (Nat.le_of_ble_eq_true rfl) (by decide) fun x_6 s_5 => ?_
      refine J_imul C dX11_wanted_24 ?_
      refine J_iadd C dX11_wanted_25 ?_
      refine J_nm fun x_7 => ?_
      refine J_istore_n (L' := [(0, .inr (64, some o0)), (1, .inl x_7), (2, .inl x2)]) C dX11_wanted_26 (Nat.le_of_ble_eq_true rfl) rfl ?_
      refine J_iinc C 2 dX11_wanted_27 (zi9 rfl rfl) (Nat.le_of_ble_eq_true rfl) rfl fun x_8 => ?_
      refine J_goto C 4 dX11_wanted_30 rfl ?_
      exact ih _ _ _
set_option maxHeartbeats 4000000 in
set_option maxRecDepth 20000 in
theorem kX11_wanted (nf : Nat) (s0 : zS) (i0 : Nat) : zCt zw yX11_wanted cX11_wanted 3 (some .int) 3 71 0 0 eI [.inr (64, some i0)] s0 (fX11_wanted nf s0 i0) := by
  refine zCt_on (own := RX11) (nm := "wanted") rfl rfl (by decide) (Nat.le_of_ble_eq_true rfl) fun K C => ?_
  show zJ zw 3 K _ 0 0 0 [(0, .inr (64, some i0))] [] s0 (fX11_wanted nf s0 i0)
  unfold fX11_wanted
  refine J_iconst C dX11_wanted_0 (zi9 rfl rfl) ?_
  refine J_istore_n (L' := [(0, .inr (64, some i0)), (1, .inl 0)]) C dX11_wanted_1 (Nat.le_of_ble_eq_true rfl) rfl ?_
  refine J_iconst C dX11_wanted_2 (zi9 rfl rfl) ?_
  refine J_istore_n (L' := [(0, .inr (64, some i0)), (1, .inl 0), (2, .inl 1)]) C dX11_wanted_3 (Nat.le_of_ble_eq_true rfl) rfl ?_
  exact kX11_wanted_L4 C _ _ _ _ _ _
def fX11_vital_L20 (o0 : Nat) (c1 : Int) (nf : Nat) : Nat → zS → Int → Int → Int → Option (Int × zS)
  | 0, _, _, _, _ => none
  | n + 1, s0, x2, x3, x4 =>
    if x4 < gI s0 64 o0 0 then (cl_ (fX11_loadOf nf s0 o0 x4 c1) fun (x_4 : Int) (s_3 : zS) => nm_ (gR s_3 64 o0 3) fun (r_5 : Option Nat) => Option.bind r_5 fun i_6 => g_ ((0 : Int) ≤ x4 ∧ (x4 : Int) < 16) (nm_ (wr ((wr (4 * x_4)) * (gI s_3 69 i_6 (Int.toNat (x4))))) fun (x_9 : Int) => nm_ (fun (s_10 : zS) (u_11 : Int) => nm_ (fun (s_12 : zS) (u_13 : Int) => nm_ (wr (x4 + 1)) fun (x_14 : Int) => fX11_vital_L20 o0 c1 nf n s_12 u_11 u_13 x_14) fun (j73 : zS → Int → Option (Int × zS)) => if x3 < x_9 then (j73 s_10 x_9) else (j73 s_10 x3)) fun (j60 : zS → Int → Option (Int × zS)) => if x3 < x_9 then (j60 s_3 x4) else (j60 s_3 x2))) else (some (x2, s0))
def fX11_vital (nf : Nat) (s0 : zS) (i0 : Nat) (x1 : Int) : Option (Int × zS) :=
  cl_ (fX11_in s0 x1 0 5) fun (x_2 : Int) (s_1 : zS) => if x_2 = 0 then (some ((-2), s_1)) else (fX11_vital_L20 i0 x1 nf nf s_1 (-9) 0 1)
set_option maxHeartbeats 4000000 in
set_option maxRecDepth 20000 in
theorem kX11_vital_L20 {K : zKx} (C : zC zw 6 K RX11 cX11_vital "vital" (some .int) 2 47 0 0)  (nf : Nat) (o0 : Nat) (c1 : Int) : ∀ (n : Nat) (s0 : zS) (x2 : Int) (x3 : Int) (x4 : Int), zJ zw 6 K (zQm zw eI 0 0 K) 0 0 20 [(0, .inr (64, some o0)), (1, .inl c1), (2, .inl x2), (3, .inl x3), (4, .inl x4)] [] s0 (fX11_vital_L20 o0 c1 nf n s0 x2 x3 x4) := by
  intro n
  induction n with
  | zero => intro s0 x2 x3 x4; exact J_none
  | succ n ih =>
    intro s0 x2 x3 x4
    rw [fX11_vital_L20]
    refine J_iload C 4 dX11_vital_20 rfl ?_
    refine J_aload_n C 0 dX11_vital_22 rfl ?_
    refine gf_64_0 C dX11_vital_23 q_844 ?_
    refine J_ic_ge C 80 dX11_vital_26 rfl (fun _ => ?_) (fun _ => ?_)
    · refine J_iload_n C 2 dX11_vital_80 rfl ?_
      exact J_iret C dX11_vital_81 (by decide) (by decide)
    · refine J_iconst C dX11_vital_29 (zi9 rfl rfl) ?_
      refine J_aload_n C 0 dX11_vital_30 rfl ?_
      refine J_iload C 4 dX11_vital_31 rfl ?_
      refine J_iload_n C 1 dX11_vital_33 rfl ?_
      refine J_callVI (S := [.inl 4]) (avs := [.inl x4, .inl c1]) C zx64 yw_129 rfl (kX11_loadOf _ _ _ _ _) dX11_vital_34 rfl (Nat.le_of_ble_eq_true rfl) (by decide) fun x_4 s_3 => ?_
      refine J_imul C dX11_vital_37 ?_
      refine J_aload_n C 0 dX11_vital_38 rfl ?_
      refine gf_64_3 C dX11_vital_39 q_847 ?_
      refine J_nmR fun r_5 => ?_
      refine J_iload C 4 dX11_vital_42 rfl ?_
      refine J_bind fun i_6 e_7 => ?_
      subst e_7
      refine J_g fun h_8 => ?_
      refine J_iald (t := 69) (N := 16) C (Nat.le_of_ble_eq_true rfl) rfl rfl h_8 dX11_vital_44 ?_
      refine J_imul C dX11_vital_45 ?_
      refine J_nm fun x_9 => ?_
      refine J_istore (L' := [(0, .inr (64, some o0)), (1, .inl c1), (2, .inl x2), (3, .inl x3), (4, .inl x4), (5, .inl x_9)]) C dX11_vital_46 (Nat.le_of_ble_eq_true rfl) rfl ?_
      refine J_iload C 5 dX11_vital_48 rfl ?_
      refine J_iload_n C 3 dX11_vital_50 rfl ?_
      refine J_join (fun j60 => ∀ (s_10 : zS) (u_11 : Int), zJ zw 6 K (zQm zw eI 0 0 K) 0 0 60 [(0, .inr (64, some o0)), (1, .inl c1), (3, .inl x3), (4, .inl x4), (5, .inl x_9)] [.inl u_11] s_10 (j60 s_10 u_11)) ?_ fun j60 hj60 => ?_
      · intro s_10 u_11
        refine J_istore_n (L' := [(0, .inr (64, some o0)), (1, .inl c1), (2, .inl u_11), (3, .inl x3), (4, .inl x4), (5, .inl x_9)]) C dX11_vital_60 (Nat.le_of_ble_eq_true rfl) rfl ?_
        refine J_iload C 5 dX11_vital_61 rfl ?_
        refine J_iload_n C 3 dX11_vital_63 rfl ?_
        refine J_join (fun j73 => ∀ (s_12 : zS) (u_13 : Int), zJ zw 6 K (zQm zw eI 0 0 K) 0 0 73 [(0, .inr (64, some o0)), (1, .inl c1), (2, .inl u_11), (4, .inl x4)] [.inl u_13] s_12 (j73 s_12 u_13)) ?_ fun j73 hj73 => ?_
        · intro s_12 u_13
          refine J_istore_n (L' := [(0, .inr (64, some o0)), (1, .inl c1), (2, .inl u_11), (3, .inl u_13), (4, .inl x4)]) C dX11_vital_73 (Nat.le_of_ble_eq_true rfl) rfl ?_
          refine J_iinc C 4 dX11_vital_74 (zi9 rfl rfl) (Nat.le_of_ble_eq_true rfl) rfl fun x_14 => ?_
          refine J_goto C 20 dX11_vital_77 rfl ?_
          exact ih _ _ _ _
        · refine J_ic_le C 72 dX11_vital_64 rfl (fun _ => ?_) (fun _ => ?_)
          · refine J_iload_n C 3 dX11_vital_72 rfl ?_
            refine J_loc (L' := [(0, .inr (64, some o0)), (1, .inl c1), (2, .inl u_11), (4, .inl x4)]) [0, 1, 2, 4] rfl ?_
            exact hj73 _ _
          · refine J_iload C 5 dX11_vital_67 rfl ?_
            refine J_goto C 73 dX11_vital_69 rfl ?_
            refine J_loc (L' := [(0, .inr (64, some o0)), (1, .inl c1), (2, .inl u_11), (4, .inl x4)]) [0, 1, 2, 4] rfl ?_
            exact hj73 _ _
      · refine J_ic_le C 59 dX11_vital_51 rfl (fun _ => ?_) (fun _ => ?_)
        · refine J_iload_n C 2 dX11_vital_59 rfl ?_
          refine J_loc (L' := [(0, .inr (64, some o0)), (1, .inl c1), (3, .inl x3), (4, .inl x4), (5, .inl x_9)]) [0, 1, 3, 4, 5] rfl ?_
          exact hj60 _ _
        · refine J_iload C 4 dX11_vital_54 rfl ?_
          refine J_goto C 60 dX11_vital_56 rfl ?_
          refine J_loc (L' := [(0, .inr (64, some o0)), (1, .inl c1), (3, .inl x3), (4, .inl x4), (5, .inl x_9)]) [0, 1, 3, 4, 5] rfl ?_
          exact hj60 _ _
set_option maxHeartbeats 4000000 in
set_option maxRecDepth 20000 in
theorem kX11_vital (nf : Nat) (s0 : zS) (i0 : Nat) (x1 : Int) : zCt zw yX11_vital cX11_vital 6 (some .int) 2 47 0 0 eI [.inr (64, some i0), .inl x1] s0 (fX11_vital nf s0 i0 x1) := by
  refine zCt_on (own := RX11) (nm := "vital") rfl rfl (by decide) (Nat.le_of_ble_eq_true rfl) fun K C => ?_
  show zJ zw 6 K _ 0 0 0 [(0, .inr (64, some i0)), (1, .inl x1)] [] s0 (fX11_vital nf s0 i0 x1)
  unfold fX11_vital
  refine J_iload_n C 1 dX11_vital_0 rfl ?_
  refine J_iconst C dX11_vital_1 (zi9 rfl rfl) ?_
  refine J_iconst C dX11_vital_2 (zi9 rfl rfl) ?_
  refine J_callSI (S := []) (avs := [.inl x1, .inl 0, .inl 5]) C yw_87 (kX11_in _ _ _ _) dX11_vital_3 rfl (Nat.le_of_ble_eq_true rfl) (by decide) fun x_2 s_1 => ?_
  refine J_if_ne C 12 dX11_vital_6 rfl (fun _ => ?_) (fun _ => ?_)
  · refine J_bipush C dX11_vital_12 (zi9 rfl rfl) (by decide) ?_
    refine J_istore_n (L' := [(0, .inr (64, some i0)), (1, .inl x1), (2, .inl (-9))]) C dX11_vital_14 (Nat.le_of_ble_eq_true rfl) rfl ?_
    refine J_iconst C dX11_vital_15 (zi9 rfl rfl) ?_
    refine J_istore_n (L' := [(0, .inr (64, some i0)), (1, .inl x1), (2, .inl (-9)), (3, .inl 0)]) C dX11_vital_16 (Nat.le_of_ble_eq_true rfl) rfl ?_
    refine J_iconst C dX11_vital_17 (zi9 rfl rfl) ?_
    refine J_istore (L' := [(0, .inr (64, some i0)), (1, .inl x1), (2, .inl (-9)), (3, .inl 0), (4, .inl 1)]) C dX11_vital_18 (Nat.le_of_ble_eq_true rfl) rfl ?_
    exact kX11_vital_L20 C _ _ _ _ _ _ _ _
  · refine J_bipush C dX11_vital_9 (zi9 rfl rfl) (by decide) ?_
    exact J_iret C dX11_vital_11 (by decide) (by decide)
def fX11_loss (nf : Nat) (s0 : zS) (i0 : Nat) (x1 : Int) (x2 : Int) : Option (Int × zS) :=
  cl_ (fX11_isWire s0 i0 x1) fun (x_2 : Int) (s_1 : zS) => if x_2 = 0 then (some ((-1), s_1)) else (cl_ (fX11_in s_1 x2 0 5) fun (x_4 : Int) (s_3 : zS) => if x_4 = 0 then (some ((-2), s_3)) else (cl_ (fX11_loadOf nf s_3 i0 x1 x2) fun (x_6 : Int) (s_5 : zS) => nm_ (gR s_5 64 i0 3) fun (r_7 : Option Nat) => Option.bind r_7 fun i_8 => g_ ((0 : Int) ≤ x1 ∧ (x1 : Int) < 16) (some (wr ((wr (4 * x_6)) * (gI s_5 69 i_8 (Int.toNat (x1)))), s_5))))
set_option maxHeartbeats 4000000 in
set_option maxRecDepth 20000 in
theorem kX11_loss (nf : Nat) (s0 : zS) (i0 : Nat) (x1 : Int) (x2 : Int) : zCt zw yX11_loss cX11_loss 3 (some .int) 2 47 0 0 eI [.inr (64, some i0), .inl x1, .inl x2] s0 (fX11_loss nf s0 i0 x1 x2) := by
  refine zCt_on (own := RX11) (nm := "loss") rfl rfl (by decide) (Nat.le_of_ble_eq_true rfl) fun K C => ?_
  show zJ zw 3 K _ 0 0 0 [(0, .inr (64, some i0)), (1, .inl x1), (2, .inl x2)] [] s0 (fX11_loss nf s0 i0 x1 x2)
  unfold fX11_loss
  refine J_aload_n C 0 dX11_loss_0 rfl ?_
  refine J_iload_n C 1 dX11_loss_1 rfl ?_
  refine J_callVI (S := []) (avs := [.inl x1]) C zx64 yw_89 rfl (kX11_isWire _ _ _) dX11_loss_2 rfl (Nat.le_of_ble_eq_true rfl) (by decide) fun x_2 s_1 => ?_
  refine J_if_ne C 10 dX11_loss_5 rfl (fun _ => ?_) (fun _ => ?_)
  · refine J_iload_n C 2 dX11_loss_10 rfl ?_
    refine J_iconst C dX11_loss_11 (zi9 rfl rfl) ?_
    refine J_iconst C dX11_loss_12 (zi9 rfl rfl) ?_
    refine J_callSI (S := []) (avs := [.inl x2, .inl 0, .inl 5]) C yw_87 (kX11_in _ _ _ _) dX11_loss_13 rfl (Nat.le_of_ble_eq_true rfl) (by decide) fun x_4 s_3 => ?_
    refine J_if_eq C 37 dX11_loss_16 rfl (fun _ => ?_) (fun _ => ?_)
    · refine J_bipush C dX11_loss_37 (zi9 rfl rfl) (by decide) ?_
      exact J_iret C dX11_loss_39 (by decide) (by decide)
    · refine J_iconst C dX11_loss_19 (zi9 rfl rfl) ?_
      refine J_aload_n C 0 dX11_loss_20 rfl ?_
      refine J_iload_n C 1 dX11_loss_21 rfl ?_
      refine J_iload_n C 2 dX11_loss_22 rfl ?_
      refine J_callVI (S := [.inl 4]) (avs := [.inl x1, .inl x2]) C zx64 yw_129 rfl (kX11_loadOf _ _ _ _ _) dX11_loss_23 rfl (Nat.le_of_ble_eq_true rfl) (by decide) fun x_6 s_5 => ?_
      refine J_imul C dX11_loss_26 ?_
      refine J_aload_n C 0 dX11_loss_27 rfl ?_
      refine gf_64_3 C dX11_loss_28 q_847 ?_
      refine J_nmR fun r_7 => ?_
      refine J_iload_n C 1 dX11_loss_31 rfl ?_
      refine J_bind fun i_8 e_9 => ?_
      subst e_9
      refine J_g fun h_10 => ?_
      refine J_iald (t := 69) (N := 16) C (Nat.le_of_ble_eq_true rfl) rfl rfl h_10 dX11_loss_32 ?_
      refine J_imul C dX11_loss_33 ?_
      refine J_goto C 39 dX11_loss_34 rfl ?_
      exact J_iret C dX11_loss_39 (by decide) (by decide)
  · refine J_iconst C dX11_loss_8 (zi9 rfl rfl) ?_
    exact J_iret C dX11_loss_9 (by decide) (by decide)
def fX11_bells (s0 : zS) (i0 : Nat) : Option (Int × zS) :=
  some (gI s0 64 i0 47, s0)
set_option maxHeartbeats 4000000 in
set_option maxRecDepth 20000 in
theorem kX11_bells (s0 : zS) (i0 : Nat) : zCt zw yX11_bells cX11_bells 1 (some .int) 0 0 0 0 eI [.inr (64, some i0)] s0 (fX11_bells s0 i0) := by
  refine zCt_on (own := RX11) (nm := "bells") rfl rfl (by decide) (Nat.le_of_ble_eq_true rfl) fun K C => ?_
  show zJ zw 1 K _ 0 0 0 [(0, .inr (64, some i0))] [] s0 (fX11_bells s0 i0)
  unfold fX11_bells
  refine J_aload_n C 0 dX11_bells_0 rfl ?_
  refine gf_64_47 C dX11_bells_1 q_891 ?_
  exact J_iret C dX11_bells_4 (by decide) (by decide)
def fX11_bell (s0 : zS) (i0 : Nat) (x1 : Int) (x2 : Int) : Option (Int × zS) :=
  cl_ (fX11_in s0 x1 0 (wr ((gI s0 64 i0 47) - 1))) fun (x_2 : Int) (s_1 : zS) => if x_2 = 0 then (some ((-9), s_1)) else (nm_ (Int.tmod (wr ((gI s_1 64 i0 48) + x1)) 300) fun (x_3 : Int) => if x2 = 0 then (nm_ (gR s_1 64 i0 49) fun (r_4 : Option Nat) => Option.bind r_4 fun i_5 => g_ ((0 : Int) ≤ x_3 ∧ (x_3 : Int) < 300) (some (gI s_1 115 i_5 (Int.toNat (x_3)), s_1))) else (nm_ (gR s_1 64 i0 50) fun (r_8 : Option Nat) => Option.bind r_8 fun i_9 => g_ ((0 : Int) ≤ x_3 ∧ (x_3 : Int) < 300) (some (gI s_1 116 i_9 (Int.toNat (x_3)), s_1))))
set_option maxHeartbeats 4000000 in
set_option maxRecDepth 20000 in
theorem kX11_bell (s0 : zS) (i0 : Nat) (x1 : Int) (x2 : Int) : zCt zw yX11_bell cX11_bell 4 (some .int) 1 22 0 0 eI [.inr (64, some i0), .inl x1, .inl x2] s0 (fX11_bell s0 i0 x1 x2) := by
  refine zCt_on (own := RX11) (nm := "bell") rfl rfl (by decide) (Nat.le_of_ble_eq_true rfl) fun K C => ?_
  show zJ zw 4 K _ 0 0 0 [(0, .inr (64, some i0)), (1, .inl x1), (2, .inl x2)] [] s0 (fX11_bell s0 i0 x1 x2)
  unfold fX11_bell
  refine J_iload_n C 1 dX11_bell_0 rfl ?_
  refine J_iconst C dX11_bell_1 (zi9 rfl rfl) ?_
  refine J_aload_n C 0 dX11_bell_2 rfl ?_
  refine gf_64_47 C dX11_bell_3 q_891 ?_
  refine J_iconst C dX11_bell_6 (zi9 rfl rfl) ?_
  refine J_isub C dX11_bell_7 ?_
  refine J_callSI (S := []) (avs := [.inl x1, .inl 0, .inl (wr ((gI s0 64 i0 47) - 1))]) C yw_87 (kX11_in _ _ _ _) dX11_bell_8 rfl (Nat.le_of_ble_eq_true rfl) (by decide) fun x_2 s_1 => ?_
  refine J_if_ne C 17 dX11_bell_11 rfl (fun _ => ?_) (fun _ => ?_)
  · refine J_aload_n C 0 dX11_bell_17 rfl ?_
    refine gf_64_48 C dX11_bell_18 q_892 ?_
    refine J_iload_n C 1 dX11_bell_21 rfl ?_
    refine J_iadd C dX11_bell_22 ?_
    refine J_sipush C dX11_bell_23 (zi9 rfl rfl) (by decide) ?_
    refine J_irem C dX11_bell_26 (by decide) ?_
    refine J_nm fun x_3 => ?_
    refine J_istore_n (L' := [(0, .inr (64, some i0)), (1, .inl x1), (2, .inl x2), (3, .inl x_3)]) C dX11_bell_27 (Nat.le_of_ble_eq_true rfl) rfl ?_
    refine J_iload_n C 2 dX11_bell_28 rfl ?_
    refine J_if_eq C 41 dX11_bell_29 rfl (fun _ => ?_) (fun _ => ?_)
    · refine J_aload_n C 0 dX11_bell_41 rfl ?_
      refine gf_64_49 C dX11_bell_42 q_893 ?_
      refine J_nmR fun r_4 => ?_
      refine J_iload_n C 3 dX11_bell_45 rfl ?_
      refine J_bind fun i_5 e_6 => ?_
      subst e_6
      refine J_g fun h_7 => ?_
      refine J_iald (t := 115) (N := 300) C (Nat.le_of_ble_eq_true rfl) rfl rfl h_7 dX11_bell_46 ?_
      exact J_iret C dX11_bell_47 (by decide) (by decide)
    · refine J_aload_n C 0 dX11_bell_32 rfl ?_
      refine gf_64_50 C dX11_bell_33 q_894 ?_
      refine J_nmR fun r_8 => ?_
      refine J_iload_n C 3 dX11_bell_36 rfl ?_
      refine J_bind fun i_9 e_10 => ?_
      subst e_10
      refine J_g fun h_11 => ?_
      refine J_iald (t := 116) (N := 300) C (Nat.le_of_ble_eq_true rfl) rfl rfl h_11 dX11_bell_37 ?_
      refine J_goto C 47 dX11_bell_38 rfl ?_
      exact J_iret C dX11_bell_47 (by decide) (by decide)
  · refine J_bipush C dX11_bell_14 (zi9 rfl rfl) (by decide) ?_
    exact J_iret C dX11_bell_16 (by decide) (by decide)
def fX11_rungBehind_L2 (o0 : Nat) (c1 : Int) (c2 : Int) : Nat → zS → Int → Option (Int × zS)
  | 0, _, _ => none
  | n + 1, s0, x3 =>
    if x3 < gI s0 64 o0 47 then (nm_ (Int.tmod (wr ((gI s0 64 o0 48) + x3)) 300) fun (x_1 : Int) => nm_ (gR s0 64 o0 49) fun (r_2 : Option Nat) => Option.bind r_2 fun i_3 => g_ ((0 : Int) ≤ x_1 ∧ (x_1 : Int) < 300) (nm_ (fun (s_6 : zS) => nm_ (wr (x3 + 1)) fun (x_7 : Int) => fX11_rungBehind_L2 o0 c1 c2 n s_6 x_7) fun (j52 : zS → Option (Int × zS)) => if gI s0 115 i_3 (Int.toNat (x_1)) = c1 then (nm_ (gR s0 64 o0 50) fun (r_8 : Option Nat) => Option.bind r_8 fun i_9 => g_ ((0 : Int) ≤ x_1 ∧ (x_1 : Int) < 300) (if gI s0 116 i_9 (Int.toNat (x_1)) < c2 then (j52 s0) else (nm_ (gR s0 64 o0 50) fun (r_12 : Option Nat) => Option.bind r_12 fun i_13 => g_ ((0 : Int) ≤ x_1 ∧ (x_1 : Int) < 300) (some (gI s0 116 i_13 (Int.toNat (x_1)), s0))))) else (j52 s0))) else (some ((-9), s0))
def fX11_rungBehind (nf : Nat) (s0 : zS) (i0 : Nat) (x1 : Int) (x2 : Int) : Option (Int × zS) :=
  fX11_rungBehind_L2 i0 x1 x2 nf s0 0
set_option maxHeartbeats 4000000 in
set_option maxRecDepth 20000 in
theorem kX11_rungBehind_L2 {K : zKx} (C : zC zw 5 K RX11 cX11_rungBehind "rungBehind" (some .int) 0 0 0 0)  (o0 : Nat) (c1 : Int) (c2 : Int) : ∀ (n : Nat) (s0 : zS) (x3 : Int), zJ zw 5 K (zQm zw eI 0 0 K) 0 0 2 [(0, .inr (64, some o0)), (1, .inl c1), (2, .inl c2), (3, .inl x3)] [] s0 (fX11_rungBehind_L2 o0 c1 c2 n s0 x3) := by
  intro n
  induction n with
  | zero => intro s0 x3; exact J_none
  | succ n ih =>
    intro s0 x3
    rw [fX11_rungBehind_L2]
    refine J_iload_n C 3 dX11_rungBehind_2 rfl ?_
    refine J_aload_n C 0 dX11_rungBehind_3 rfl ?_
    refine gf_64_47 C dX11_rungBehind_4 q_891 ?_
    refine J_ic_ge C 58 dX11_rungBehind_7 rfl (fun _ => ?_) (fun _ => ?_)
    · refine J_bipush C dX11_rungBehind_58 (zi9 rfl rfl) (by decide) ?_
      exact J_iret C dX11_rungBehind_60 (by decide) (by decide)
    · refine J_aload_n C 0 dX11_rungBehind_10 rfl ?_
      refine gf_64_48 C dX11_rungBehind_11 q_892 ?_
      refine J_iload_n C 3 dX11_rungBehind_14 rfl ?_
      refine J_iadd C dX11_rungBehind_15 ?_
      refine J_sipush C dX11_rungBehind_16 (zi9 rfl rfl) (by decide) ?_
      refine J_irem C dX11_rungBehind_19 (by decide) ?_
      refine J_nm fun x_1 => ?_
      refine J_istore (L' := [(0, .inr (64, some o0)), (1, .inl c1), (2, .inl c2), (3, .inl x3), (4, .inl x_1)]) C dX11_rungBehind_20 (Nat.le_of_ble_eq_true rfl) rfl ?_
      refine J_aload_n C 0 dX11_rungBehind_22 rfl ?_
      refine gf_64_49 C dX11_rungBehind_23 q_893 ?_
      refine J_nmR fun r_2 => ?_
      refine J_iload C 4 dX11_rungBehind_26 rfl ?_
      refine J_bind fun i_3 e_4 => ?_
      subst e_4
      refine J_g fun h_5 => ?_
      refine J_iald (t := 115) (N := 300) C (Nat.le_of_ble_eq_true rfl) rfl rfl h_5 dX11_rungBehind_28 ?_
      refine J_iload_n C 1 dX11_rungBehind_29 rfl ?_
      refine J_join (fun j52 => ∀ (s_6 : zS), zJ zw 5 K (zQm zw eI 0 0 K) 0 0 52 [(0, .inr (64, some o0)), (1, .inl c1), (2, .inl c2), (3, .inl x3)] [] s_6 (j52 s_6)) ?_ fun j52 hj52 => ?_
      · intro s_6
        refine J_iinc C 3 dX11_rungBehind_52 (zi9 rfl rfl) (Nat.le_of_ble_eq_true rfl) rfl fun x_7 => ?_
        refine J_goto C 2 dX11_rungBehind_55 rfl ?_
        exact ih _ _
      · refine J_ic_ne C 52 dX11_rungBehind_30 rfl (fun _ => ?_) (fun _ => ?_)
        · refine J_loc (L' := [(0, .inr (64, some o0)), (1, .inl c1), (2, .inl c2), (3, .inl x3)]) [0, 1, 2, 3] rfl ?_
          exact hj52 _
        · refine J_aload_n C 0 dX11_rungBehind_33 rfl ?_
          refine gf_64_50 C dX11_rungBehind_34 q_894 ?_
          refine J_nmR fun r_8 => ?_
          refine J_iload C 4 dX11_rungBehind_37 rfl ?_
          refine J_bind fun i_9 e_10 => ?_
          subst e_10
          refine J_g fun h_11 => ?_
          refine J_iald (t := 116) (N := 300) C (Nat.le_of_ble_eq_true rfl) rfl rfl h_11 dX11_rungBehind_39 ?_
          refine J_iload_n C 2 dX11_rungBehind_40 rfl ?_
          refine J_ic_lt C 52 dX11_rungBehind_41 rfl (fun _ => ?_) (fun _ => ?_)
          · refine J_loc (L' := [(0, .inr (64, some o0)), (1, .inl c1), (2, .inl c2), (3, .inl x3)]) [0, 1, 2, 3] rfl ?_
            exact hj52 _
          · refine J_aload_n C 0 dX11_rungBehind_44 rfl ?_
            refine gf_64_50 C dX11_rungBehind_45 q_894 ?_
            refine J_nmR fun r_12 => ?_
            refine J_iload C 4 dX11_rungBehind_48 rfl ?_
            refine J_bind fun i_13 e_14 => ?_
            subst e_14
            refine J_g fun h_15 => ?_
            refine J_iald (t := 116) (N := 300) C (Nat.le_of_ble_eq_true rfl) rfl rfl h_15 dX11_rungBehind_50 ?_
            exact J_iret C dX11_rungBehind_51 (by decide) (by decide)
set_option maxHeartbeats 4000000 in
set_option maxRecDepth 20000 in
theorem kX11_rungBehind (nf : Nat) (s0 : zS) (i0 : Nat) (x1 : Int) (x2 : Int) : zCt zw yX11_rungBehind cX11_rungBehind 5 (some .int) 0 0 0 0 eI [.inr (64, some i0), .inl x1, .inl x2] s0 (fX11_rungBehind nf s0 i0 x1 x2) := by
  refine zCt_on (own := RX11) (nm := "rungBehind") rfl rfl (by decide) (Nat.le_of_ble_eq_true rfl) fun K C => ?_
  show zJ zw 5 K _ 0 0 0 [(0, .inr (64, some i0)), (1, .inl x1), (2, .inl x2)] [] s0 (fX11_rungBehind nf s0 i0 x1 x2)
  unfold fX11_rungBehind
  refine J_iconst C dX11_rungBehind_0 (zi9 rfl rfl) ?_
  refine J_istore_n (L' := [(0, .inr (64, some i0)), (1, .inl x1), (2, .inl x2), (3, .inl 0)]) C dX11_rungBehind_1 (Nat.le_of_ble_eq_true rfl) rfl ?_
  exact kX11_rungBehind_L2 C _ _ _ _ _ _
def fX11_mayBe_L39 (o0 : Nat) (nf : Nat) : Nat → zS → Int → Int → Int → Option (Int × zS)
  | 0, _, _, _, _ => none
  | n + 1, s0, x2, x3, x4 =>
    if x3 = 0 then (some (x2, s0)) else (nm_ (gR s0 64 o0 3) fun (r_17 : Option Nat) => Option.bind r_17 fun i_18 => g_ ((0 : Int) ≤ x3 ∧ (x3 : Int) < 16) (nm_ (wr (x4 + (gI s0 69 i_18 (Int.toNat (x3))))) fun (x_21 : Int) => nm_ (gR s0 64 o0 1) fun (r_22 : Option Nat) => Option.bind r_22 fun i_23 => g_ ((0 : Int) ≤ x3 ∧ (x3 : Int) < 16) (nm_ (gI s0 67 i_23 (Int.toNat (x3))) fun (x_26 : Int) => nm_ (fun (s_27 : zS) (y_28 : Int) => if y_28 = (-9) then (some (x2, s_27)) else (if gI s_27 64 o0 13 < y_28 then (some (x2, s_27)) else (nm_ (wr (x2 + 1)) fun (x_29 : Int) => fX11_mayBe_L39 o0 nf n s_27 x_29 x_26 y_28))) fun (j83 : zS → Int → Option (Int × zS)) => if x_26 = 0 then (j83 s0 x_21) else (nm_ (gR s0 64 o0 10) fun (r_30 : Option Nat) => Option.bind r_30 fun i_31 => g_ ((0 : Int) ≤ x_26 ∧ (x_26 : Int) < 16) (if gI s0 76 i_31 (Int.toNat (x_26)) = 0 then (cl_ (fX11_rungBehind nf s0 o0 x_26 x_21) fun (x_35 : Int) (s_34 : zS) => j83 s_34 x_35) else (j83 s0 x_21))))))
def fX11_mayBe (nf : Nat) (s0 : zS) (i0 : Nat) (x1 : Int) : Option (Int × zS) :=
  cl_ (fX11_isCup s0 i0 x1) fun (x_2 : Int) (s_1 : zS) => if x_2 = 0 then (some ((-1), s_1)) else (nm_ (gR s_1 64 i0 22) fun (r_3 : Option Nat) => Option.bind r_3 fun i_4 => g_ ((0 : Int) ≤ x1 ∧ (x1 : Int) < 24) (if gI s_1 88 i_4 (Int.toNat (x1)) = 0 then (some ((-3), s_1)) else (nm_ (gR s_1 64 i0 15) fun (r_7 : Option Nat) => Option.bind r_7 fun i_8 => g_ ((0 : Int) ≤ x1 ∧ (x1 : Int) < 24) (nm_ (gI s_1 81 i_8 (Int.toNat (x1))) fun (x_11 : Int) => nm_ (gR s_1 64 i0 24) fun (r_12 : Option Nat) => Option.bind r_12 fun i_13 => g_ ((0 : Int) ≤ x1 ∧ (x1 : Int) < 24) (nm_ (gI s_1 90 i_13 (Int.toNat (x1))) fun (x_16 : Int) => fX11_mayBe_L39 i0 nf nf s_1 0 x_11 x_16)))))
set_option maxHeartbeats 4000000 in
set_option maxRecDepth 20000 in
theorem kX11_mayBe_L39 {K : zKx} (C : zC zw 5 K RX11 cX11_mayBe "mayBe" (some .int) 2 43 0 0)  (nf : Nat) (o0 : Nat) : ∀ (n : Nat) (s0 : zS) (x2 : Int) (x3 : Int) (x4 : Int), zJ zw 5 K (zQm zw eI 0 0 K) 0 0 39 [(0, .inr (64, some o0)), (2, .inl x2), (3, .inl x3), (4, .inl x4)] [] s0 (fX11_mayBe_L39 o0 nf n s0 x2 x3 x4) := by
  intro n
  induction n with
  | zero => intro s0 x2 x3 x4; exact J_none
  | succ n ih =>
    intro s0 x2 x3 x4
    rw [fX11_mayBe_L39]
    refine J_iload_n C 2 dX11_mayBe_39 rfl ?_
    refine J_if_eq C 107 dX11_mayBe_40 rfl (fun _ => ?_) (fun _ => ?_)
    · refine J_iload_n C 1 dX11_mayBe_107 rfl ?_
      exact J_iret C dX11_mayBe_108 (by decide) (by decide)
    · refine J_iload C 3 dX11_mayBe_43 rfl ?_
      refine J_aload_n C 0 dX11_mayBe_45 rfl ?_
      refine gf_64_3 C dX11_mayBe_46 q_847 ?_
      refine J_nmR fun r_17 => ?_
      refine J_iload_n C 2 dX11_mayBe_49 rfl ?_
      refine J_bind fun i_18 e_19 => ?_
      subst e_19
      refine J_g fun h_20 => ?_
      refine J_iald (t := 69) (N := 16) C (Nat.le_of_ble_eq_true rfl) rfl rfl h_20 dX11_mayBe_50 ?_
      refine J_iadd C dX11_mayBe_51 ?_
      refine J_nm fun x_21 => ?_
      refine J_istore (L' := [(0, .inr (64, some o0)), (2, .inl x2), (3, .inl x3), (4, .inl x_21)]) C dX11_mayBe_52 (Nat.le_of_ble_eq_true rfl) rfl ?_
      refine J_aload_n C 0 dX11_mayBe_54 rfl ?_
      refine gf_64_1 C dX11_mayBe_55 q_845 ?_
      refine J_nmR fun r_22 => ?_
      refine J_iload_n C 2 dX11_mayBe_58 rfl ?_
      refine J_bind fun i_23 e_24 => ?_
      subst e_24
      refine J_g fun h_25 => ?_
      refine J_iald (t := 67) (N := 16) C (Nat.le_of_ble_eq_true rfl) rfl rfl h_25 dX11_mayBe_59 ?_
      refine J_nm fun x_26 => ?_
      refine J_istore_n (L' := [(0, .inr (64, some o0)), (2, .inl x2), (3, .inl x_26), (4, .inl x_21)]) C dX11_mayBe_60 (Nat.le_of_ble_eq_true rfl) rfl ?_
      refine J_iload_n C 2 dX11_mayBe_61 rfl ?_
      refine J_join (fun j83 => ∀ (s_27 : zS) (y_28 : Int), zJ zw 5 K (zQm zw eI 0 0 K) 0 0 83 [(0, .inr (64, some o0)), (2, .inl x2), (3, .inl x_26), (4, .inl y_28)] [] s_27 (j83 s_27 y_28)) ?_ fun j83 hj83 => ?_
      · intro s_27 y_28
        refine J_iload C 3 dX11_mayBe_83 rfl ?_
        refine J_bipush C dX11_mayBe_85 (zi9 rfl rfl) (by decide) ?_
        refine J_ic_eq C 99 dX11_mayBe_87 rfl (fun _ => ?_) (fun _ => ?_)
        · refine J_iload_n C 1 dX11_mayBe_99 rfl ?_
          exact J_iret C dX11_mayBe_100 (by decide) (by decide)
        · refine J_iload C 3 dX11_mayBe_90 rfl ?_
          refine J_aload_n C 0 dX11_mayBe_92 rfl ?_
          refine gf_64_13 C dX11_mayBe_93 q_857 ?_
          refine J_ic_le C 101 dX11_mayBe_96 rfl (fun _ => ?_) (fun _ => ?_)
          · refine J_iinc C 1 dX11_mayBe_101 (zi9 rfl rfl) (Nat.le_of_ble_eq_true rfl) rfl fun x_29 => ?_
            refine J_goto C 39 dX11_mayBe_104 rfl ?_
            exact ih _ _ _ _
          · refine J_iload_n C 1 dX11_mayBe_99 rfl ?_
            exact J_iret C dX11_mayBe_100 (by decide) (by decide)
      · refine J_if_eq C 83 dX11_mayBe_62 rfl (fun _ => ?_) (fun _ => ?_)
        · exact hj83 _ _
        · refine J_aload_n C 0 dX11_mayBe_65 rfl ?_
          refine gf_64_10 C dX11_mayBe_66 q_854 ?_
          refine J_nmR fun r_30 => ?_
          refine J_iload_n C 2 dX11_mayBe_69 rfl ?_
          refine J_bind fun i_31 e_32 => ?_
          subst e_32
          refine J_g fun h_33 => ?_
          refine J_bald (t := 76) (N := 16) C (Nat.le_of_ble_eq_true rfl) rfl rfl h_33 dX11_mayBe_70 ?_
          refine J_if_ne C 83 dX11_mayBe_71 rfl (fun _ => ?_) (fun _ => ?_)
          · exact hj83 _ _
          · refine J_aload_n C 0 dX11_mayBe_74 rfl ?_
            refine J_iload_n C 2 dX11_mayBe_75 rfl ?_
            refine J_iload C 3 dX11_mayBe_76 rfl ?_
            refine J_callVI (S := []) (avs := [.inl x_26, .inl x_21]) C zx64 yw_131 rfl (kX11_rungBehind _ _ _ _ _) dX11_mayBe_78 rfl (Nat.le_of_ble_eq_true rfl) (by decide) fun x_35 s_34 => ?_
            refine J_istore (L' := [(0, .inr (64, some o0)), (2, .inl x2), (3, .inl x_26), (4, .inl x_35)]) C dX11_mayBe_81 (Nat.le_of_ble_eq_true rfl) rfl ?_
            exact hj83 _ _
set_option maxHeartbeats 4000000 in
set_option maxRecDepth 20000 in
theorem kX11_mayBe (nf : Nat) (s0 : zS) (i0 : Nat) (x1 : Int) : zCt zw yX11_mayBe cX11_mayBe 5 (some .int) 2 43 0 0 eI [.inr (64, some i0), .inl x1] s0 (fX11_mayBe nf s0 i0 x1) := by
  refine zCt_on (own := RX11) (nm := "mayBe") rfl rfl (by decide) (Nat.le_of_ble_eq_true rfl) fun K C => ?_
  show zJ zw 5 K _ 0 0 0 [(0, .inr (64, some i0)), (1, .inl x1)] [] s0 (fX11_mayBe nf s0 i0 x1)
  unfold fX11_mayBe
  refine J_aload_n C 0 dX11_mayBe_0 rfl ?_
  refine J_iload_n C 1 dX11_mayBe_1 rfl ?_
  refine J_callVI (S := []) (avs := [.inl x1]) C zx64 yw_92 rfl (kX11_isCup _ _ _) dX11_mayBe_2 rfl (Nat.le_of_ble_eq_true rfl) (by decide) fun x_2 s_1 => ?_
  refine J_if_ne C 10 dX11_mayBe_5 rfl (fun _ => ?_) (fun _ => ?_)
  · refine J_aload_n C 0 dX11_mayBe_10 rfl ?_
    refine gf_64_22 C dX11_mayBe_11 q_866 ?_
    refine J_nmR fun r_3 => ?_
    refine J_iload_n C 1 dX11_mayBe_14 rfl ?_
    refine J_bind fun i_4 e_5 => ?_
    subst e_5
    refine J_g fun h_6 => ?_
    refine J_iald (t := 88) (N := 24) C (Nat.le_of_ble_eq_true rfl) rfl rfl h_6 dX11_mayBe_15 ?_
    refine J_if_ne C 22 dX11_mayBe_16 rfl (fun _ => ?_) (fun _ => ?_)
    · refine J_iconst C dX11_mayBe_22 (zi9 rfl rfl) ?_
      refine J_istore_n (L' := [(0, .inr (64, some i0)), (1, .inl x1), (2, .inl 0)]) C dX11_mayBe_23 (Nat.le_of_ble_eq_true rfl) rfl ?_
      refine J_aload_n C 0 dX11_mayBe_24 rfl ?_
      refine gf_64_15 C dX11_mayBe_25 q_859 ?_
      refine J_nmR fun r_7 => ?_
      refine J_iload_n C 1 dX11_mayBe_28 rfl ?_
      refine J_bind fun i_8 e_9 => ?_
      subst e_9
      refine J_g fun h_10 => ?_
      refine J_iald (t := 81) (N := 24) C (Nat.le_of_ble_eq_true rfl) rfl rfl h_10 dX11_mayBe_29 ?_
      refine J_nm fun x_11 => ?_
      refine J_istore_n (L' := [(0, .inr (64, some i0)), (1, .inl x1), (2, .inl 0), (3, .inl x_11)]) C dX11_mayBe_30 (Nat.le_of_ble_eq_true rfl) rfl ?_
      refine J_aload_n C 0 dX11_mayBe_31 rfl ?_
      refine gf_64_24 C dX11_mayBe_32 q_868 ?_
      refine J_nmR fun r_12 => ?_
      refine J_iload_n C 1 dX11_mayBe_35 rfl ?_
      refine J_bind fun i_13 e_14 => ?_
      subst e_14
      refine J_g fun h_15 => ?_
      refine J_iald (t := 90) (N := 24) C (Nat.le_of_ble_eq_true rfl) rfl rfl h_15 dX11_mayBe_36 ?_
      refine J_nm fun x_16 => ?_
      refine J_istore (L' := [(0, .inr (64, some i0)), (1, .inl x1), (2, .inl 0), (3, .inl x_11), (4, .inl x_16)]) C dX11_mayBe_37 (Nat.le_of_ble_eq_true rfl) rfl ?_
      refine J_loc (L' := [(0, .inr (64, some i0)), (2, .inl 0), (3, .inl x_11), (4, .inl x_16)]) [0, 2, 3, 4] rfl ?_
      exact kX11_mayBe_L39 C _ _ _ _ _ _ _
    · refine J_bipush C dX11_mayBe_19 (zi9 rfl rfl) (by decide) ?_
      exact J_iret C dX11_mayBe_21 (by decide) (by decide)
  · refine J_iconst C dX11_mayBe_8 (zi9 rfl rfl) ?_
    exact J_iret C dX11_mayBe_9 (by decide) (by decide)
