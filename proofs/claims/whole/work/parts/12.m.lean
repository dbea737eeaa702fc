def fJ6_compare_7cf53 (s0 : zS) (x0 : Int) (x1 : Int) : Option (Int × zS) :=
  if x0 < x1 then (some ((-1), s0)) else (if x0 = x1 then (some (0, s0)) else (some (1, s0)))
set_option maxHeartbeats 4000000 in
set_option maxRecDepth 20000 in
theorem kJ6_compare_7cf53 (s0 : zS) (x0 : Int) (x1 : Int) : zCt zw yJ6_compare_7cf53 cJ6_compare_7cf53 2 (some .int) 0 0 0 0 eI [.inl x0, .inl x1] s0 (fJ6_compare_7cf53 s0 x0 x1) := by
  refine zCt_on (own := RJ6) (nm := "compare") rfl rfl (by decide) (Nat.le_of_ble_eq_true rfl) fun K C => ?_
  show zJ zw 2 K _ 0 0 0 [(0, .inl x0), (1, .inl x1)] [] s0 (fJ6_compare_7cf53 s0 x0 x1)
  unfold fJ6_compare_7cf53
  refine J_iload_n C 0 dJ6_compare_7cf53_0 rfl ?_
  refine J_iload_n C 1 dJ6_compare_7cf53_1 rfl ?_
  refine J_ic_ge C 9 dJ6_compare_7cf53_2 rfl (fun _ => ?_) (fun _ => ?_)
  · refine J_iload_n C 0 dJ6_compare_7cf53_9 rfl ?_
    refine J_iload_n C 1 dJ6_compare_7cf53_10 rfl ?_
    refine J_ic_ne C 18 dJ6_compare_7cf53_11 rfl (fun _ => ?_) (fun _ => ?_)
    · refine J_iconst C dJ6_compare_7cf53_18 (zi9 rfl rfl) ?_
      exact J_iret C dJ6_compare_7cf53_19 (by decide) (by decide)
    · refine J_iconst C dJ6_compare_7cf53_14 (zi9 rfl rfl) ?_
      refine J_goto C 19 dJ6_compare_7cf53_15 rfl ?_
      exact J_iret C dJ6_compare_7cf53_19 (by decide) (by decide)
  · refine J_iconst C dJ6_compare_7cf53_5 (zi9 rfl rfl) ?_
    refine J_goto C 19 dJ6_compare_7cf53_6 rfl ?_
    exact J_iret C dJ6_compare_7cf53_19 (by decide) (by decide)
def fX4_sentTick (s0 : zS) (i0 : Nat) : Option (Int × zS) :=
  if gI s0 5 i0 12 = 0 then (some (0, s0)) else (some (gI s0 5 i0 14, s0))
set_option maxHeartbeats 4000000 in
set_option maxRecDepth 20000 in
theorem kX4_sentTick (s0 : zS) (i0 : Nat) : zCt zw yX4_sentTick cX4_sentTick 1 (some .int) 0 0 0 0 eI [.inr (5, some i0)] s0 (fX4_sentTick s0 i0) := by
  refine zCt_on (own := RX4) (nm := "sentTick") rfl rfl (by decide) (Nat.le_of_ble_eq_true rfl) fun K C => ?_
  show zJ zw 1 K _ 0 0 0 [(0, .inr (5, some i0))] [] s0 (fX4_sentTick s0 i0)
  unfold fX4_sentTick
  refine J_aload_n C 0 dX4_sentTick_0 rfl ?_
  refine gf_5_12 C dX4_sentTick_1 q_378 ?_
  refine J_if_ne C 11 dX4_sentTick_4 rfl (fun _ => ?_) (fun _ => ?_)
  · refine J_aload_n C 0 dX4_sentTick_11 rfl ?_
    refine gf_5_14 C dX4_sentTick_12 q_381 ?_
    exact J_iret C dX4_sentTick_15 (by decide) (by decide)
  · refine J_iconst C dX4_sentTick_7 (zi9 rfl rfl) ?_
    refine J_goto C 15 dX4_sentTick_8 rfl ?_
    exact J_iret C dX4_sentTick_15 (by decide) (by decide)
def fX4_isAhead (s0 : zS) (i0 : Nat) (r1 : Option Nat) (x2 : Int) : Option (Int × zS) :=
  nm_ (fun (s_1 : zS) (y_2 : Int) => if y_2 = 0 then (Option.bind r1 fun i_3 => if gI s_1 5 i0 0 < gI s_1 5 i_3 0 then (some (1, s_1)) else (some (0, s_1))) else (if y_2 < 0 then (some (1, s_1)) else (some (0, s_1)))) fun (j101 : zS → Int → Option (Int × zS)) => if x2 = 0 then (Option.bind r1 fun i_6 => cl_ (fJ6_compare_7cf53 s0 (gI s0 5 i0 10) (gI s0 5 i_6 10)) fun (x_9 : Int) (s_8 : zS) => j101 s_8 x_9) else (if x2 = 1 then (cl_ (fX4_sentTick s0 i0) fun (x_12 : Int) (s_11 : zS) => Option.bind r1 fun i_13 => cl_ (fX4_sentTick s_11 i_13) fun (x_16 : Int) (s_15 : zS) => cl_ (fJ6_compare_7cf53 s_15 x_12 x_16) fun (x_18 : Int) (s_17 : zS) => j101 s_17 x_18) else (if x2 = 2 then (nm_ (gR s0 5 i0 1) fun (r_20 : Option Nat) => Option.bind r_20 fun i_21 => Option.bind r1 fun i_23 => nm_ (gR s0 5 i_23 1) fun (r_25 : Option Nat) => Option.bind r_25 fun i_26 => cl_ (fJ6_compare_7cf53 s0 (gI s0 8 i_21 0) (gI s0 8 i_26 0)) fun (x_29 : Int) (s_28 : zS) => nm_ (fun (s_30 : zS) (u_31 : Int) => j101 s_30 u_31) fun (j95 : zS → Int → Option (Int × zS)) => if x_29 = 0 then (cl_ (fJ6_compare_7cf53 s_28 (gI s_28 5 i0 10) (gI s_28 5 i_23 10)) fun (x_33 : Int) (s_32 : zS) => j95 s_32 x_33) else (j95 s_28 x_29)) else (j101 s0 0)))
set_option maxHeartbeats 4000000 in
set_option maxRecDepth 20000 in
theorem kX4_isAhead (s0 : zS) (i0 : Nat) (r1 : Option Nat) (x2 : Int) : zCt zw yX4_isAhead cX4_isAhead 4 (some .boolean) 1 21 0 0 eI [.inr (5, some i0), .inr (5, r1), .inl x2] s0 (fX4_isAhead s0 i0 r1 x2) := by
  refine zCt_on (own := RX4) (nm := "isAhead") rfl rfl (by decide) (Nat.le_of_ble_eq_true rfl) fun K C => ?_
  show zJ zw 4 K _ 0 0 0 [(0, .inr (5, some i0)), (1, .inr (5, r1)), (2, .inl x2)] [] s0 (fX4_isAhead s0 i0 r1 x2)
  unfold fX4_isAhead
  refine J_iload_n C 2 dX4_isAhead_0 rfl ?_
  refine J_join (fun j101 => ∀ (s_1 : zS) (y_2 : Int), zJ zw 4 K (zQm zw eI 0 0 K) 0 0 101 [(0, .inr (5, some i0)), (1, .inr (5, r1)), (3, .inl y_2)] [] s_1 (j101 s_1 y_2)) ?_ fun j101 hj101 => ?_
  · intro s_1 y_2
    refine J_iload_n C 2 dX4_isAhead_101 rfl ?_
    refine J_if_ne C 124 dX4_isAhead_102 rfl (fun _ => ?_) (fun _ => ?_)
    · refine J_iload_n C 2 dX4_isAhead_124 rfl ?_
      refine J_if_ge C 132 dX4_isAhead_125 rfl (fun _ => ?_) (fun _ => ?_)
      · refine J_iconst C dX4_isAhead_132 (zi9 rfl rfl) ?_
        exact J_zret C (by decide) dX4_isAhead_133 (by decide) (by decide)
      · refine J_iconst C dX4_isAhead_128 (zi9 rfl rfl) ?_
        refine J_goto C 133 dX4_isAhead_129 rfl ?_
        exact J_zret C (by decide) dX4_isAhead_133 (by decide) (by decide)
    · refine J_aload_n C 0 dX4_isAhead_105 rfl ?_
      refine gf_5_0 C dX4_isAhead_106 q_353 ?_
      refine J_aload_n C 1 dX4_isAhead_109 rfl ?_
      refine J_bind fun i_3 e_4 => ?_
      subst e_4
      refine gf_5_0 C dX4_isAhead_110 q_353 ?_
      refine J_ic_ge C 120 dX4_isAhead_113 rfl (fun _ => ?_) (fun _ => ?_)
      · refine J_iconst C dX4_isAhead_120 (zi9 rfl rfl) ?_
        refine J_goto C 133 dX4_isAhead_121 rfl ?_
        exact J_zret C (by decide) dX4_isAhead_133 (by decide) (by decide)
      · refine J_iconst C dX4_isAhead_116 (zi9 rfl rfl) ?_
        refine J_goto C 133 dX4_isAhead_117 rfl ?_
        exact J_zret C (by decide) dX4_isAhead_133 (by decide) (by decide)
  · refine J_if (fun h_5 => ?_) (fun h_5 => ?_)
    · refine J_swIn C 28 dX4_isAhead_1 (by omega) (by omega) (by rw [h_5]; rfl) rfl ?_
      refine J_aload_n C 0 dX4_isAhead_28 rfl ?_
      refine gf_5_10 C dX4_isAhead_29 q_373 ?_
      refine J_aload_n C 1 dX4_isAhead_32 rfl ?_
      refine J_bind fun i_6 e_7 => ?_
      subst e_7
      refine gf_5_10 C dX4_isAhead_33 q_373 ?_
      refine J_callSI (S := []) (avs := [.inl (gI s0 5 i0 10), .inl (gI s0 5 i_6 10)]) C yw_48 (kJ6_compare_7cf53 _ _ _) dX4_isAhead_36 rfl (Nat.le_of_ble_eq_true rfl) (by decide) fun x_9 s_8 => ?_
      refine J_istore_n (L' := [(0, .inr (5, some i0)), (1, .inr (5, some i_6)), (2, .inl x2), (3, .inl x_9)]) C dX4_isAhead_39 (Nat.le_of_ble_eq_true rfl) rfl ?_
      refine J_goto C 101 dX4_isAhead_40 rfl ?_
      refine J_loc (L' := [(0, .inr (5, some i0)), (1, .inr (5, some i_6)), (3, .inl x_9)]) [0, 1, 3] rfl ?_
      exact hj101 _ _
    · refine J_if (fun h_10 => ?_) (fun h_10 => ?_)
      · refine J_swIn C 43 dX4_isAhead_1 (by omega) (by omega) (by rw [h_10]; rfl) rfl ?_
        refine J_aload_n C 0 dX4_isAhead_43 rfl ?_
        refine J_callVI (S := []) (avs := []) C zx5 yw_49 rfl (kX4_sentTick _ _) dX4_isAhead_44 rfl (Nat.le_of_ble_eq_true rfl) (by decide) fun x_12 s_11 => ?_
        refine J_aload_n C 1 dX4_isAhead_47 rfl ?_
        refine J_bind fun i_13 e_14 => ?_
        subst e_14
        refine J_callVI (S := [.inl x_12]) (avs := []) C zx5 yw_49 rfl (kX4_sentTick _ _) dX4_isAhead_48 rfl (Nat.le_of_ble_eq_true rfl) (by decide) fun x_16 s_15 => ?_
        refine J_callSI (S := []) (avs := [.inl x_12, .inl x_16]) C yw_48 (kJ6_compare_7cf53 _ _ _) dX4_isAhead_51 rfl (Nat.le_of_ble_eq_true rfl) (by decide) fun x_18 s_17 => ?_
        refine J_istore_n (L' := [(0, .inr (5, some i0)), (1, .inr (5, some i_13)), (2, .inl x2), (3, .inl x_18)]) C dX4_isAhead_54 (Nat.le_of_ble_eq_true rfl) rfl ?_
        refine J_goto C 101 dX4_isAhead_55 rfl ?_
        refine J_loc (L' := [(0, .inr (5, some i0)), (1, .inr (5, some i_13)), (3, .inl x_18)]) [0, 1, 3] rfl ?_
        exact hj101 _ _
      · refine J_if (fun h_19 => ?_) (fun h_19 => ?_)
        · refine J_swIn C 58 dX4_isAhead_1 (by omega) (by omega) (by rw [h_19]; rfl) rfl ?_
          refine J_aload_n C 0 dX4_isAhead_58 rfl ?_
          refine gf_5_1 C dX4_isAhead_59 q_355 ?_
          refine J_nmR fun r_20 => ?_
          refine J_bind fun i_21 e_22 => ?_
          subst e_22
          refine gf_8_0 C dX4_isAhead_62 q_195 ?_
          refine J_aload_n C 1 dX4_isAhead_65 rfl ?_
          refine J_bind fun i_23 e_24 => ?_
          subst e_24
          refine gf_5_1 C dX4_isAhead_66 q_355 ?_
          refine J_nmR fun r_25 => ?_
          refine J_bind fun i_26 e_27 => ?_
          subst e_27
          refine gf_8_0 C dX4_isAhead_69 q_195 ?_
          refine J_callSI (S := []) (avs := [.inl (gI s0 8 i_21 0), .inl (gI s0 8 i_26 0)]) C yw_48 (kJ6_compare_7cf53 _ _ _) dX4_isAhead_72 rfl (Nat.le_of_ble_eq_true rfl) (by decide) fun x_29 s_28 => ?_
          refine J_istore_n (L' := [(0, .inr (5, some i0)), (1, .inr (5, some i_23)), (2, .inl x2), (3, .inl x_29)]) C dX4_isAhead_75 (Nat.le_of_ble_eq_true rfl) rfl ?_
          refine J_iload_n C 3 dX4_isAhead_76 rfl ?_
          refine J_join (fun j95 => ∀ (s_30 : zS) (u_31 : Int), zJ zw 4 K (zQm zw eI 0 0 K) 0 0 95 [(0, .inr (5, some i0)), (1, .inr (5, some i_23))] [.inl u_31] s_30 (j95 s_30 u_31)) ?_ fun j95 hj95 => ?_
          · intro s_30 u_31
            refine J_istore_n (L' := [(0, .inr (5, some i0)), (1, .inr (5, some i_23)), (3, .inl u_31)]) C dX4_isAhead_95 (Nat.le_of_ble_eq_true rfl) rfl ?_
            refine J_goto C 101 dX4_isAhead_96 rfl ?_
            exact hj101 _ _
          · refine J_if_ne C 94 dX4_isAhead_77 rfl (fun _ => ?_) (fun _ => ?_)
            · refine J_iload_n C 3 dX4_isAhead_94 rfl ?_
              refine J_loc (L' := [(0, .inr (5, some i0)), (1, .inr (5, some i_23))]) [0, 1] rfl ?_
              exact hj95 _ _
            · refine J_aload_n C 0 dX4_isAhead_80 rfl ?_
              refine gf_5_10 C dX4_isAhead_81 q_373 ?_
              refine J_aload_n C 1 dX4_isAhead_84 rfl ?_
              refine gf_5_10 C dX4_isAhead_85 q_373 ?_
              refine J_callSI (S := []) (avs := [.inl (gI s_28 5 i0 10), .inl (gI s_28 5 i_23 10)]) C yw_48 (kJ6_compare_7cf53 _ _ _) dX4_isAhead_88 rfl (Nat.le_of_ble_eq_true rfl) (by decide) fun x_33 s_32 => ?_
              refine J_goto C 95 dX4_isAhead_91 rfl ?_
              refine J_loc (L' := [(0, .inr (5, some i0)), (1, .inr (5, some i_23))]) [0, 1] rfl ?_
              exact hj95 _ _
        · refine J_swOut C 99 dX4_isAhead_1 (by omega) rfl ?_
          refine J_iconst C dX4_isAhead_99 (zi9 rfl rfl) ?_
          refine J_istore_n (L' := [(0, .inr (5, some i0)), (1, .inr (5, r1)), (2, .inl x2), (3, .inl 0)]) C dX4_isAhead_100 (Nat.le_of_ble_eq_true rfl) rfl ?_
          refine J_loc (L' := [(0, .inr (5, some i0)), (1, .inr (5, r1)), (3, .inl 0)]) [0, 1, 3] rfl ?_
          exact hj101 _ _
def fX10_nextOfRow_L4 (o0 : Nat) : Nat → zS → Option Nat → Int → Option (Option Nat × zS)
  | 0, _, _, _ => none
  | n + 1, s0, r1, x2 =>
    if x2 < gI s0 0 o0 11 then (nm_ (gR s0 0 o0 1) fun (r_1 : Option Nat) => Option.bind r_1 fun i_2 => g_ ((0 : Int) ≤ x2 ∧ (x2 : Int) < 24) (nm_ (gR s0 12 i_2 (Int.toNat (x2))) fun (r_5 : Option Nat) => Option.bind r_5 fun i_6 => nm_ (fun (s_8 : zS) (w_9 : Option Nat) => nm_ (wr (x2 + 1)) fun (x_10 : Int) => fX10_nextOfRow_L4 o0 n s_8 w_9 x_10) fun (j45 : zS → Option Nat → Option (Option Nat × zS)) => if gI s0 5 i_6 3 = 3 then (nm_ (fun (s_11 : zS) => j45 s_11 (some i_6)) fun (j43 : zS → Option (Option Nat × zS)) => Option.elim r1 (j43 s0) fun i_12 => cl_ (fX4_isAhead s0 i_6 (some i_12) (gI s0 0 o0 14)) fun (x_15 : Int) (s_14 : zS) => if x_15 = 0 then (j45 s_14 (some i_12)) else (j43 s_14)) else (j45 s0 r1))) else (some (r1, s0))
def fX10_nextOfRow (nf : Nat) (s0 : zS) (i0 : Nat) : Option (Option Nat × zS) :=
  fX10_nextOfRow_L4 i0 nf s0 none 0
set_option maxHeartbeats 4000000 in
set_option maxRecDepth 20000 in
theorem kX10_nextOfRow_L4 {K : zKx} (C : zC zw 4 K RX10 cX10_nextOfRow "nextOfRow" (some (.object "FlyingChange$Cup")) 2 44 0 0)  (o0 : Nat) : ∀ (n : Nat) (s0 : zS) (r1 : Option Nat) (x2 : Int), zJ zw 4 K (zQm zw (eR 5) 0 0 K) 0 0 4 [(0, .inr (0, some o0)), (1, .inr (5, r1)), (2, .inl x2)] [] s0 (fX10_nextOfRow_L4 o0 n s0 r1 x2) := by
  intro n
  induction n with
  | zero => intro s0 r1 x2; exact J_none
  | succ n ih =>
    intro s0 r1 x2
    rw [fX10_nextOfRow_L4]
    refine J_iload_n C 2 dX10_nextOfRow_4 rfl ?_
    refine J_aload_n C 0 dX10_nextOfRow_5 rfl ?_
    refine gf_0_11 C dX10_nextOfRow_6 q_267 ?_
    refine J_ic_ge C 51 dX10_nextOfRow_9 rfl (fun _ => ?_) (fun _ => ?_)
    · refine J_aload_n C 1 dX10_nextOfRow_51 rfl ?_
      exact J_aret C rfl dX10_nextOfRow_52 (by decide) (by decide)
    · refine J_aload_n C 0 dX10_nextOfRow_12 rfl ?_
      refine gf_0_1 C dX10_nextOfRow_13 q_257 ?_
      refine J_nmR fun r_1 => ?_
      refine J_iload_n C 2 dX10_nextOfRow_16 rfl ?_
      refine J_bind fun i_2 e_3 => ?_
      subst e_3
      refine J_g fun h_4 => ?_
      refine J_aald (t := 12) (N := 24) (u := 5) (a := 3) C (Nat.le_of_ble_eq_true rfl) rfl rfl (fun _ => rfl) h_4 dX10_nextOfRow_17 ?_
      refine J_nmR fun r_5 => ?_
      refine J_astore_n (L' := [(0, .inr (0, some o0)), (1, .inr (5, r1)), (2, .inl x2), (3, .inr (5, r_5))]) C dX10_nextOfRow_18 (Nat.le_of_ble_eq_true rfl) rfl ?_
      refine J_aload_n C 3 dX10_nextOfRow_19 rfl ?_
      refine J_bind fun i_6 e_7 => ?_
      subst e_7
      refine gf_5_3 C dX10_nextOfRow_20 q_360 ?_
      refine J_iconst C dX10_nextOfRow_23 (zi9 rfl rfl) ?_
      refine J_join (fun j45 => ∀ (s_8 : zS) (w_9 : Option Nat), zJ zw 4 K (zQm zw (eR 5) 0 0 K) 0 0 45 [(0, .inr (0, some o0)), (1, .inr (5, w_9)), (2, .inl x2)] [] s_8 (j45 s_8 w_9)) ?_ fun j45 hj45 => ?_
      · intro s_8 w_9
        refine J_iinc C 2 dX10_nextOfRow_45 (zi9 rfl rfl) (Nat.le_of_ble_eq_true rfl) rfl fun x_10 => ?_
        refine J_goto C 4 dX10_nextOfRow_48 rfl ?_
        exact ih _ _ _
      · refine J_ic_ne C 45 dX10_nextOfRow_24 rfl (fun _ => ?_) (fun _ => ?_)
        · refine J_loc (L' := [(0, .inr (0, some o0)), (1, .inr (5, r1)), (2, .inl x2)]) [0, 1, 2] rfl ?_
          exact hj45 _ _
        · refine J_aload_n C 1 dX10_nextOfRow_27 rfl ?_
          refine J_join (fun j43 => ∀ (s_11 : zS), zJ zw 4 K (zQm zw (eR 5) 0 0 K) 0 0 43 [(0, .inr (0, some o0)), (2, .inl x2), (3, .inr (5, some i_6))] [] s_11 (j43 s_11)) ?_ fun j43 hj43 => ?_
          · intro s_11
            refine J_aload_n C 2 dX10_nextOfRow_43 rfl ?_
            refine J_astore_n (L' := [(0, .inr (0, some o0)), (1, .inr (5, some i_6)), (2, .inl x2), (3, .inr (5, some i_6))]) C dX10_nextOfRow_44 (Nat.le_of_ble_eq_true rfl) rfl ?_
            refine J_loc (L' := [(0, .inr (0, some o0)), (1, .inr (5, some i_6)), (2, .inl x2)]) [0, 1, 2] rfl ?_
            exact hj45 _ _
          · refine J_elim (fun e_13 => ?_) (fun i_12 e_13 => ?_)
            · subst e_13
              refine J_null_n C 43 dX10_nextOfRow_28 rfl ?_
              refine J_loc (L' := [(0, .inr (0, some o0)), (2, .inl x2), (3, .inr (5, some i_6))]) [0, 2, 3] rfl ?_
              exact hj43 _
            · subst e_13
              refine J_null_s C dX10_nextOfRow_28 ?_
              refine J_aload_n C 3 dX10_nextOfRow_31 rfl ?_
              refine J_aload_n C 1 dX10_nextOfRow_32 rfl ?_
              refine J_aload_n C 0 dX10_nextOfRow_33 rfl ?_
              refine gf_0_14 C dX10_nextOfRow_34 q_270 ?_
              refine J_callVI (S := []) (avs := [.inr (5, some i_12), .inl (gI s0 0 o0 14)]) C zx5 yw_50 rfl (kX4_isAhead _ _ _ _) dX10_nextOfRow_37 rfl (Nat.le_of_ble_eq_true rfl) (by decide) fun x_15 s_14 => ?_
              refine J_if_eq C 45 dX10_nextOfRow_40 rfl (fun _ => ?_) (fun _ => ?_)
              · refine J_loc (L' := [(0, .inr (0, some o0)), (1, .inr (5, some i_12)), (2, .inl x2)]) [0, 1, 2] rfl ?_
                exact hj45 _ _
              · refine J_loc (L' := [(0, .inr (0, some o0)), (2, .inl x2), (3, .inr (5, some i_6))]) [0, 2, 3] rfl ?_
                exact hj43 _
set_option maxHeartbeats 4000000 in
set_option maxRecDepth 20000 in
theorem kX10_nextOfRow (nf : Nat) (s0 : zS) (i0 : Nat) : zCt zw yX10_nextOfRow cX10_nextOfRow 4 (some (.object "FlyingChange$Cup")) 2 44 0 0 (eR 5) [.inr (0, some i0)] s0 (fX10_nextOfRow nf s0 i0) := by
  refine zCt_on (own := RX10) (nm := "nextOfRow") rfl rfl (by decide) (Nat.le_of_ble_eq_true rfl) fun K C => ?_
  show zJ zw 4 K _ 0 0 0 [(0, .inr (0, some i0))] [] s0 (fX10_nextOfRow nf s0 i0)
  unfold fX10_nextOfRow
  refine J_null 5 C dX10_nextOfRow_0 ?_
  refine J_astore_n (L' := [(0, .inr (0, some i0)), (1, .inr (5, none))]) C dX10_nextOfRow_1 (Nat.le_of_ble_eq_true rfl) rfl ?_
  refine J_iconst C dX10_nextOfRow_2 (zi9 rfl rfl) ?_
  refine J_istore_n (L' := [(0, .inr (0, some i0)), (1, .inr (5, none)), (2, .inl 0)]) C dX10_nextOfRow_3 (Nat.le_of_ble_eq_true rfl) rfl ?_
  exact kX10_nextOfRow_L4 C _ _ _ _ _
def fX10_takeFromRow_L2 (o0 : Nat) (nf : Nat) : Nat → zS → Int → Option (Unit × zS)
  | 0, _, _ => none
  | n + 1, s0, x1 =>
    if x1 < gI s0 0 o0 12 then (nm_ (gR s0 0 o0 2) fun (r_1 : Option Nat) => Option.bind r_1 fun i_2 => g_ ((0 : Int) ≤ x1 ∧ (x1 : Int) < 4) (nm_ (gR s0 13 i_2 (Int.toNat (x1))) fun (r_5 : Option Nat) => Option.bind r_5 fun i_6 => nm_ (gR s0 3 i_6 2) fun (r_8 : Option Nat) => nm_ (fun (s_9 : zS) => nm_ (wr (x1 + 1)) fun (x_10 : Int) => fX10_takeFromRow_L2 o0 nf n s_9 x_10) fun (j57 : zS → Option (Unit × zS)) => Option.elim r_8 (cl_ (fX10_nextOfRow nf s0 o0) fun (r_12 : Option Nat) (s_11 : zS) => Option.elim r_12 (some ((), s_11)) fun i_13 => cl_ (fX4_leaveFor s_11 i_13 4) fun (_ : Unit) (s_15 : zS) => up_ (sR s_15 5 i_13 8 (some i_6)) fun (s_16 : zS) => up_ (sR s_16 3 i_6 2 (some i_13)) fun (s_17 : zS) => up_ (sI s_17 3 i_6 3 (gI s_17 3 i_6 1)) fun (s_18 : zS) => j57 s_18) fun i_19 => j57 s0)) else (some ((), s0))
def fX10_takeFromRow (nf : Nat) (s0 : zS) (i0 : Nat) : Option (Unit × zS) :=
  fX10_takeFromRow_L2 i0 nf nf s0 0
set_option maxHeartbeats 4000000 in
set_option maxRecDepth 20000 in
theorem kX10_takeFromRow_L2 {K : zKx} (C : zC zw 4 K RX10 cX10_takeFromRow "takeFromRow" none 3 67 0 0)  (nf : Nat) (o0 : Nat) : ∀ (n : Nat) (s0 : zS) (x1 : Int), zJ zw 4 K (zQm zw eV 0 0 K) 0 0 2 [(0, .inr (0, some o0)), (1, .inl x1)] [] s0 (fX10_takeFromRow_L2 o0 nf n s0 x1) := by
  intro n
  induction n with
  | zero => intro s0 x1; exact J_none
  | succ n ih =>
    intro s0 x1
    rw [fX10_takeFromRow_L2]
    refine J_iload_n C 1 dX10_takeFromRow_2 rfl ?_
    refine J_aload_n C 0 dX10_takeFromRow_3 rfl ?_
    refine gf_0_12 C dX10_takeFromRow_4 q_268 ?_
    refine J_ic_ge C 63 dX10_takeFromRow_7 rfl (fun _ => ?_) (fun _ => ?_)
    · exact J_vret C dX10_takeFromRow_63 (by decide) (by decide)
    · refine J_aload_n C 0 dX10_takeFromRow_10 rfl ?_
      refine gf_0_2 C dX10_takeFromRow_11 q_258 ?_
      refine J_nmR fun r_1 => ?_
      refine J_iload_n C 1 dX10_takeFromRow_14 rfl ?_
      refine J_bind fun i_2 e_3 => ?_
      subst e_3
      refine J_g fun h_4 => ?_
      refine J_aald (t := 13) (N := 4) (u := 3) (a := 4) C (Nat.le_of_ble_eq_true rfl) rfl rfl (fun _ => rfl) h_4 dX10_takeFromRow_15 ?_
      refine J_nmR fun r_5 => ?_
      refine J_astore_n (L' := [(0, .inr (0, some o0)), (1, .inl x1), (2, .inr (3, r_5))]) C dX10_takeFromRow_16 (Nat.le_of_ble_eq_true rfl) rfl ?_
      refine J_aload_n C 2 dX10_takeFromRow_17 rfl ?_
      refine J_bind fun i_6 e_7 => ?_
      subst e_7
      refine gf_3_2 C dX10_takeFromRow_18 q_428 ?_
      refine J_nmR fun r_8 => ?_
      refine J_join (fun j57 => ∀ (s_9 : zS), zJ zw 4 K (zQm zw eV 0 0 K) 0 0 57 [(0, .inr (0, some o0)), (1, .inl x1)] [] s_9 (j57 s_9)) ?_ fun j57 hj57 => ?_
      · intro s_9
        refine J_iinc C 1 dX10_takeFromRow_57 (zi9 rfl rfl) (Nat.le_of_ble_eq_true rfl) rfl fun x_10 => ?_
        refine J_goto C 2 dX10_takeFromRow_60 rfl ?_
        exact ih _ _
      · refine J_elim (fun e_20 => ?_) (fun i_19 e_20 => ?_)
        · subst e_20
          refine J_nonnull_n C dX10_takeFromRow_21 ?_
          refine J_aload_n C 0 dX10_takeFromRow_24 rfl ?_
          refine J_callVR (S := []) (avs := []) C zx0 yw_51 rfl (kX10_nextOfRow _ _ _) dX10_takeFromRow_25 rfl (Nat.le_of_ble_eq_true rfl) (by decide) fun r_12 s_11 => ?_
          refine J_astore_n (L' := [(0, .inr (0, some o0)), (1, .inl x1), (2, .inr (3, some i_6)), (3, .inr (5, r_12))]) C dX10_takeFromRow_28 (Nat.le_of_ble_eq_true rfl) rfl ?_
          refine J_aload_n C 3 dX10_takeFromRow_29 rfl ?_
          refine J_elim (fun e_14 => ?_) (fun i_13 e_14 => ?_)
          · subst e_14
            refine J_nonnull_n C dX10_takeFromRow_30 ?_
            exact J_vret C dX10_takeFromRow_33 (by decide) (by decide)
          · subst e_14
            refine J_nonnull_s C 34 dX10_takeFromRow_30 rfl ?_
            refine J_aload_n C 3 dX10_takeFromRow_34 rfl ?_
            refine J_iconst C dX10_takeFromRow_35 (zi9 rfl rfl) ?_
            refine J_callVV (S := []) (avs := [.inl 4]) C zx5 yw_20 rfl (kX4_leaveFor _ _ _) dX10_takeFromRow_36 rfl (Nat.le_of_ble_eq_true rfl) (by decide) fun _ s_15 => ?_
            refine J_aload_n C 3 dX10_takeFromRow_39 rfl ?_
            refine J_aload_n C 2 dX10_takeFromRow_40 rfl ?_
            refine pf_5_8 C dX10_takeFromRow_41 q_370 fun s_16 => ?_
            refine J_aload_n C 2 dX10_takeFromRow_44 rfl ?_
            refine J_aload_n C 3 dX10_takeFromRow_45 rfl ?_
            refine pf_3_2 C dX10_takeFromRow_46 q_428 fun s_17 => ?_
            refine J_aload_n C 2 dX10_takeFromRow_49 rfl ?_
            refine J_aload_n C 2 dX10_takeFromRow_50 rfl ?_
            refine gf_3_1 C dX10_takeFromRow_51 q_427 ?_
            refine pf_3_3 C dX10_takeFromRow_54 q_430 fun s_18 => ?_
            refine J_loc (L' := [(0, .inr (0, some o0)), (1, .inl x1)]) [0, 1] rfl ?_
            exact hj57 _
        · subst e_20
          refine J_nonnull_s C 57 dX10_takeFromRow_21 rfl ?_
          refine J_loc (L' := [(0, .inr (0, some o0)), (1, .inl x1)]) [0, 1] rfl ?_
          exact hj57 _
set_option maxHeartbeats 4000000 in
set_option maxRecDepth 20000 in
theorem kX10_takeFromRow (nf : Nat) (s0 : zS) (i0 : Nat) : zCt zw yX10_takeFromRow cX10_takeFromRow 4 none 3 67 0 0 eV [.inr (0, some i0)] s0 (fX10_takeFromRow nf s0 i0) := by
  refine zCt_on (own := RX10) (nm := "takeFromRow") rfl rfl (by decide) (Nat.le_of_ble_eq_true rfl) fun K C => ?_
  show zJ zw 4 K _ 0 0 0 [(0, .inr (0, some i0))] [] s0 (fX10_takeFromRow nf s0 i0)
  unfold fX10_takeFromRow
  refine J_iconst C dX10_takeFromRow_0 (zi9 rfl rfl) ?_
  refine J_istore_n (L' := [(0, .inr (0, some i0)), (1, .inl 0)]) C dX10_takeFromRow_1 (Nat.le_of_ble_eq_true rfl) rfl ?_
  exact kX10_takeFromRow_L2 C _ _ _ _ _
def fX9_clear (s0 : zS) (i0 : Nat) : Option (Unit × zS) :=
  up_ (sI s0 10 i0 1 0) fun (s_1 : zS) => up_ (sI s_1 10 i0 2 1000) fun (s_2 : zS) => up_ (sR s_2 10 i0 3 none) fun (s_3 : zS) => up_ (sI s_3 10 i0 4 0) fun (s_4 : zS) => some ((), s_4)
set_option maxHeartbeats 4000000 in
set_option maxRecDepth 20000 in
theorem kX9_clear (s0 : zS) (i0 : Nat) : zCt zw yX9_clear cX9_clear 1 none 0 0 0 0 eV [.inr (10, some i0)] s0 (fX9_clear s0 i0) := by
  refine zCt_on (own := RX9) (nm := "clear") rfl rfl (by decide) (Nat.le_of_ble_eq_true rfl) fun K C => ?_
  show zJ zw 1 K _ 0 0 0 [(0, .inr (10, some i0))] [] s0 (fX9_clear s0 i0)
  unfold fX9_clear
  refine J_aload_n C 0 dX9_clear_0 rfl ?_
  refine J_iconst C dX9_clear_1 (zi9 rfl rfl) ?_
  refine pf_10_1 C dX9_clear_2 q_148 fun s_1 => ?_
  refine J_aload_n C 0 dX9_clear_5 rfl ?_
  refine J_sipush C dX9_clear_6 (zi9 rfl rfl) (by decide) ?_
  refine pf_10_2 C dX9_clear_9 q_150 fun s_2 => ?_
  refine J_aload_n C 0 dX9_clear_12 rfl ?_
  refine J_null 5 C dX9_clear_13 ?_
  refine pf_10_3 C dX9_clear_14 q_152 fun s_3 => ?_
  refine J_aload_n C 0 dX9_clear_17 rfl ?_
  refine J_iconst C dX9_clear_18 (zi9 rfl rfl) ?_
  refine pf_10_4 C dX9_clear_19 q_154 fun s_4 => ?_
  exact J_vret C dX9_clear_22 (by decide) (by decide)
def fX9_carry (s0 : zS) (i0 : Nat) (x1 : Int) : Option (Unit × zS) :=
  up_ (sI s0 10 i0 1 (wr ((gI s0 10 i0 1) + 1))) fun (s_1 : zS) => up_ (sI s_1 10 i0 2 (imin (gI s_1 10 i0 2) x1)) fun (s_2 : zS) => some ((), s_2)
set_option maxHeartbeats 4000000 in
set_option maxRecDepth 20000 in
theorem kX9_carry (s0 : zS) (i0 : Nat) (x1 : Int) : zCt zw yX9_carry cX9_carry 2 none 1 14 0 0 eV [.inr (10, some i0), .inl x1] s0 (fX9_carry s0 i0 x1) := by
  refine zCt_on (own := RX9) (nm := "carry") rfl rfl (by decide) (Nat.le_of_ble_eq_true rfl) fun K C => ?_
  show zJ zw 2 K _ 0 0 0 [(0, .inr (10, some i0)), (1, .inl x1)] [] s0 (fX9_carry s0 i0 x1)
  unfold fX9_carry
  refine J_aload_n C 0 dX9_carry_0 rfl ?_
  refine J_dup C dX9_carry_1 ?_
  refine gf_10_1 C dX9_carry_2 q_148 ?_
  refine J_iconst C dX9_carry_5 (zi9 rfl rfl) ?_
  refine J_iadd C dX9_carry_6 ?_
  refine pf_10_1 C dX9_carry_7 q_148 fun s_1 => ?_
  refine J_aload_n C 0 dX9_carry_10 rfl ?_
  refine J_aload_n C 0 dX9_carry_11 rfl ?_
  refine gf_10_2 C dX9_carry_12 q_150 ?_
  refine J_iload_n C 1 dX9_carry_15 rfl ?_
  refine J_mmin (S := [.inr (10, some i0)]) C dX9_carry_16 q_659 q_608 q_13 q_609 (by decide) (Nat.le_of_ble_eq_true rfl) (by decide) (by decide) ?_
  refine pf_10_2 C dX9_carry_19 q_150 fun s_2 => ?_
  exact J_vret C dX9_carry_22 (by decide) (by decide)
def fX7_rank (s0 : zS) (i0 : Nat) (r1 : Option Nat) : Option (Int × zS) :=
  Option.elim r1 (some (0, s0)) fun i_1 => if gI s0 8 i0 9 = 0 then (some (0, s0)) else (if gI s0 8 i0 9 = 2 then (if gI s0 8 i0 10 < gI s0 8 i_1 0 then (some (gI s0 8 i_1 0, s0)) else (some (wr ((gI s0 8 i_1 0) + 16), s0))) else (some (gI s0 8 i_1 0, s0)))
set_option maxHeartbeats 4000000 in
set_option maxRecDepth 20000 in
theorem kX7_rank (s0 : zS) (i0 : Nat) (r1 : Option Nat) : zCt zw yX7_rank cX7_rank 2 (some .int) 0 0 0 0 eI [.inr (8, some i0), .inr (8, r1)] s0 (fX7_rank s0 i0 r1) := by
  refine zCt_on (own := RX7) (nm := "rank") rfl rfl (by decide) (Nat.le_of_ble_eq_true rfl) fun K C => ?_
  show zJ zw 2 K _ 0 0 0 [(0, .inr (8, some i0)), (1, .inr (8, r1))] [] s0 (fX7_rank s0 i0 r1)
  unfold fX7_rank
  refine J_aload_n C 1 dX7_rank_0 rfl ?_
  refine J_elim (fun e_2 => ?_) (fun i_1 e_2 => ?_)
  · subst e_2
    refine J_null_n C 11 dX7_rank_1 rfl ?_
    refine J_iconst C dX7_rank_11 (zi9 rfl rfl) ?_
    exact J_iret C dX7_rank_12 (by decide) (by decide)
  · subst e_2
    refine J_null_s C dX7_rank_1 ?_
    refine J_aload_n C 0 dX7_rank_4 rfl ?_
    refine gf_8_9 C dX7_rank_5 q_211 ?_
    refine J_if_ne C 13 dX7_rank_8 rfl (fun _ => ?_) (fun _ => ?_)
    · refine J_aload_n C 0 dX7_rank_13 rfl ?_
      refine gf_8_9 C dX7_rank_14 q_211 ?_
      refine J_iconst C dX7_rank_17 (zi9 rfl rfl) ?_
      refine J_ic_ne C 42 dX7_rank_18 rfl (fun _ => ?_) (fun _ => ?_)
      · refine J_aload_n C 1 dX7_rank_42 rfl ?_
        refine gf_8_0 C dX7_rank_43 q_193 ?_
        exact J_iret C dX7_rank_46 (by decide) (by decide)
      · refine J_aload_n C 1 dX7_rank_21 rfl ?_
        refine gf_8_0 C dX7_rank_22 q_193 ?_
        refine J_aload_n C 0 dX7_rank_25 rfl ?_
        refine gf_8_10 C dX7_rank_26 q_213 ?_
        refine J_ic_gt C 42 dX7_rank_29 rfl (fun _ => ?_) (fun _ => ?_)
        · refine J_aload_n C 1 dX7_rank_42 rfl ?_
          refine gf_8_0 C dX7_rank_43 q_193 ?_
          exact J_iret C dX7_rank_46 (by decide) (by decide)
        · refine J_aload_n C 1 dX7_rank_32 rfl ?_
          refine gf_8_0 C dX7_rank_33 q_193 ?_
          refine J_bipush C dX7_rank_36 (zi9 rfl rfl) (by decide) ?_
          refine J_iadd C dX7_rank_38 ?_
          refine J_goto C 46 dX7_rank_39 rfl ?_
          exact J_iret C dX7_rank_46 (by decide) (by decide)
    · refine J_iconst C dX7_rank_11 (zi9 rfl rfl) ?_
      exact J_iret C dX7_rank_12 (by decide) (by decide)
def fX9_offer (s0 : zS) (i0 : Nat) (r1 : Option Nat) (x2 : Int) : Option (Unit × zS) :=
  nm_ (gR s0 10 i0 3) fun (r_1 : Option Nat) => Option.elim r_1 (up_ (sR s0 10 i0 3 r1) fun (s_2 : zS) => up_ (sI s_2 10 i0 4 x2) fun (s_3 : zS) => some ((), s_3)) fun i_4 => if x2 < gI s0 10 i0 4 then (up_ (sR s0 10 i0 3 r1) fun (s_6 : zS) => up_ (sI s_6 10 i0 4 x2) fun (s_7 : zS) => some ((), s_7)) else (if x2 = gI s0 10 i0 4 then (Option.bind r1 fun i_8 => nm_ (gR s0 10 i0 3) fun (r_10 : Option Nat) => Option.bind r_10 fun i_11 => if gI s0 5 i_8 10 < gI s0 5 i_11 10 then (up_ (sR s0 10 i0 3 (some i_8)) fun (s_13 : zS) => up_ (sI s_13 10 i0 4 x2) fun (s_14 : zS) => some ((), s_14)) else (some ((), s0))) else (some ((), s0)))
set_option maxHeartbeats 4000000 in
set_option maxRecDepth 20000 in
theorem kX9_offer (s0 : zS) (i0 : Nat) (r1 : Option Nat) (x2 : Int) : zCt zw yX9_offer cX9_offer 3 none 0 0 0 0 eV [.inr (10, some i0), .inr (5, r1), .inl x2] s0 (fX9_offer s0 i0 r1 x2) := by
  refine zCt_on (own := RX9) (nm := "offer") rfl rfl (by decide) (Nat.le_of_ble_eq_true rfl) fun K C => ?_
  show zJ zw 3 K _ 0 0 0 [(0, .inr (10, some i0)), (1, .inr (5, r1)), (2, .inl x2)] [] s0 (fX9_offer s0 i0 r1 x2)
  unfold fX9_offer
  refine J_aload_n C 0 dX9_offer_0 rfl ?_
  refine gf_10_3 C dX9_offer_1 q_152 ?_
  refine J_nmR fun r_1 => ?_
  refine J_elim (fun e_5 => ?_) (fun i_4 e_5 => ?_)
  · subst e_5
    refine J_null_n C 37 dX9_offer_4 rfl ?_
    refine J_aload_n C 0 dX9_offer_37 rfl ?_
    refine J_aload_n C 1 dX9_offer_38 rfl ?_
    refine pf_10_3 C dX9_offer_39 q_152 fun s_2 => ?_
    refine J_aload_n C 0 dX9_offer_42 rfl ?_
    refine J_iload_n C 2 dX9_offer_43 rfl ?_
    refine pf_10_4 C dX9_offer_44 q_154 fun s_3 => ?_
    exact J_vret C dX9_offer_47 (by decide) (by decide)
  · subst e_5
    refine J_null_s C dX9_offer_4 ?_
    refine J_iload_n C 2 dX9_offer_7 rfl ?_
    refine J_aload_n C 0 dX9_offer_8 rfl ?_
    refine gf_10_4 C dX9_offer_9 q_154 ?_
    refine J_ic_lt C 37 dX9_offer_12 rfl (fun _ => ?_) (fun _ => ?_)
    · refine J_aload_n C 0 dX9_offer_37 rfl ?_
      refine J_aload_n C 1 dX9_offer_38 rfl ?_
      refine pf_10_3 C dX9_offer_39 q_152 fun s_6 => ?_
      refine J_aload_n C 0 dX9_offer_42 rfl ?_
      refine J_iload_n C 2 dX9_offer_43 rfl ?_
      refine pf_10_4 C dX9_offer_44 q_154 fun s_7 => ?_
      exact J_vret C dX9_offer_47 (by decide) (by decide)
    · refine J_iload_n C 2 dX9_offer_15 rfl ?_
      refine J_aload_n C 0 dX9_offer_16 rfl ?_
      refine gf_10_4 C dX9_offer_17 q_154 ?_
      refine J_ic_ne C 47 dX9_offer_20 rfl (fun _ => ?_) (fun _ => ?_)
      · exact J_vret C dX9_offer_47 (by decide) (by decide)
      · refine J_aload_n C 1 dX9_offer_23 rfl ?_
        refine J_bind fun i_8 e_9 => ?_
        subst e_9
        refine gf_5_10 C dX9_offer_24 q_374 ?_
        refine J_aload_n C 0 dX9_offer_27 rfl ?_
        refine gf_10_3 C dX9_offer_28 q_152 ?_
        refine J_nmR fun r_10 => ?_
        refine J_bind fun i_11 e_12 => ?_
        subst e_12
        refine gf_5_10 C dX9_offer_31 q_374 ?_
        refine J_ic_ge C 47 dX9_offer_34 rfl (fun _ => ?_) (fun _ => ?_)
        · exact J_vret C dX9_offer_47 (by decide) (by decide)
        · refine J_aload_n C 0 dX9_offer_37 rfl ?_
          refine J_aload_n C 1 dX9_offer_38 rfl ?_
          refine pf_10_3 C dX9_offer_39 q_152 fun s_13 => ?_
          refine J_aload_n C 0 dX9_offer_42 rfl ?_
          refine J_iload_n C 2 dX9_offer_43 rfl ?_
          refine pf_10_4 C dX9_offer_44 q_154 fun s_14 => ?_
          exact J_vret C dX9_offer_47 (by decide) (by decide)
def fX10_noteOnWires (s0 : zS) (r0 : Option Nat) : Option (Unit × zS) :=
  Option.bind r0 fun i_1 => nm_ (gR s0 5 i_1 4) fun (r_3 : Option Nat) => Option.elim r_3 (some ((), s0)) fun i_4 => if gI s0 5 i_1 3 = 2 then (if gI s0 5 i_1 5 = 0 then (nm_ (gR s0 8 i_4 8) fun (r_24 : Option Nat) => Option.bind r_24 fun i_25 => cl_ (fX9_carry s0 i_25 (gI s0 5 i_1 9)) fun (_ : Unit) (s_27 : zS) => some ((), s_27)) else (nm_ (gR s0 8 i_4 7) fun (r_28 : Option Nat) => Option.bind r_28 fun i_29 => cl_ (fX9_carry s0 i_29 (gI s0 5 i_1 9)) fun (_ : Unit) (s_31 : zS) => some ((), s_31))) else (nm_ (fun (s_6 : zS) => if gI s_6 5 i_1 3 = 1 then (nm_ (gR s_6 5 i_1 7) fun (r_7 : Option Nat) => Option.elim r_7 (some ((), s_6)) fun i_8 => nm_ (gR s_6 5 i_1 7) fun (r_10 : Option Nat) => Option.bind r_10 fun i_11 => nm_ (gR s_6 8 i_11 8) fun (r_13 : Option Nat) => Option.bind r_13 fun i_14 => cl_ (fX9_offer s_6 i_14 (some i_1) 0) fun (_ : Unit) (s_16 : zS) => some ((), s_16)) else (some ((), s_6))) fun (j80 : zS → Option (Unit × zS)) => if gI s0 5 i_1 3 = 1 then (if gI s0 5 i_1 5 = 0 then (j80 s0) else (nm_ (gR s0 8 i_4 7) fun (r_17 : Option Nat) => nm_ (gR s0 5 i_1 6) fun (r_18 : Option Nat) => cl_ (fX7_rank s0 i_4 r_18) fun (x_20 : Int) (s_19 : zS) => Option.bind r_17 fun i_21 => cl_ (fX9_offer s_19 i_21 (some i_1) x_20) fun (_ : Unit) (s_23 : zS) => some ((), s_23))) else (j80 s0))
set_option maxHeartbeats 4000000 in
set_option maxRecDepth 20000 in
theorem kX10_noteOnWires (s0 : zS) (r0 : Option Nat) : zCt zw yX10_noteOnWires cX10_noteOnWires 2 none 2 35 0 0 eV [.inr (5, r0)] s0 (fX10_noteOnWires s0 r0) := by
  refine zCt_on (own := RX10) (nm := "noteOnWires") rfl rfl (by decide) (Nat.le_of_ble_eq_true rfl) fun K C => ?_
  show zJ zw 2 K _ 0 0 0 [(0, .inr (5, r0))] [] s0 (fX10_noteOnWires s0 r0)
  unfold fX10_noteOnWires
  refine J_aload_n C 0 dX10_noteOnWires_0 rfl ?_
  refine J_bind fun i_1 e_2 => ?_
  subst e_2
  refine gf_5_4 C dX10_noteOnWires_1 q_362 ?_
  refine J_nmR fun r_3 => ?_
  refine J_astore_n (L' := [(0, .inr (5, some i_1)), (1, .inr (8, r_3))]) C dX10_noteOnWires_4 (Nat.le_of_ble_eq_true rfl) rfl ?_
  refine J_aload_n C 1 dX10_noteOnWires_5 rfl ?_
  refine J_elim (fun e_5 => ?_) (fun i_4 e_5 => ?_)
  · subst e_5
    refine J_nonnull_n C dX10_noteOnWires_6 ?_
    exact J_vret C dX10_noteOnWires_9 (by decide) (by decide)
  · subst e_5
    refine J_nonnull_s C 10 dX10_noteOnWires_6 rfl ?_
    refine J_aload_n C 0 dX10_noteOnWires_10 rfl ?_
    refine gf_5_3 C dX10_noteOnWires_11 q_360 ?_
    refine J_iconst C dX10_noteOnWires_14 (zi9 rfl rfl) ?_
    refine J_ic_ne C 46 dX10_noteOnWires_15 rfl (fun _ => ?_) (fun _ => ?_)
    · refine J_aload_n C 0 dX10_noteOnWires_46 rfl ?_
      refine gf_5_3 C dX10_noteOnWires_47 q_360 ?_
      refine J_iconst C dX10_noteOnWires_50 (zi9 rfl rfl) ?_
      refine J_join (fun j80 => ∀ (s_6 : zS), zJ zw 2 K (zQm zw eV 0 0 K) 0 0 80 [(0, .inr (5, some i_1))] [] s_6 (j80 s_6)) ?_ fun j80 hj80 => ?_
      · intro s_6
        refine J_aload_n C 0 dX10_noteOnWires_80 rfl ?_
        refine gf_5_3 C dX10_noteOnWires_81 q_360 ?_
        refine J_iconst C dX10_noteOnWires_84 (zi9 rfl rfl) ?_
        refine J_ic_ne C 107 dX10_noteOnWires_85 rfl (fun _ => ?_) (fun _ => ?_)
        · exact J_vret C dX10_noteOnWires_107 (by decide) (by decide)
        · refine J_aload_n C 0 dX10_noteOnWires_88 rfl ?_
          refine gf_5_7 C dX10_noteOnWires_89 q_368 ?_
          refine J_nmR fun r_7 => ?_
          refine J_elim (fun e_9 => ?_) (fun i_8 e_9 => ?_)
          · subst e_9
            refine J_null_n C 107 dX10_noteOnWires_92 rfl ?_
            exact J_vret C dX10_noteOnWires_107 (by decide) (by decide)
          · subst e_9
            refine J_null_s C dX10_noteOnWires_92 ?_
            refine J_aload_n C 0 dX10_noteOnWires_95 rfl ?_
            refine gf_5_7 C dX10_noteOnWires_96 q_368 ?_
            refine J_nmR fun r_10 => ?_
            refine J_bind fun i_11 e_12 => ?_
            subst e_12
            refine gf_8_8 C dX10_noteOnWires_99 q_210 ?_
            refine J_nmR fun r_13 => ?_
            refine J_aload_n C 0 dX10_noteOnWires_102 rfl ?_
            refine J_iconst C dX10_noteOnWires_103 (zi9 rfl rfl) ?_
            refine J_bind fun i_14 e_15 => ?_
            subst e_15
            refine J_callVV (S := []) (avs := [.inr (5, some i_1), .inl 0]) C zx10 yw_52 rfl (kX9_offer _ _ _ _) dX10_noteOnWires_104 rfl (Nat.le_of_ble_eq_true rfl) (by decide) fun _ s_16 => ?_
            exact J_vret C dX10_noteOnWires_107 (by decide) (by decide)
      · refine J_ic_ne C 80 dX10_noteOnWires_51 rfl (fun _ => ?_) (fun _ => ?_)
        · refine J_loc (L' := [(0, .inr (5, some i_1))]) [0] rfl ?_
          exact hj80 _
        · refine J_aload_n C 0 dX10_noteOnWires_54 rfl ?_
          refine gf_5_5 C dX10_noteOnWires_55 q_364 ?_
          refine J_if_eq C 80 dX10_noteOnWires_58 rfl (fun _ => ?_) (fun _ => ?_)
          · refine J_loc (L' := [(0, .inr (5, some i_1))]) [0] rfl ?_
            exact hj80 _
          · refine J_aload_n C 1 dX10_noteOnWires_61 rfl ?_
            refine gf_8_7 C dX10_noteOnWires_62 q_208 ?_
            refine J_nmR fun r_17 => ?_
            refine J_aload_n C 0 dX10_noteOnWires_65 rfl ?_
            refine J_aload_n C 1 dX10_noteOnWires_66 rfl ?_
            refine J_aload_n C 0 dX10_noteOnWires_67 rfl ?_
            refine gf_5_6 C dX10_noteOnWires_68 q_366 ?_
            refine J_nmR fun r_18 => ?_
            refine J_callVI (S := [.inr (5, some i_1), .inr (10, r_17)]) (avs := [.inr (8, r_18)]) C zx8 yw_53 rfl (kX7_rank _ _ _) dX10_noteOnWires_71 rfl (Nat.le_of_ble_eq_true rfl) (by decide) fun x_20 s_19 => ?_
            refine J_bind fun i_21 e_22 => ?_
            subst e_22
            refine J_callVV (S := []) (avs := [.inr (5, some i_1), .inl x_20]) C zx10 yw_52 rfl (kX9_offer _ _ _ _) dX10_noteOnWires_74 rfl (Nat.le_of_ble_eq_true rfl) (by decide) fun _ s_23 => ?_
            refine J_goto C 107 dX10_noteOnWires_77 rfl ?_
            exact J_vret C dX10_noteOnWires_107 (by decide) (by decide)
    · refine J_aload_n C 0 dX10_noteOnWires_18 rfl ?_
      refine gf_5_5 C dX10_noteOnWires_19 q_364 ?_
      refine J_if_eq C 32 dX10_noteOnWires_22 rfl (fun _ => ?_) (fun _ => ?_)
      · refine J_aload_n C 1 dX10_noteOnWires_32 rfl ?_
        refine gf_8_8 C dX10_noteOnWires_33 q_210 ?_
        refine J_nmR fun r_24 => ?_
        refine J_aload_n C 0 dX10_noteOnWires_36 rfl ?_
        refine gf_5_9 C dX10_noteOnWires_37 q_372 ?_
        refine J_bind fun i_25 e_26 => ?_
        subst e_26
        refine J_callVV (S := []) (avs := [.inl (gI s0 5 i_1 9)]) C zx10 yw_54 rfl (kX9_carry _ _ _) dX10_noteOnWires_40 rfl (Nat.le_of_ble_eq_true rfl) (by decide) fun _ s_27 => ?_
        refine J_goto C 107 dX10_noteOnWires_43 rfl ?_
        exact J_vret C dX10_noteOnWires_107 (by decide) (by decide)
      · refine J_aload_n C 1 dX10_noteOnWires_25 rfl ?_
        refine gf_8_7 C dX10_noteOnWires_26 q_208 ?_
        refine J_nmR fun r_28 => ?_
        refine J_goto C 36 dX10_noteOnWires_29 rfl ?_
        refine J_aload_n C 0 dX10_noteOnWires_36 rfl ?_
        refine gf_5_9 C dX10_noteOnWires_37 q_372 ?_
        refine J_bind fun i_29 e_30 => ?_
        subst e_30
        refine J_callVV (S := []) (avs := [.inl (gI s0 5 i_1 9)]) C zx10 yw_54 rfl (kX9_carry _ _ _) dX10_noteOnWires_40 rfl (Nat.le_of_ble_eq_true rfl) (by decide) fun _ s_31 => ?_
        refine J_goto C 107 dX10_noteOnWires_43 rfl ?_
        exact J_vret C dX10_noteOnWires_107 (by decide) (by decide)
def fX10_isFree (s0 : zS) (i0 : Nat) (r1 : Option Nat) (r2 : Option Nat) (r3 : Option Nat) : Option (Int × zS) :=
  Option.bind r2 fun i_1 => Option.bind r1 fun i_3 => if gI s0 10 i_1 2 < gI s0 8 i_3 4 then (some (0, s0)) else (if wr ((gI s0 0 i0 13) - (gI s0 10 i_1 0)) < gI s0 8 i_3 4 then (some (0, s0)) else (if gI s0 8 i_3 5 = 0 then (Option.bind r3 fun i_5 => if gI s0 10 i_5 1 = 0 then (if wr ((gI s0 0 i0 13) - (gI s0 10 i_5 0)) < gI s0 8 i_3 4 then (some (0, s0)) else (some (1, s0))) else (some (0, s0))) else (some (1, s0))))
set_option maxHeartbeats 4000000 in
set_option maxRecDepth 20000 in
theorem kX10_isFree (s0 : zS) (i0 : Nat) (r1 : Option Nat) (r2 : Option Nat) (r3 : Option Nat) : zCt zw yX10_isFree cX10_isFree 4 (some .boolean) 0 0 0 0 eI [.inr (0, some i0), .inr (8, r1), .inr (10, r2), .inr (10, r3)] s0 (fX10_isFree s0 i0 r1 r2 r3) := by
  refine zCt_on (own := RX10) (nm := "isFree") rfl rfl (by decide) (Nat.le_of_ble_eq_true rfl) fun K C => ?_
  show zJ zw 4 K _ 0 0 0 [(0, .inr (0, some i0)), (1, .inr (8, r1)), (2, .inr (10, r2)), (3, .inr (10, r3))] [] s0 (fX10_isFree s0 i0 r1 r2 r3)
  unfold fX10_isFree
  refine J_aload_n C 2 dX10_isFree_0 rfl ?_
  refine J_bind fun i_1 e_2 => ?_
  subst e_2
  refine gf_10_2 C dX10_isFree_1 q_151 ?_
  refine J_aload_n C 1 dX10_isFree_4 rfl ?_
  refine J_bind fun i_3 e_4 => ?_
  subst e_4
  refine gf_8_4 C dX10_isFree_5 q_202 ?_
  refine J_ic_lt C 27 dX10_isFree_8 rfl (fun _ => ?_) (fun _ => ?_)
  · refine J_iconst C dX10_isFree_27 (zi9 rfl rfl) ?_
    exact J_zret C (by decide) dX10_isFree_28 (by decide) (by decide)
  · refine J_aload_n C 0 dX10_isFree_11 rfl ?_
    refine gf_0_13 C dX10_isFree_12 q_269 ?_
    refine J_aload_n C 2 dX10_isFree_15 rfl ?_
    refine gf_10_0 C dX10_isFree_16 q_147 ?_
    refine J_isub C dX10_isFree_19 ?_
    refine J_aload_n C 1 dX10_isFree_20 rfl ?_
    refine gf_8_4 C dX10_isFree_21 q_202 ?_
    refine J_ic_ge C 29 dX10_isFree_24 rfl (fun _ => ?_) (fun _ => ?_)
    · refine J_aload_n C 1 dX10_isFree_29 rfl ?_
      refine gf_8_5 C dX10_isFree_30 q_204 ?_
      refine J_if_ne C 59 dX10_isFree_33 rfl (fun _ => ?_) (fun _ => ?_)
      · refine J_iconst C dX10_isFree_59 (zi9 rfl rfl) ?_
        refine J_goto C 64 dX10_isFree_60 rfl ?_
        exact J_zret C (by decide) dX10_isFree_64 (by decide) (by decide)
      · refine J_aload_n C 3 dX10_isFree_36 rfl ?_
        refine J_bind fun i_5 e_6 => ?_
        subst e_6
        refine gf_10_1 C dX10_isFree_37 q_149 ?_
        refine J_if_ne C 63 dX10_isFree_40 rfl (fun _ => ?_) (fun _ => ?_)
        · refine J_iconst C dX10_isFree_63 (zi9 rfl rfl) ?_
          exact J_zret C (by decide) dX10_isFree_64 (by decide) (by decide)
        · refine J_aload_n C 0 dX10_isFree_43 rfl ?_
          refine gf_0_13 C dX10_isFree_44 q_269 ?_
          refine J_aload_n C 3 dX10_isFree_47 rfl ?_
          refine gf_10_0 C dX10_isFree_48 q_147 ?_
          refine J_isub C dX10_isFree_51 ?_
          refine J_aload_n C 1 dX10_isFree_52 rfl ?_
          refine gf_8_4 C dX10_isFree_53 q_202 ?_
          refine J_ic_lt C 63 dX10_isFree_56 rfl (fun _ => ?_) (fun _ => ?_)
          · refine J_iconst C dX10_isFree_63 (zi9 rfl rfl) ?_
            exact J_zret C (by decide) dX10_isFree_64 (by decide) (by decide)
          · refine J_iconst C dX10_isFree_59 (zi9 rfl rfl) ?_
            refine J_goto C 64 dX10_isFree_60 rfl ?_
            exact J_zret C (by decide) dX10_isFree_64 (by decide) (by decide)
    · refine J_iconst C dX10_isFree_27 (zi9 rfl rfl) ?_
      exact J_zret C (by decide) dX10_isFree_28 (by decide) (by decide)
def fX4_goOn (s0 : zS) (i0 : Nat) (r1 : Option Nat) (x2 : Int) : Option (Unit × zS) :=
  cl_ (fX4_leaveFor s0 i0 2) fun (_ : Unit) (s_1 : zS) => up_ (sR s_1 5 i0 4 r1) fun (s_2 : zS) => g_ (x2 = 0 ∨ x2 = 1) (up_ (sI s_2 5 i0 5 x2) fun (s_3 : zS) => up_ (sI s_3 5 i0 9 0) fun (s_4 : zS) => some ((), s_4))
set_option maxHeartbeats 4000000 in
set_option maxRecDepth 20000 in
theorem kX4_goOn (s0 : zS) (i0 : Nat) (r1 : Option Nat) (x2 : Int) : zCt zw yX4_goOn cX4_goOn 3 none 1 21 0 0 eV [.inr (5, some i0), .inr (8, r1), .inl x2] s0 (fX4_goOn s0 i0 r1 x2) := by
  refine zCt_on (own := RX4) (nm := "goOn") rfl rfl (by decide) (Nat.le_of_ble_eq_true rfl) fun K C => ?_
  show zJ zw 3 K _ 0 0 0 [(0, .inr (5, some i0)), (1, .inr (8, r1)), (2, .inl x2)] [] s0 (fX4_goOn s0 i0 r1 x2)
  unfold fX4_goOn
  refine J_aload_n C 0 dX4_goOn_0 rfl ?_
  refine J_iconst C dX4_goOn_1 (zi9 rfl rfl) ?_
  refine J_callVV (S := []) (avs := [.inl 2]) C zx5 yw_17 rfl (kX4_leaveFor _ _ _) dX4_goOn_2 rfl (Nat.le_of_ble_eq_true rfl) (by decide) fun _ s_1 => ?_
  refine J_aload_n C 0 dX4_goOn_5 rfl ?_
  refine J_aload_n C 1 dX4_goOn_6 rfl ?_
  refine pf_5_4 C dX4_goOn_7 q_361 fun s_2 => ?_
  refine J_aload_n C 0 dX4_goOn_10 rfl ?_
  refine J_iload_n C 2 dX4_goOn_11 rfl ?_
  refine J_g fun h_5 => ?_
  refine pf_5_5 C h_5 dX4_goOn_12 q_363 fun s_3 => ?_
  refine J_aload_n C 0 dX4_goOn_15 rfl ?_
  refine J_iconst C dX4_goOn_16 (zi9 rfl rfl) ?_
  refine pf_5_9 C dX4_goOn_17 q_371 fun s_4 => ?_
  exact J_vret C dX4_goOn_20 (by decide) (by decide)
def fX10_letOn (s0 : zS) (i0 : Nat) (r1 : Option Nat) : Option (Unit × zS) :=
  Option.bind r1 fun i_1 => nm_ (gR s0 8 i_1 7) fun (r_3 : Option Nat) => Option.bind r_3 fun i_4 => nm_ (gR s0 10 i_4 3) fun (r_6 : Option Nat) => nm_ (gR s0 8 i_1 8) fun (r_7 : Option Nat) => Option.bind r_7 fun i_8 => nm_ (gR s0 10 i_8 3) fun (r_10 : Option Nat) => nm_ (fun (s_11 : zS) (u_12 : Int) => nm_ (fun (s_13 : zS) (u_14 : Int) => nm_ (fun (s_15 : zS) (y_16 : Int) (y_17 : Int) => if y_16 = 0 then (if y_17 = 0 then (some ((), s_15)) else (nm_ (gR s_15 8 i_1 8) fun (r_18 : Option Nat) => Option.bind r_18 fun i_19 => up_ (sI s_15 10 i_19 0 (gI s_15 0 i0 13)) fun (s_21 : zS) => Option.bind r_10 fun i_22 => cl_ (fX4_goOn s_21 i_22 (some i_1) 0) fun (_ : Unit) (s_24 : zS) => some ((), s_24))) else (Option.bind r_6 fun i_25 => nm_ (gR s_15 5 i_25 6) fun (r_27 : Option Nat) => nm_ (fun (s_28 : zS) (u_29 : Int) => up_ (sI s_28 8 i_1 10 u_29) fun (s_30 : zS) => nm_ (gR s_30 8 i_1 7) fun (r_31 : Option Nat) => Option.bind r_31 fun i_32 => up_ (sI s_30 10 i_32 0 (gI s_30 0 i0 13)) fun (s_34 : zS) => cl_ (fX4_goOn s_34 i_25 (some i_1) 1) fun (_ : Unit) (s_35 : zS) => if y_17 = 0 then (some ((), s_35)) else (nm_ (gR s_35 8 i_1 8) fun (r_36 : Option Nat) => Option.bind r_36 fun i_37 => up_ (sI s_35 10 i_37 0 (gI s_35 0 i0 13)) fun (s_39 : zS) => Option.bind r_10 fun i_40 => cl_ (fX4_goOn s_39 i_40 (some i_1) 0) fun (_ : Unit) (s_42 : zS) => some ((), s_42))) fun (j144 : zS → Int → Option (Unit × zS)) => Option.elim r_27 (j144 s_15 (gI s_15 8 i_1 10)) fun i_43 => nm_ (gR s_15 5 i_25 6) fun (r_45 : Option Nat) => Option.bind r_45 fun i_46 => j144 s_15 (gI s_15 8 i_46 0))) fun (j117 : zS → Int → Int → Option (Unit × zS)) => if u_12 = 0 then (j117 s_13 u_12 u_14) else (if u_14 = 0 then (j117 s_13 u_12 u_14) else (if gI s_13 8 i_1 5 = 0 then (Option.bind r_6 fun i_48 => Option.bind r_10 fun i_50 => nm_ (fun (s_52 : zS) (u_53 : Int) => nm_ (fun (s_54 : zS) (u_55 : Int) => j117 s_54 u_53 u_55) fun (j115 : zS → Int → Option (Unit × zS)) => if u_53 = 0 then (j115 s_52 1) else (j115 s_52 0)) fun (j103 : zS → Int → Option (Unit × zS)) => if gI s_13 5 i_50 10 < gI s_13 5 i_48 10 then (j103 s_13 0) else (j103 s_13 1)) else (j117 s_13 u_12 u_14)))) fun (j68 : zS → Int → Option (Unit × zS)) => nm_ (fun (s_56 : zS) => j68 s_56 0) fun (j67 : zS → Option (Unit × zS)) => Option.elim r_10 (j67 s_11) fun i_57 => nm_ (gR s_11 8 i_1 8) fun (r_59 : Option Nat) => nm_ (gR s_11 8 i_1 7) fun (r_60 : Option Nat) => cl_ (fX10_isFree s_11 i0 (some i_1) r_59 r_60) fun (x_62 : Int) (s_61 : zS) => if x_62 = 0 then (j67 s_61) else (j68 s_61 1)) fun (j41 : zS → Int → Option (Unit × zS)) => nm_ (fun (s_63 : zS) => j41 s_63 0) fun (j40 : zS → Option (Unit × zS)) => Option.elim r_6 (j40 s0) fun i_64 => nm_ (gR s0 8 i_1 7) fun (r_66 : Option Nat) => nm_ (gR s0 8 i_1 8) fun (r_67 : Option Nat) => cl_ (fX10_isFree s0 i0 (some i_1) r_66 r_67) fun (x_69 : Int) (s_68 : zS) => if x_69 = 0 then (j40 s_68) else (j41 s_68 1)
set_option maxHeartbeats 4000000 in
set_option maxRecDepth 20000 in
theorem kX10_letOn (s0 : zS) (i0 : Nat) (r1 : Option Nat) : zCt zw yX10_letOn cX10_letOn 6 none 2 43 0 0 eV [.inr (0, some i0), .inr (8, r1)] s0 (fX10_letOn s0 i0 r1) := by
  refine zCt_on (own := RX10) (nm := "letOn") rfl rfl (by decide) (Nat.le_of_ble_eq_true rfl) fun K C => ?_
  show zJ zw 6 K _ 0 0 0 [(0, .inr (0, some i0)), (1, .inr (8, r1))] [] s0 (fX10_letOn s0 i0 r1)
  unfold fX10_letOn
  refine J_aload_n C 1 dX10_letOn_0 rfl ?_
  refine J_bind fun i_1 e_2 => ?_
  subst e_2
  refine gf_8_7 C dX10_letOn_1 q_208 ?_
  refine J_nmR fun r_3 => ?_
  refine J_bind fun i_4 e_5 => ?_
  subst e_5
  refine gf_10_3 C dX10_letOn_4 q_153 ?_
  refine J_nmR fun r_6 => ?_
  refine J_astore_n (L' := [(0, .inr (0, some i0)), (1, .inr (8, some i_1)), (2, .inr (5, r_6))]) C dX10_letOn_7 (Nat.le_of_ble_eq_true rfl) rfl ?_
  refine J_aload_n C 1 dX10_letOn_8 rfl ?_
  refine gf_8_8 C dX10_letOn_9 q_210 ?_
  refine J_nmR fun r_7 => ?_
  refine J_bind fun i_8 e_9 => ?_
  subst e_9
  refine gf_10_3 C dX10_letOn_12 q_153 ?_
  refine J_nmR fun r_10 => ?_
  refine J_astore_n (L' := [(0, .inr (0, some i0)), (1, .inr (8, some i_1)), (2, .inr (5, r_6)), (3, .inr (5, r_10))]) C dX10_letOn_15 (Nat.le_of_ble_eq_true rfl) rfl ?_
  refine J_aload_n C 2 dX10_letOn_16 rfl ?_
  refine J_join (fun j41 => ∀ (s_11 : zS) (u_12 : Int), zJ zw 6 K (zQm zw eV 0 0 K) 0 0 41 [(0, .inr (0, some i0)), (1, .inr (8, some i_1)), (2, .inr (5, r_6)), (3, .inr (5, r_10))] [.inl u_12] s_11 (j41 s_11 u_12)) ?_ fun j41 hj41 => ?_
  · intro s_11 u_12
    refine J_istore (L' := [(0, .inr (0, some i0)), (1, .inr (8, some i_1)), (2, .inr (5, r_6)), (3, .inr (5, r_10)), (4, .inl u_12)]) C dX10_letOn_41 (Nat.le_of_ble_eq_true rfl) rfl ?_
    refine J_aload_n C 3 dX10_letOn_43 rfl ?_
    refine J_join (fun j68 => ∀ (s_13 : zS) (u_14 : Int), zJ zw 6 K (zQm zw eV 0 0 K) 0 0 68 [(0, .inr (0, some i0)), (1, .inr (8, some i_1)), (2, .inr (5, r_6)), (3, .inr (5, r_10)), (4, .inl u_12)] [.inl u_14] s_13 (j68 s_13 u_14)) ?_ fun j68 hj68 => ?_
    · intro s_13 u_14
      refine J_istore (L' := [(0, .inr (0, some i0)), (1, .inr (8, some i_1)), (2, .inr (5, r_6)), (3, .inr (5, r_10)), (4, .inl u_12), (5, .inl u_14)]) C dX10_letOn_68 (Nat.le_of_ble_eq_true rfl) rfl ?_
      refine J_iload C 4 dX10_letOn_70 rfl ?_
      refine J_join (fun j117 => ∀ (s_15 : zS) (y_16 : Int) (y_17 : Int), zJ zw 6 K (zQm zw eV 0 0 K) 0 0 117 [(0, .inr (0, some i0)), (1, .inr (8, some i_1)), (2, .inr (5, r_6)), (3, .inr (5, r_10)), (4, .inl y_16), (5, .inl y_17)] [] s_15 (j117 s_15 y_16 y_17)) ?_ fun j117 hj117 => ?_
      · intro s_15 y_16 y_17
        refine J_iload C 4 dX10_letOn_117 rfl ?_
        refine J_if_eq C 164 dX10_letOn_119 rfl (fun _ => ?_) (fun _ => ?_)
        · refine J_iload C 5 dX10_letOn_164 rfl ?_
          refine J_if_eq C 186 dX10_letOn_166 rfl (fun _ => ?_) (fun _ => ?_)
          · exact J_vret C dX10_letOn_186 (by decide) (by decide)
          · refine J_aload_n C 1 dX10_letOn_169 rfl ?_
            refine gf_8_8 C dX10_letOn_170 q_210 ?_
            refine J_nmR fun r_18 => ?_
            refine J_aload_n C 0 dX10_letOn_173 rfl ?_
            refine gf_0_13 C dX10_letOn_174 q_269 ?_
            refine J_bind fun i_19 e_20 => ?_
            subst e_20
            refine pf_10_0 C dX10_letOn_177 q_147 fun s_21 => ?_
            refine J_aload_n C 3 dX10_letOn_180 rfl ?_
            refine J_aload_n C 1 dX10_letOn_181 rfl ?_
            refine J_iconst C dX10_letOn_182 (zi9 rfl rfl) ?_
            refine J_bind fun i_22 e_23 => ?_
            subst e_23
            refine J_callVV (S := []) (avs := [.inr (8, some i_1), .inl 0]) C zx5 yw_55 rfl (kX4_goOn _ _ _ _) dX10_letOn_183 rfl (Nat.le_of_ble_eq_true rfl) (by decide) fun _ s_24 => ?_
            exact J_vret C dX10_letOn_186 (by decide) (by decide)
        · refine J_aload_n C 1 dX10_letOn_122 rfl ?_
          refine J_aload_n C 2 dX10_letOn_123 rfl ?_
          refine J_bind fun i_25 e_26 => ?_
          subst e_26
          refine gf_5_6 C dX10_letOn_124 q_366 ?_
          refine J_nmR fun r_27 => ?_
          refine J_join (fun j144 => ∀ (s_28 : zS) (u_29 : Int), zJ zw 6 K (zQm zw eV 0 0 K) 0 0 144 [(0, .inr (0, some i0)), (1, .inr (8, some i_1)), (2, .inr (5, some i_25)), (3, .inr (5, r_10)), (5, .inl y_17)] [.inl u_29, .inr (8, some i_1)] s_28 (j144 s_28 u_29)) ?_ fun j144 hj144 => ?_
          · intro s_28 u_29
            refine pf_8_10 C dX10_letOn_144 q_214 fun s_30 => ?_
            refine J_aload_n C 1 dX10_letOn_147 rfl ?_
            refine gf_8_7 C dX10_letOn_148 q_208 ?_
            refine J_nmR fun r_31 => ?_
            refine J_aload_n C 0 dX10_letOn_151 rfl ?_
            refine gf_0_13 C dX10_letOn_152 q_269 ?_
            refine J_bind fun i_32 e_33 => ?_
            subst e_33
            refine pf_10_0 C dX10_letOn_155 q_147 fun s_34 => ?_
            refine J_aload_n C 2 dX10_letOn_158 rfl ?_
            refine J_aload_n C 1 dX10_letOn_159 rfl ?_
            refine J_iconst C dX10_letOn_160 (zi9 rfl rfl) ?_
            refine J_callVV (S := []) (avs := [.inr (8, some i_1), .inl 1]) C zx5 yw_55 rfl (kX4_goOn _ _ _ _) dX10_letOn_161 rfl (Nat.le_of_ble_eq_true rfl) (by decide) fun _ s_35 => ?_
            refine J_iload C 4 dX10_letOn_164 rfl ?_
            refine J_if_eq C 186 dX10_letOn_166 rfl (fun _ => ?_) (fun _ => ?_)
            · exact J_vret C dX10_letOn_186 (by decide) (by decide)
            · refine J_aload_n C 1 dX10_letOn_169 rfl ?_
              refine gf_8_8 C dX10_letOn_170 q_210 ?_
              refine J_nmR fun r_36 => ?_
              refine J_aload_n C 0 dX10_letOn_173 rfl ?_
              refine gf_0_13 C dX10_letOn_174 q_269 ?_
              refine J_bind fun i_37 e_38 => ?_
              subst e_38
              refine pf_10_0 C dX10_letOn_177 q_147 fun s_39 => ?_
              refine J_aload_n C 3 dX10_letOn_180 rfl ?_
              refine J_aload_n C 1 dX10_letOn_181 rfl ?_
              refine J_iconst C dX10_letOn_182 (zi9 rfl rfl) ?_
              refine J_bind fun i_40 e_41 => ?_
              subst e_41
              refine J_callVV (S := []) (avs := [.inr (8, some i_1), .inl 0]) C zx5 yw_55 rfl (kX4_goOn _ _ _ _) dX10_letOn_183 rfl (Nat.le_of_ble_eq_true rfl) (by decide) fun _ s_42 => ?_
              exact J_vret C dX10_letOn_186 (by decide) (by decide)
          · refine J_elim (fun e_44 => ?_) (fun i_43 e_44 => ?_)
            · subst e_44
              refine J_nonnull_n C dX10_letOn_127 ?_
              refine J_aload_n C 1 dX10_letOn_130 rfl ?_
              refine gf_8_10 C dX10_letOn_131 q_214 ?_
              refine J_goto C 144 dX10_letOn_134 rfl ?_
              refine J_loc (L' := [(0, .inr (0, some i0)), (1, .inr (8, some i_1)), (2, .inr (5, some i_25)), (3, .inr (5, r_10)), (5, .inl y_17)]) [0, 1, 2, 3, 5] rfl ?_
              exact hj144 _ _
            · subst e_44
              refine J_nonnull_s C 137 dX10_letOn_127 rfl ?_
              refine J_aload_n C 2 dX10_letOn_137 rfl ?_
              refine gf_5_6 C dX10_letOn_138 q_366 ?_
              refine J_nmR fun r_45 => ?_
              refine J_bind fun i_46 e_47 => ?_
              subst e_47
              refine gf_8_0 C dX10_letOn_141 q_194 ?_
              refine J_loc (L' := [(0, .inr (0, some i0)), (1, .inr (8, some i_1)), (2, .inr (5, some i_25)), (3, .inr (5, r_10)), (5, .inl y_17)]) [0, 1, 2, 3, 5] rfl ?_
              exact hj144 _ _
      · refine J_if_eq C 117 dX10_letOn_72 rfl (fun _ => ?_) (fun _ => ?_)
        · exact hj117 _ _ _
        · refine J_iload C 5 dX10_letOn_75 rfl ?_
          refine J_if_eq C 117 dX10_letOn_77 rfl (fun _ => ?_) (fun _ => ?_)
          · exact hj117 _ _ _
          · refine J_aload_n C 1 dX10_letOn_80 rfl ?_
            refine gf_8_5 C dX10_letOn_81 q_204 ?_
            refine J_if_ne C 117 dX10_letOn_84 rfl (fun _ => ?_) (fun _ => ?_)
            · exact hj117 _ _ _
            · refine J_aload_n C 2 dX10_letOn_87 rfl ?_
              refine J_bind fun i_48 e_49 => ?_
              subst e_49
              refine gf_5_10 C dX10_letOn_88 q_375 ?_
              refine J_aload_n C 3 dX10_letOn_91 rfl ?_
              refine J_bind fun i_50 e_51 => ?_
              subst e_51
              refine gf_5_10 C dX10_letOn_92 q_375 ?_
              refine J_join (fun j103 => ∀ (s_52 : zS) (u_53 : Int), zJ zw 6 K (zQm zw eV 0 0 K) 0 0 103 [(0, .inr (0, some i0)), (1, .inr (8, some i_1)), (2, .inr (5, some i_48)), (3, .inr (5, some i_50))] [.inl u_53] s_52 (j103 s_52 u_53)) ?_ fun j103 hj103 => ?_
              · intro s_52 u_53
                refine J_istore (L' := [(0, .inr (0, some i0)), (1, .inr (8, some i_1)), (2, .inr (5, some i_48)), (3, .inr (5, some i_50)), (4, .inl u_53)]) C dX10_letOn_103 (Nat.le_of_ble_eq_true rfl) rfl ?_
                refine J_iload C 4 dX10_letOn_105 rfl ?_
                refine J_join (fun j115 => ∀ (s_54 : zS) (u_55 : Int), zJ zw 6 K (zQm zw eV 0 0 K) 0 0 115 [(0, .inr (0, some i0)), (1, .inr (8, some i_1)), (2, .inr (5, some i_48)), (3, .inr (5, some i_50)), (4, .inl u_53)] [.inl u_55] s_54 (j115 s_54 u_55)) ?_ fun j115 hj115 => ?_
                · intro s_54 u_55
                  refine J_istore (L' := [(0, .inr (0, some i0)), (1, .inr (8, some i_1)), (2, .inr (5, some i_48)), (3, .inr (5, some i_50)), (4, .inl u_53), (5, .inl u_55)]) C dX10_letOn_115 (Nat.le_of_ble_eq_true rfl) rfl ?_
                  exact hj117 _ _ _
                · refine J_if_ne C 114 dX10_letOn_107 rfl (fun _ => ?_) (fun _ => ?_)
                  · refine J_iconst C dX10_letOn_114 (zi9 rfl rfl) ?_
                    exact hj115 _ _
                  · refine J_iconst C dX10_letOn_110 (zi9 rfl rfl) ?_
                    refine J_goto C 115 dX10_letOn_111 rfl ?_
                    exact hj115 _ _
              · refine J_ic_gt C 102 dX10_letOn_95 rfl (fun _ => ?_) (fun _ => ?_)
                · refine J_iconst C dX10_letOn_102 (zi9 rfl rfl) ?_
                  refine J_loc (L' := [(0, .inr (0, some i0)), (1, .inr (8, some i_1)), (2, .inr (5, some i_48)), (3, .inr (5, some i_50))]) [0, 1, 2, 3] rfl ?_
                  exact hj103 _ _
                · refine J_iconst C dX10_letOn_98 (zi9 rfl rfl) ?_
                  refine J_goto C 103 dX10_letOn_99 rfl ?_
                  refine J_loc (L' := [(0, .inr (0, some i0)), (1, .inr (8, some i_1)), (2, .inr (5, some i_48)), (3, .inr (5, some i_50))]) [0, 1, 2, 3] rfl ?_
                  exact hj103 _ _
    · refine J_join (fun j67 => ∀ (s_56 : zS), zJ zw 6 K (zQm zw eV 0 0 K) 0 0 67 [(0, .inr (0, some i0)), (1, .inr (8, some i_1)), (2, .inr (5, r_6)), (3, .inr (5, r_10)), (4, .inl u_12)] [] s_56 (j67 s_56)) ?_ fun j67 hj67 => ?_
      · intro s_56
        refine J_iconst C dX10_letOn_67 (zi9 rfl rfl) ?_
        exact hj68 _ _
      · refine J_elim (fun e_58 => ?_) (fun i_57 e_58 => ?_)
        · subst e_58
          refine J_null_n C 67 dX10_letOn_44 rfl ?_
          exact hj67 _
        · subst e_58
          refine J_null_s C dX10_letOn_44 ?_
          refine J_aload_n C 0 dX10_letOn_47 rfl ?_
          refine J_aload_n C 1 dX10_letOn_48 rfl ?_
          refine J_aload_n C 1 dX10_letOn_49 rfl ?_
          refine gf_8_8 C dX10_letOn_50 q_210 ?_
          refine J_nmR fun r_59 => ?_
          refine J_aload_n C 1 dX10_letOn_53 rfl ?_
          refine gf_8_7 C dX10_letOn_54 q_208 ?_
          refine J_nmR fun r_60 => ?_
          refine J_callVI (S := []) (avs := [.inr (8, some i_1), .inr (10, r_59), .inr (10, r_60)]) C zx0 yw_56 rfl (kX10_isFree _ _ _ _ _) dX10_letOn_57 rfl (Nat.le_of_ble_eq_true rfl) (by decide) fun x_62 s_61 => ?_
          refine J_if_eq C 67 dX10_letOn_60 rfl (fun _ => ?_) (fun _ => ?_)
          · exact hj67 _
          · refine J_iconst C dX10_letOn_63 (zi9 rfl rfl) ?_
            refine J_goto C 68 dX10_letOn_64 rfl ?_
            exact hj68 _ _
  · refine J_join (fun j40 => ∀ (s_63 : zS), zJ zw 6 K (zQm zw eV 0 0 K) 0 0 40 [(0, .inr (0, some i0)), (1, .inr (8, some i_1)), (2, .inr (5, r_6)), (3, .inr (5, r_10))] [] s_63 (j40 s_63)) ?_ fun j40 hj40 => ?_
    · intro s_63
      refine J_iconst C dX10_letOn_40 (zi9 rfl rfl) ?_
      exact hj41 _ _
    · refine J_elim (fun e_65 => ?_) (fun i_64 e_65 => ?_)
      · subst e_65
        refine J_null_n C 40 dX10_letOn_17 rfl ?_
        exact hj40 _
      · subst e_65
        refine J_null_s C dX10_letOn_17 ?_
        refine J_aload_n C 0 dX10_letOn_20 rfl ?_
        refine J_aload_n C 1 dX10_letOn_21 rfl ?_
        refine J_aload_n C 1 dX10_letOn_22 rfl ?_
        refine gf_8_7 C dX10_letOn_23 q_208 ?_
        refine J_nmR fun r_66 => ?_
        refine J_aload_n C 1 dX10_letOn_26 rfl ?_
        refine gf_8_8 C dX10_letOn_27 q_210 ?_
        refine J_nmR fun r_67 => ?_
        refine J_callVI (S := []) (avs := [.inr (8, some i_1), .inr (10, r_66), .inr (10, r_67)]) C zx0 yw_56 rfl (kX10_isFree _ _ _ _ _) dX10_letOn_30 rfl (Nat.le_of_ble_eq_true rfl) (by decide) fun x_69 s_68 => ?_
        refine J_if_eq C 40 dX10_letOn_33 rfl (fun _ => ?_) (fun _ => ?_)
        · exact hj40 _
        · refine J_iconst C dX10_letOn_36 (zi9 rfl rfl) ?_
          refine J_goto C 41 dX10_letOn_37 rfl ?_
          exact hj41 _ _
def fX10_letOnWires_L2 (k40 : zS → Option (Unit × zS)) (o0 : Nat) (nf : Nat) : Nat → zS → Int → Option (Unit × zS)
  | 0, _, _ => none
  | n + 1, s0, x1 =>
    if x1 < gI s0 0 o0 10 then (nm_ (gR s0 0 o0 0) fun (r_1 : Option Nat) => Option.bind r_1 fun i_2 => g_ ((0 : Int) ≤ x1 ∧ (x1 : Int) < 16) (nm_ (gR s0 11 i_2 (Int.toNat (x1))) fun (r_5 : Option Nat) => Option.bind r_5 fun i_6 => nm_ (gR s0 8 i_6 7) fun (r_8 : Option Nat) => Option.bind r_8 fun i_9 => cl_ (fX9_clear s0 i_9) fun (_ : Unit) (s_11 : zS) => nm_ (gR s_11 0 o0 0) fun (r_12 : Option Nat) => Option.bind r_12 fun i_13 => g_ ((0 : Int) ≤ x1 ∧ (x1 : Int) < 16) (nm_ (gR s_11 11 i_13 (Int.toNat (x1))) fun (r_16 : Option Nat) => Option.bind r_16 fun i_17 => nm_ (gR s_11 8 i_17 8) fun (r_19 : Option Nat) => Option.bind r_19 fun i_20 => cl_ (fX9_clear s_11 i_20) fun (_ : Unit) (s_22 : zS) => nm_ (wr (x1 + 1)) fun (x_23 : Int) => fX10_letOnWires_L2 k40 o0 nf n s_22 x_23))) else (k40 s0)
def fX10_letOnWires_L42 (k65 : zS → Option (Unit × zS)) (o0 : Nat) (nf : Nat) : Nat → zS → Int → Option (Unit × zS)
  | 0, _, _ => none
  | n + 1, s0, x1 =>
    if x1 < gI s0 0 o0 11 then (nm_ (gR s0 0 o0 1) fun (r_2 : Option Nat) => Option.bind r_2 fun i_3 => g_ ((0 : Int) ≤ x1 ∧ (x1 : Int) < 24) (nm_ (gR s0 12 i_3 (Int.toNat (x1))) fun (r_6 : Option Nat) => cl_ (fX10_noteOnWires s0 r_6) fun (_ : Unit) (s_7 : zS) => nm_ (wr (x1 + 1)) fun (x_8 : Int) => fX10_letOnWires_L42 k65 o0 nf n s_7 x_8)) else (k65 s0)
def fX10_letOnWires_L67 (o0 : Nat) (nf : Nat) : Nat → zS → Int → Option (Unit × zS)
  | 0, _, _ => none
  | n + 1, s0, x1 =>
    if x1 < gI s0 0 o0 10 then (nm_ (gR s0 0 o0 0) fun (r_3 : Option Nat) => Option.bind r_3 fun i_4 => g_ ((0 : Int) ≤ x1 ∧ (x1 : Int) < 16) (nm_ (gR s0 11 i_4 (Int.toNat (x1))) fun (r_7 : Option Nat) => Option.bind r_7 fun i_8 => nm_ (fun (s_10 : zS) => nm_ (wr (x1 + 1)) fun (x_11 : Int) => fX10_letOnWires_L67 o0 nf n s_10 x_11) fun (j97 : zS → Option (Unit × zS)) => if gI s0 8 i_8 6 = 0 then (j97 s0) else (nm_ (gR s0 0 o0 0) fun (r_12 : Option Nat) => Option.bind r_12 fun i_13 => g_ ((0 : Int) ≤ x1 ∧ (x1 : Int) < 16) (nm_ (gR s0 11 i_13 (Int.toNat (x1))) fun (r_16 : Option Nat) => cl_ (fX10_letOn s0 o0 r_16) fun (_ : Unit) (s_17 : zS) => j97 s_17)))) else (some ((), s0))
def fX10_letOnWires (nf : Nat) (s0 : zS) (i0 : Nat) : Option (Unit × zS) :=
  fX10_letOnWires_L2 (fun (s_1 : zS) => fX10_letOnWires_L42 (fun (s_2 : zS) => fX10_letOnWires_L67 i0 nf nf s_2 1) i0 nf nf s_1 0) i0 nf nf s0 1
set_option maxHeartbeats 4000000 in
set_option maxRecDepth 20000 in
theorem kX10_letOnWires_L2 {K : zKx} (C : zC zw 2 K RX10 cX10_letOnWires "letOnWires" none 3 68 0 0)  (nf : Nat) (o0 : Nat) (k40 : zS → Option (Unit × zS)) (hk40 : ∀ (s1 : zS), zJ zw 2 K (zQm zw eV 0 0 K) 0 0 40 [(0, .inr (0, some o0))] [] s1 (k40 s1)) : ∀ (n : Nat) (s0 : zS) (x1 : Int), zJ zw 2 K (zQm zw eV 0 0 K) 0 0 2 [(0, .inr (0, some o0)), (1, .inl x1)] [] s0 (fX10_letOnWires_L2 k40 o0 nf n s0 x1) := by
  intro n
  induction n with
  | zero => intro s0 x1; exact J_none
  | succ n ih =>
    intro s0 x1
    rw [fX10_letOnWires_L2]
    refine J_iload_n C 1 dX10_letOnWires_2 rfl ?_
    refine J_aload_n C 0 dX10_letOnWires_3 rfl ?_
    refine gf_0_10 C dX10_letOnWires_4 q_266 ?_
    refine J_ic_ge C 40 dX10_letOnWires_7 rfl (fun _ => ?_) (fun _ => ?_)
    · refine J_loc (L' := [(0, .inr (0, some o0))]) [0] rfl ?_
      exact hk40 _
    · refine J_aload_n C 0 dX10_letOnWires_10 rfl ?_
      refine gf_0_0 C dX10_letOnWires_11 q_256 ?_
      refine J_nmR fun r_1 => ?_
      refine J_iload_n C 1 dX10_letOnWires_14 rfl ?_
      refine J_bind fun i_2 e_3 => ?_
      subst e_3
      refine J_g fun h_4 => ?_
      refine J_aald (t := 11) (N := 16) (u := 8) (a := 2) C (Nat.le_of_ble_eq_true rfl) rfl rfl (fun _ => rfl) h_4 dX10_letOnWires_15 ?_
      refine J_nmR fun r_5 => ?_
      refine J_bind fun i_6 e_7 => ?_
      subst e_7
      refine gf_8_7 C dX10_letOnWires_16 q_208 ?_
      refine J_nmR fun r_8 => ?_
      refine J_bind fun i_9 e_10 => ?_
      subst e_10
      refine J_callVV (S := []) (avs := []) C zx10 yw_57 rfl (kX9_clear _ _) dX10_letOnWires_19 rfl (Nat.le_of_ble_eq_true rfl) (by decide) fun _ s_11 => ?_
      refine J_aload_n C 0 dX10_letOnWires_22 rfl ?_
      refine gf_0_0 C dX10_letOnWires_23 q_256 ?_
      refine J_nmR fun r_12 => ?_
      refine J_iload_n C 1 dX10_letOnWires_26 rfl ?_
      refine J_bind fun i_13 e_14 => ?_
      subst e_14
      refine J_g fun h_15 => ?_
      refine J_aald (t := 11) (N := 16) (u := 8) (a := 2) C (Nat.le_of_ble_eq_true rfl) rfl rfl (fun _ => rfl) h_15 dX10_letOnWires_27 ?_
      refine J_nmR fun r_16 => ?_
      refine J_bind fun i_17 e_18 => ?_
      subst e_18
      refine gf_8_8 C dX10_letOnWires_28 q_210 ?_
      refine J_nmR fun r_19 => ?_
      refine J_bind fun i_20 e_21 => ?_
      subst e_21
      refine J_callVV (S := []) (avs := []) C zx10 yw_57 rfl (kX9_clear _ _) dX10_letOnWires_31 rfl (Nat.le_of_ble_eq_true rfl) (by decide) fun _ s_22 => ?_
      refine J_iinc C 1 dX10_letOnWires_34 (zi9 rfl rfl) (Nat.le_of_ble_eq_true rfl) rfl fun x_23 => ?_
      refine J_goto C 2 dX10_letOnWires_37 rfl ?_
      exact ih _ _
set_option maxHeartbeats 4000000 in
set_option maxRecDepth 20000 in
theorem kX10_letOnWires_L42 {K : zKx} (C : zC zw 2 K RX10 cX10_letOnWires "letOnWires" none 3 68 0 0)  (nf : Nat) (o0 : Nat) (k65 : zS → Option (Unit × zS)) (hk65 : ∀ (s1 : zS), zJ zw 2 K (zQm zw eV 0 0 K) 0 0 65 [(0, .inr (0, some o0))] [] s1 (k65 s1)) : ∀ (n : Nat) (s0 : zS) (x1 : Int), zJ zw 2 K (zQm zw eV 0 0 K) 0 0 42 [(0, .inr (0, some o0)), (1, .inl x1)] [] s0 (fX10_letOnWires_L42 k65 o0 nf n s0 x1) := by
  intro n
  induction n with
  | zero => intro s0 x1; exact J_none
  | succ n ih =>
    intro s0 x1
    rw [fX10_letOnWires_L42]
    refine J_iload_n C 1 dX10_letOnWires_42 rfl ?_
    refine J_aload_n C 0 dX10_letOnWires_43 rfl ?_
    refine gf_0_11 C dX10_letOnWires_44 q_267 ?_
    refine J_ic_ge C 65 dX10_letOnWires_47 rfl (fun _ => ?_) (fun _ => ?_)
    · refine J_loc (L' := [(0, .inr (0, some o0))]) [0] rfl ?_
      exact hk65 _
    · refine J_aload_n C 0 dX10_letOnWires_50 rfl ?_
      refine gf_0_1 C dX10_letOnWires_51 q_257 ?_
      refine J_nmR fun r_2 => ?_
      refine J_iload_n C 1 dX10_letOnWires_54 rfl ?_
      refine J_bind fun i_3 e_4 => ?_
      subst e_4
      refine J_g fun h_5 => ?_
      refine J_aald (t := 12) (N := 24) (u := 5) (a := 3) C (Nat.le_of_ble_eq_true rfl) rfl rfl (fun _ => rfl) h_5 dX10_letOnWires_55 ?_
      refine J_nmR fun r_6 => ?_
      refine J_callSV (S := []) (avs := [.inr (5, r_6)]) C yw_58 (kX10_noteOnWires _ _) dX10_letOnWires_56 rfl (Nat.le_of_ble_eq_true rfl) (by decide) fun _ s_7 => ?_
      refine J_iinc C 1 dX10_letOnWires_59 (zi9 rfl rfl) (Nat.le_of_ble_eq_true rfl) rfl fun x_8 => ?_
      refine J_goto C 42 dX10_letOnWires_62 rfl ?_
      exact ih _ _
set_option maxHeartbeats 4000000 in
set_option maxRecDepth 20000 in
theorem kX10_letOnWires_L67 {K : zKx} (C : zC zw 2 K RX10 cX10_letOnWires "letOnWires" none 3 68 0 0)  (nf : Nat) (o0 : Nat) : ∀ (n : Nat) (s0 : zS) (x1 : Int), zJ zw 2 K (zQm zw eV 0 0 K) 0 0 67 [(0, .inr (0, some o0)), (1, .inl x1)] [] s0 (fX10_letOnWires_L67 o0 nf n s0 x1) := by
  intro n
  induction n with
  | zero => intro s0 x1; exact J_none
  | succ n ih =>
    intro s0 x1
    rw [fX10_letOnWires_L67]
    refine J_iload_n C 1 dX10_letOnWires_67 rfl ?_
    refine J_aload_n C 0 dX10_letOnWires_68 rfl ?_
    refine gf_0_10 C dX10_letOnWires_69 q_266 ?_
    refine J_ic_ge C 103 dX10_letOnWires_72 rfl (fun _ => ?_) (fun _ => ?_)
    · exact J_vret C dX10_letOnWires_103 (by decide) (by decide)
    · refine J_aload_n C 0 dX10_letOnWires_75 rfl ?_
      refine gf_0_0 C dX10_letOnWires_76 q_256 ?_
      refine J_nmR fun r_3 => ?_
      refine J_iload_n C 1 dX10_letOnWires_79 rfl ?_
      refine J_bind fun i_4 e_5 => ?_
      subst e_5
      refine J_g fun h_6 => ?_
      refine J_aald (t := 11) (N := 16) (u := 8) (a := 2) C (Nat.le_of_ble_eq_true rfl) rfl rfl (fun _ => rfl) h_6 dX10_letOnWires_80 ?_
      refine J_nmR fun r_7 => ?_
      refine J_bind fun i_8 e_9 => ?_
      subst e_9
      refine gf_8_6 C dX10_letOnWires_81 q_206 ?_
      refine J_join (fun j97 => ∀ (s_10 : zS), zJ zw 2 K (zQm zw eV 0 0 K) 0 0 97 [(0, .inr (0, some o0)), (1, .inl x1)] [] s_10 (j97 s_10)) ?_ fun j97 hj97 => ?_
      · intro s_10
        refine J_iinc C 1 dX10_letOnWires_97 (zi9 rfl rfl) (Nat.le_of_ble_eq_true rfl) rfl fun x_11 => ?_
        refine J_goto C 67 dX10_letOnWires_100 rfl ?_
        exact ih _ _
      · refine J_if_eq C 97 dX10_letOnWires_84 rfl (fun _ => ?_) (fun _ => ?_)
        · exact hj97 _
        · refine J_aload_n C 0 dX10_letOnWires_87 rfl ?_
          refine J_aload_n C 0 dX10_letOnWires_88 rfl ?_
          refine gf_0_0 C dX10_letOnWires_89 q_256 ?_
          refine J_nmR fun r_12 => ?_
          refine J_iload_n C 1 dX10_letOnWires_92 rfl ?_
          refine J_bind fun i_13 e_14 => ?_
          subst e_14
          refine J_g fun h_15 => ?_
          refine J_aald (t := 11) (N := 16) (u := 8) (a := 2) C (Nat.le_of_ble_eq_true rfl) rfl rfl (fun _ => rfl) h_15 dX10_letOnWires_93 ?_
          refine J_nmR fun r_16 => ?_
          refine J_callVV (S := []) (avs := [.inr (8, r_16)]) C zx0 yw_59 rfl (kX10_letOn _ _ _) dX10_letOnWires_94 rfl (Nat.le_of_ble_eq_true rfl) (by decide) fun _ s_17 => ?_
          exact hj97 _
set_option maxHeartbeats 4000000 in
set_option maxRecDepth 20000 in
theorem kX10_letOnWires (nf : Nat) (s0 : zS) (i0 : Nat) : zCt zw yX10_letOnWires cX10_letOnWires 2 none 3 68 0 0 eV [.inr (0, some i0)] s0 (fX10_letOnWires nf s0 i0) := by
  refine zCt_on (own := RX10) (nm := "letOnWires") rfl rfl (by decide) (Nat.le_of_ble_eq_true rfl) fun K C => ?_
  show zJ zw 2 K _ 0 0 0 [(0, .inr (0, some i0))] [] s0 (fX10_letOnWires nf s0 i0)
  unfold fX10_letOnWires
  refine J_iconst C dX10_letOnWires_0 (zi9 rfl rfl) ?_
  refine J_istore_n (L' := [(0, .inr (0, some i0)), (1, .inl 1)]) C dX10_letOnWires_1 (Nat.le_of_ble_eq_true rfl) rfl ?_
  refine kX10_letOnWires_L2 C _ _ _ ?_ _ _ _
  intro s_1
  refine J_iconst C dX10_letOnWires_40 (zi9 rfl rfl) ?_
  refine J_istore_n (L' := [(0, .inr (0, some i0)), (1, .inl 0)]) C dX10_letOnWires_41 (Nat.le_of_ble_eq_true rfl) rfl ?_
  refine kX10_letOnWires_L42 C _ _ _ ?_ _ _ _
  intro s_2
  refine J_iconst C dX10_letOnWires_65 (zi9 rfl rfl) ?_
  refine J_istore_n (L' := [(0, .inr (0, some i0)), (1, .inl 1)]) C dX10_letOnWires_66 (Nat.le_of_ble_eq_true rfl) rfl ?_
  exact kX10_letOnWires_L67 C _ _ _ _ _
def fX10_tick_L31 (o0 : Nat) (c1 : Int) (nf : Nat) : Nat → zS → Int → Option (Int × zS)
  | 0, _, _ => none
  | n + 1, s0, x2 =>
    if x2 < c1 then (up_ (sI s0 0 o0 13 (wr ((gI s0 0 o0 13) + 1))) fun (s_3 : zS) => cl_ (fX10_moveCups nf s_3 o0) fun (_ : Unit) (s_4 : zS) => cl_ (fX10_porterCups nf s_4 o0) fun (_ : Unit) (s_5 : zS) => cl_ (fX10_workClerks nf s_5 o0) fun (_ : Unit) (s_6 : zS) => nm_ (gR s_6 0 o0 6) fun (r_7 : Option Nat) => nm_ (gR s_6 0 o0 4) fun (r_8 : Option Nat) => Option.bind r_7 fun i_9 => cl_ (fX5_bring nf s_6 i_9 (gI s_6 0 o0 13) r_8) fun (_ : Unit) (s_11 : zS) => cl_ (fX10_takeFromRow nf s_11 o0) fun (_ : Unit) (s_12 : zS) => cl_ (fX10_letOnWires nf s_12 o0) fun (_ : Unit) (s_13 : zS) => nm_ (wr (x2 + 1)) fun (x_14 : Int) => fX10_tick_L31 o0 c1 nf n s_13 x_14) else (some (gI s0 0 o0 13, s0))
def fX10_tick (nf : Nat) (s0 : zS) (i0 : Nat) (x1 : Int) : Option (Int × zS) :=
  cl_ (fX10_within s0 x1 1 200) fun (x_2 : Int) (s_1 : zS) => if x_2 = 0 then (some ((-2), s_1)) else (if 20000 < wr ((gI s_1 0 i0 13) + x1) then (some ((-4), s_1)) else (fX10_tick_L31 i0 x1 nf nf s_1 0))
set_option maxHeartbeats 4000000 in
set_option maxRecDepth 20000 in
theorem kX10_tick_L31 {K : zKx} (C : zC zw 3 K RX10 cX10_tick "tick" (some .int) 6 137 0 0)  (nf : Nat) (o0 : Nat) (c1 : Int) : ∀ (n : Nat) (s0 : zS) (x2 : Int), zJ zw 3 K (zQm zw eI 0 0 K) 0 0 31 [(0, .inr (0, some o0)), (1, .inl c1), (2, .inl x2)] [] s0 (fX10_tick_L31 o0 c1 nf n s0 x2) := by
  intro n
  induction n with
  | zero => intro s0 x2; exact J_none
  | succ n ih =>
    intro s0 x2
    rw [fX10_tick_L31]
    refine J_iload_n C 2 dX10_tick_31 rfl ?_
    refine J_iload_n C 1 dX10_tick_32 rfl ?_
    refine J_ic_ge C 87 dX10_tick_33 rfl (fun _ => ?_) (fun _ => ?_)
    · refine J_aload_n C 0 dX10_tick_87 rfl ?_
      refine gf_0_13 C dX10_tick_88 q_269 ?_
      exact J_iret C dX10_tick_91 (by decide) (by decide)
    · refine J_aload_n C 0 dX10_tick_36 rfl ?_
      refine J_dup C dX10_tick_37 ?_
      refine gf_0_13 C dX10_tick_38 q_269 ?_
      refine J_iconst C dX10_tick_41 (zi9 rfl rfl) ?_
      refine J_iadd C dX10_tick_42 ?_
      refine pf_0_13 C dX10_tick_43 q_269 fun s_3 => ?_
      refine J_aload_n C 0 dX10_tick_46 rfl ?_
      refine J_callVV (S := []) (avs := []) C zx0 yw_65 rfl (kX10_moveCups _ _ _) dX10_tick_47 rfl (Nat.le_of_ble_eq_true rfl) (by decide) fun _ s_4 => ?_
      refine J_aload_n C 0 dX10_tick_50 rfl ?_
      refine J_callVV (S := []) (avs := []) C zx0 yw_64 rfl (kX10_porterCups _ _ _) dX10_tick_51 rfl (Nat.le_of_ble_eq_true rfl) (by decide) fun _ s_5 => ?_
      refine J_aload_n C 0 dX10_tick_54 rfl ?_
      refine J_callVV (S := []) (avs := []) C zx0 yw_63 rfl (kX10_workClerks _ _ _) dX10_tick_55 rfl (Nat.le_of_ble_eq_true rfl) (by decide) fun _ s_6 => ?_
      refine J_aload_n C 0 dX10_tick_58 rfl ?_
      refine gf_0_6 C dX10_tick_59 q_262 ?_
      refine J_nmR fun r_7 => ?_
      refine J_aload_n C 0 dX10_tick_62 rfl ?_
      refine gf_0_13 C dX10_tick_63 q_269 ?_
      refine J_aload_n C 0 dX10_tick_66 rfl ?_
      refine gf_0_4 C dX10_tick_67 q_260 ?_
      refine J_nmR fun r_8 => ?_
      refine J_bind fun i_9 e_10 => ?_
      subst e_10
      refine J_callVV (S := []) (avs := [.inl (gI s_6 0 o0 13), .inr (4, r_8)]) C zx6 yw_62 rfl (kX5_bring _ _ _ _ _) dX10_tick_70 rfl (Nat.le_of_ble_eq_true rfl) (by decide) fun _ s_11 => ?_
      refine J_aload_n C 0 dX10_tick_73 rfl ?_
      refine J_callVV (S := []) (avs := []) C zx0 yw_61 rfl (kX10_takeFromRow _ _ _) dX10_tick_74 rfl (Nat.le_of_ble_eq_true rfl) (by decide) fun _ s_12 => ?_
      refine J_aload_n C 0 dX10_tick_77 rfl ?_
      refine J_callVV (S := []) (avs := []) C zx0 yw_60 rfl (kX10_letOnWires _ _ _) dX10_tick_78 rfl (Nat.le_of_ble_eq_true rfl) (by decide) fun _ s_13 => ?_
      refine J_iinc C 2 dX10_tick_81 (zi9 rfl rfl) (Nat.le_of_ble_eq_true rfl) rfl fun x_14 => ?_
      refine J_goto C 31 dX10_tick_84 rfl ?_
      exact ih _ _
set_option maxHeartbeats 4000000 in
set_option maxRecDepth 20000 in
theorem kX10_tick (nf : Nat) (s0 : zS) (i0 : Nat) (x1 : Int) : zCt zw yX10_tick cX10_tick 3 (some .int) 6 137 0 0 eI [.inr (0, some i0), .inl x1] s0 (fX10_tick nf s0 i0 x1) := by
  refine zCt_on (own := RX10) (nm := "tick") rfl rfl (by decide) (Nat.le_of_ble_eq_true rfl) fun K C => ?_
  show zJ zw 3 K _ 0 0 0 [(0, .inr (0, some i0)), (1, .inl x1)] [] s0 (fX10_tick nf s0 i0 x1)
  unfold fX10_tick
  refine J_iload_n C 1 dX10_tick_0 rfl ?_
  refine J_iconst C dX10_tick_1 (zi9 rfl rfl) ?_
  refine J_sipush C dX10_tick_2 (zi9 rfl rfl) (by decide) ?_
  refine J_callSI (S := []) (avs := [.inl x1, .inl 1, .inl 200]) C yw_8 (kX10_within _ _ _ _) dX10_tick_5 rfl (Nat.le_of_ble_eq_true rfl) (by decide) fun x_2 s_1 => ?_
  refine J_if_ne C 14 dX10_tick_8 rfl (fun _ => ?_) (fun _ => ?_)
  · refine J_aload_n C 0 dX10_tick_14 rfl ?_
    refine gf_0_13 C dX10_tick_15 q_269 ?_
    refine J_iload_n C 1 dX10_tick_18 rfl ?_
    refine J_iadd C dX10_tick_19 ?_
    refine J_sipush C dX10_tick_20 (zi9 rfl rfl) (by decide) ?_
    refine J_ic_le C 29 dX10_tick_23 rfl (fun _ => ?_) (fun _ => ?_)
    · refine J_iconst C dX10_tick_29 (zi9 rfl rfl) ?_
      refine J_istore_n (L' := [(0, .inr (0, some i0)), (1, .inl x1), (2, .inl 0)]) C dX10_tick_30 (Nat.le_of_ble_eq_true rfl) rfl ?_
      exact kX10_tick_L31 C _ _ _ _ _ _
    · refine J_bipush C dX10_tick_26 (zi9 rfl rfl) (by decide) ?_
      exact J_iret C dX10_tick_28 (by decide) (by decide)
  · refine J_bipush C dX10_tick_11 (zi9 rfl rfl) (by decide) ?_
    exact J_iret C dX10_tick_13 (by decide) (by decide)
def fX10_lineUp_L32 (k77 : zS → Int → Option (Int × zS)) (o0 : Nat) (c1 : Int) (c2 : Int) (c3 : Int) (o4 : Nat) (nf : Nat) : Nat → zS → Int → Option (Int × zS)
  | 0, _, _ => none
  | n + 1, s0, x5 =>
    if 0 < x5 then (nm_ (gR s0 0 o0 3) fun (r_11 : Option Nat) => Option.bind r_11 fun i_12 => g_ ((0 : Int) ≤ wr (x5 - 1) ∧ (wr (x5 - 1) : Int) < 24) (nm_ (gR s0 14 i_12 (Int.toNat (wr (x5 - 1)))) fun (r_15 : Option Nat) => cl_ (fX4_isAhead s0 o4 r_15 c1) fun (x_17 : Int) (s_16 : zS) => if x_17 = 0 then (k77 s_16 x5) else (nm_ (gR s_16 0 o0 3) fun (r_18 : Option Nat) => nm_ (gR s_16 0 o0 3) fun (r_19 : Option Nat) => Option.bind r_19 fun i_20 => g_ ((0 : Int) ≤ wr (x5 - 1) ∧ (wr (x5 - 1) : Int) < 24) (nm_ (gR s_16 14 i_20 (Int.toNat (wr (x5 - 1)))) fun (r_23 : Option Nat) => Option.bind r_23 fun i_24 => Option.bind r_18 fun i_26 => g_ ((0 : Int) ≤ x5 ∧ (x5 : Int) < 24) (up_ (sR s_16 14 i_26 (Int.toNat (x5)) (some i_24)) fun (s_29 : zS) => nm_ (wr (x5 + (-1))) fun (x_30 : Int) => fX10_lineUp_L32 k77 o0 c1 c2 c3 o4 nf n s_29 x_30))))) else (k77 s0 x5)
def fX10_lineUp_L4 (o0 : Nat) (c1 : Int) (nf : Nat) : Nat → zS → Int → Int → Option (Int × zS)
  | 0, _, _, _ => none
  | n + 1, s0, x2, x3 =>
    if x3 < gI s0 0 o0 11 then (nm_ (gR s0 0 o0 1) fun (r_1 : Option Nat) => Option.bind r_1 fun i_2 => g_ ((0 : Int) ≤ x3 ∧ (x3 : Int) < 24) (nm_ (gR s0 12 i_2 (Int.toNat (x3))) fun (r_5 : Option Nat) => Option.bind r_5 fun i_6 => nm_ (fun (s_8 : zS) (y_9 : Int) => nm_ (wr (x3 + 1)) fun (x_10 : Int) => fX10_lineUp_L4 o0 c1 nf n s_8 y_9 x_10) fun (j89 : zS → Int → Option (Int × zS)) => if gI s0 5 i_6 3 = 3 then (fX10_lineUp_L32 (fun (s_12 : zS) (y_11 : Int) => nm_ (gR s_12 0 o0 3) fun (r_13 : Option Nat) => Option.bind r_13 fun i_14 => g_ ((0 : Int) ≤ y_11 ∧ (y_11 : Int) < 24) (up_ (sR s_12 14 i_14 (Int.toNat (y_11)) (some i_6)) fun (s_17 : zS) => nm_ (wr (x2 + 1)) fun (x_18 : Int) => j89 s_17 x_18)) o0 c1 x2 x3 i_6 nf nf s0 x2) else (j89 s0 x2))) else (some (x2, s0))
def fX10_lineUp (nf : Nat) (s0 : zS) (i0 : Nat) (x1 : Int) : Option (Int × zS) :=
  fX10_lineUp_L4 i0 x1 nf nf s0 0 0
set_option maxHeartbeats 4000000 in
set_option maxRecDepth 20000 in
theorem kX10_lineUp_L32 {K : zKx} (C : zC zw 6 K RX10 cX10_lineUp "lineUp" (some .int) 2 44 0 0)  (nf : Nat) (o0 : Nat) (c1 : Int) (c2 : Int) (c3 : Int) (o4 : Nat) (k77 : zS → Int → Option (Int × zS)) (hk77 : ∀ (s1 : zS) (z5 : Int), zJ zw 6 K (zQm zw eI 0 0 K) 0 0 77 [(0, .inr (0, some o0)), (1, .inl c1), (2, .inl c2), (3, .inl c3), (4, .inr (5, some o4)), (5, .inl z5)] [] s1 (k77 s1 z5)) : ∀ (n : Nat) (s0 : zS) (x5 : Int), zJ zw 6 K (zQm zw eI 0 0 K) 0 0 32 [(0, .inr (0, some o0)), (1, .inl c1), (2, .inl c2), (3, .inl c3), (4, .inr (5, some o4)), (5, .inl x5)] [] s0 (fX10_lineUp_L32 k77 o0 c1 c2 c3 o4 nf n s0 x5) := by
  intro n
  induction n with
  | zero => intro s0 x5; exact J_none
  | succ n ih =>
    intro s0 x5
    rw [fX10_lineUp_L32]
    refine J_iload C 5 dX10_lineUp_32 rfl ?_
    refine J_if_le C 77 dX10_lineUp_34 rfl (fun _ => ?_) (fun _ => ?_)
    · exact hk77 _ _
    · refine J_aload C 4 dX10_lineUp_37 rfl ?_
      refine J_aload_n C 0 dX10_lineUp_39 rfl ?_
      refine gf_0_3 C dX10_lineUp_40 q_259 ?_
      refine J_nmR fun r_11 => ?_
      refine J_iload C 5 dX10_lineUp_43 rfl ?_
      refine J_iconst C dX10_lineUp_45 (zi9 rfl rfl) ?_
      refine J_isub C dX10_lineUp_46 ?_
      refine J_bind fun i_12 e_13 => ?_
      subst e_13
      refine J_g fun h_14 => ?_
      refine J_aald (t := 14) (N := 24) (u := 5) (a := 3) C (Nat.le_of_ble_eq_true rfl) rfl rfl (fun _ => rfl) h_14 dX10_lineUp_47 ?_
      refine J_nmR fun r_15 => ?_
      refine J_iload_n C 1 dX10_lineUp_48 rfl ?_
      refine J_callVI (S := []) (avs := [.inr (5, r_15), .inl c1]) C zx5 yw_50 rfl (kX4_isAhead _ _ _ _) dX10_lineUp_49 rfl (Nat.le_of_ble_eq_true rfl) (by decide) fun x_17 s_16 => ?_
      refine J_if_eq C 77 dX10_lineUp_52 rfl (fun _ => ?_) (fun _ => ?_)
      · exact hk77 _ _
      · refine J_aload_n C 0 dX10_lineUp_55 rfl ?_
        refine gf_0_3 C dX10_lineUp_56 q_259 ?_
        refine J_nmR fun r_18 => ?_
        refine J_iload C 5 dX10_lineUp_59 rfl ?_
        refine J_aload_n C 0 dX10_lineUp_61 rfl ?_
        refine gf_0_3 C dX10_lineUp_62 q_259 ?_
        refine J_nmR fun r_19 => ?_
        refine J_iload C 5 dX10_lineUp_65 rfl ?_
        refine J_iconst C dX10_lineUp_67 (zi9 rfl rfl) ?_
        refine J_isub C dX10_lineUp_68 ?_
        refine J_bind fun i_20 e_21 => ?_
        subst e_21
        refine J_g fun h_22 => ?_
        refine J_aald (t := 14) (N := 24) (u := 5) (a := 3) C (Nat.le_of_ble_eq_true rfl) rfl rfl (fun _ => rfl) h_22 dX10_lineUp_69 ?_
        refine J_nmR fun r_23 => ?_
        refine J_bind fun i_24 e_25 => ?_
        subst e_25
        refine J_bind fun i_26 e_27 => ?_
        subst e_27
        refine J_g fun h_28 => ?_
        refine J_aast (t := 14) (N := 24) (u := 5) (a := 3) C zx5 (Nat.le_of_ble_eq_true rfl) rfl rfl (fun _ => rfl) h_28 dX10_lineUp_70 fun s_29 => ?_
        refine J_iinc C 5 dX10_lineUp_71 (zi9 rfl rfl) (Nat.le_of_ble_eq_true rfl) rfl fun x_30 => ?_
        refine J_goto C 32 dX10_lineUp_74 rfl ?_
        exact ih _ _
set_option maxHeartbeats 4000000 in
set_option maxRecDepth 20000 in
theorem kX10_lineUp_L4 {K : zKx} (C : zC zw 6 K RX10 cX10_lineUp "lineUp" (some .int) 2 44 0 0)  (nf : Nat) (o0 : Nat) (c1 : Int) : ∀ (n : Nat) (s0 : zS) (x2 : Int) (x3 : Int), zJ zw 6 K (zQm zw eI 0 0 K) 0 0 4 [(0, .inr (0, some o0)), (1, .inl c1), (2, .inl x2), (3, .inl x3)] [] s0 (fX10_lineUp_L4 o0 c1 nf n s0 x2 x3) := by
  intro n
  induction n with
  | zero => intro s0 x2 x3; exact J_none
  | succ n ih =>
    intro s0 x2 x3
    rw [fX10_lineUp_L4]
    refine J_iload_n C 3 dX10_lineUp_4 rfl ?_
    refine J_aload_n C 0 dX10_lineUp_5 rfl ?_
    refine gf_0_11 C dX10_lineUp_6 q_267 ?_
    refine J_ic_ge C 95 dX10_lineUp_9 rfl (fun _ => ?_) (fun _ => ?_)
    · refine J_iload_n C 2 dX10_lineUp_95 rfl ?_
      exact J_iret C dX10_lineUp_96 (by decide) (by decide)
    · refine J_aload_n C 0 dX10_lineUp_12 rfl ?_
      refine gf_0_1 C dX10_lineUp_13 q_257 ?_
      refine J_nmR fun r_1 => ?_
      refine J_iload_n C 3 dX10_lineUp_16 rfl ?_
      refine J_bind fun i_2 e_3 => ?_
      subst e_3
      refine J_g fun h_4 => ?_
      refine J_aald (t := 12) (N := 24) (u := 5) (a := 3) C (Nat.le_of_ble_eq_true rfl) rfl rfl (fun _ => rfl) h_4 dX10_lineUp_17 ?_
      refine J_nmR fun r_5 => ?_
      refine J_astore (L' := [(0, .inr (0, some o0)), (1, .inl c1), (2, .inl x2), (3, .inl x3), (4, .inr (5, r_5))]) C dX10_lineUp_18 (Nat.le_of_ble_eq_true rfl) rfl ?_
      refine J_aload C 4 dX10_lineUp_20 rfl ?_
      refine J_bind fun i_6 e_7 => ?_
      subst e_7
      refine gf_5_3 C dX10_lineUp_22 q_360 ?_
      refine J_iconst C dX10_lineUp_25 (zi9 rfl rfl) ?_
      refine J_join (fun j89 => ∀ (s_8 : zS) (y_9 : Int), zJ zw 6 K (zQm zw eI 0 0 K) 0 0 89 [(0, .inr (0, some o0)), (1, .inl c1), (2, .inl y_9), (3, .inl x3)] [] s_8 (j89 s_8 y_9)) ?_ fun j89 hj89 => ?_
      · intro s_8 y_9
        refine J_iinc C 3 dX10_lineUp_89 (zi9 rfl rfl) (Nat.le_of_ble_eq_true rfl) rfl fun x_10 => ?_
        refine J_goto C 4 dX10_lineUp_92 rfl ?_
        exact ih _ _ _
      · refine J_ic_ne C 89 dX10_lineUp_26 rfl (fun _ => ?_) (fun _ => ?_)
        · refine J_loc (L' := [(0, .inr (0, some o0)), (1, .inl c1), (2, .inl x2), (3, .inl x3)]) [0, 1, 2, 3] rfl ?_
          exact hj89 _ _
        · refine J_iload_n C 2 dX10_lineUp_29 rfl ?_
          refine J_istore (L' := [(0, .inr (0, some o0)), (1, .inl c1), (2, .inl x2), (3, .inl x3), (4, .inr (5, some i_6)), (5, .inl x2)]) C dX10_lineUp_30 (Nat.le_of_ble_eq_true rfl) rfl ?_
          refine kX10_lineUp_L32 C _ _ _ _ _ _ _ ?_ _ _ _
          intro s_12 y_11
          refine J_aload_n C 0 dX10_lineUp_77 rfl ?_
          refine gf_0_3 C dX10_lineUp_78 q_259 ?_
          refine J_nmR fun r_13 => ?_
          refine J_iload C 5 dX10_lineUp_81 rfl ?_
          refine J_aload C 4 dX10_lineUp_83 rfl ?_
          refine J_bind fun i_14 e_15 => ?_
          subst e_15
          refine J_g fun h_16 => ?_
          refine J_aast (t := 14) (N := 24) (u := 5) (a := 3) C zx5 (Nat.le_of_ble_eq_true rfl) rfl rfl (fun _ => rfl) h_16 dX10_lineUp_85 fun s_17 => ?_
          refine J_iinc C 2 dX10_lineUp_86 (zi9 rfl rfl) (Nat.le_of_ble_eq_true rfl) rfl fun x_18 => ?_
          refine J_loc (L' := [(0, .inr (0, some o0)), (1, .inl c1), (2, .inl x_18), (3, .inl x3)]) [0, 1, 2, 3] rfl ?_
          exact hj89 _ _
set_option maxHeartbeats 4000000 in
set_option maxRecDepth 20000 in
theorem kX10_lineUp (nf : Nat) (s0 : zS) (i0 : Nat) (x1 : Int) : zCt zw yX10_lineUp cX10_lineUp 6 (some .int) 2 44 0 0 eI [.inr (0, some i0), .inl x1] s0 (fX10_lineUp nf s0 i0 x1) := by
  refine zCt_on (own := RX10) (nm := "lineUp") rfl rfl (by decide) (Nat.le_of_ble_eq_true rfl) fun K C => ?_
  show zJ zw 6 K _ 0 0 0 [(0, .inr (0, some i0)), (1, .inl x1)] [] s0 (fX10_lineUp nf s0 i0 x1)
  unfold fX10_lineUp
  refine J_iconst C dX10_lineUp_0 (zi9 rfl rfl) ?_
  refine J_istore_n (L' := [(0, .inr (0, some i0)), (1, .inl x1), (2, .inl 0)]) C dX10_lineUp_1 (Nat.le_of_ble_eq_true rfl) rfl ?_
  refine J_iconst C dX10_lineUp_2 (zi9 rfl rfl) ?_
  refine J_istore_n (L' := [(0, .inr (0, some i0)), (1, .inl x1), (2, .inl 0), (3, .inl 0)]) C dX10_lineUp_3 (Nat.le_of_ble_eq_true rfl) rfl ?_
  exact kX10_lineUp_L4 C _ _ _ _ _ _ _
def fX10_row (nf : Nat) (s0 : zS) (i0 : Nat) (x1 : Int) : Option (Int × zS) :=
  cl_ (fX10_lineUp nf s0 i0 (gI s0 0 i0 14)) fun (x_2 : Int) (s_1 : zS) => if x1 < 0 then (some ((-9), s_1)) else (if x1 < x_2 then (nm_ (gR s_1 0 i0 3) fun (r_3 : Option Nat) => Option.bind r_3 fun i_4 => g_ ((0 : Int) ≤ x1 ∧ (x1 : Int) < 24) (nm_ (gR s_1 14 i_4 (Int.toNat (x1))) fun (r_7 : Option Nat) => Option.bind r_7 fun i_8 => some (gI s_1 5 i_8 0, s_1))) else (some ((-9), s_1)))
set_option maxHeartbeats 4000000 in
set_option maxRecDepth 20000 in
theorem kX10_row (nf : Nat) (s0 : zS) (i0 : Nat) (x1 : Int) : zCt zw yX10_row cX10_row 3 (some .int) 3 69 0 0 eI [.inr (0, some i0), .inl x1] s0 (fX10_row nf s0 i0 x1) := by
  refine zCt_on (own := RX10) (nm := "row") rfl rfl (by decide) (Nat.le_of_ble_eq_true rfl) fun K C => ?_
  show zJ zw 3 K _ 0 0 0 [(0, .inr (0, some i0)), (1, .inl x1)] [] s0 (fX10_row nf s0 i0 x1)
  unfold fX10_row
  refine J_aload_n C 0 dX10_row_0 rfl ?_
  refine J_aload_n C 0 dX10_row_1 rfl ?_
  refine gf_0_14 C dX10_row_2 q_270 ?_
  refine J_callVI (S := []) (avs := [.inl (gI s0 0 i0 14)]) C zx0 yw_66 rfl (kX10_lineUp _ _ _ _) dX10_row_5 rfl (Nat.le_of_ble_eq_true rfl) (by decide) fun x_2 s_1 => ?_
  refine J_istore_n (L' := [(0, .inr (0, some i0)), (1, .inl x1), (2, .inl x_2)]) C dX10_row_8 (Nat.le_of_ble_eq_true rfl) rfl ?_
  refine J_iload_n C 1 dX10_row_9 rfl ?_
  refine J_if_lt C 18 dX10_row_10 rfl (fun _ => ?_) (fun _ => ?_)
  · refine J_bipush C dX10_row_18 (zi9 rfl rfl) (by decide) ?_
    refine J_goto C 32 dX10_row_20 rfl ?_
    exact J_iret C dX10_row_32 (by decide) (by decide)
  · refine J_iload_n C 1 dX10_row_13 rfl ?_
    refine J_iload_n C 2 dX10_row_14 rfl ?_
    refine J_ic_lt C 23 dX10_row_15 rfl (fun _ => ?_) (fun _ => ?_)
    · refine J_aload_n C 0 dX10_row_23 rfl ?_
      refine gf_0_3 C dX10_row_24 q_259 ?_
      refine J_nmR fun r_3 => ?_
      refine J_iload_n C 1 dX10_row_27 rfl ?_
      refine J_bind fun i_4 e_5 => ?_
      subst e_5
      refine J_g fun h_6 => ?_
      refine J_aald (t := 14) (N := 24) (u := 5) (a := 3) C (Nat.le_of_ble_eq_true rfl) rfl rfl (fun _ => rfl) h_6 dX10_row_28 ?_
      refine J_nmR fun r_7 => ?_
      refine J_bind fun i_8 e_9 => ?_
      subst e_9
      refine gf_5_0 C dX10_row_29 q_354 ?_
      exact J_iret C dX10_row_32 (by decide) (by decide)
    · refine J_bipush C dX10_row_18 (zi9 rfl rfl) (by decide) ?_
      refine J_goto C 32 dX10_row_20 rfl ?_
      exact J_iret C dX10_row_32 (by decide) (by decide)
def fX10_clerkAt (s0 : zS) (i0 : Nat) (x1 : Int) (x2 : Int) : Option (Int × zS) :=
  if x1 < 0 then (some ((-1), s0)) else (if x1 < gI s0 0 i0 12 then (nm_ (gR s0 0 i0 2) fun (r_1 : Option Nat) => Option.bind r_1 fun i_2 => g_ ((0 : Int) ≤ x1 ∧ (x1 : Int) < 4) (nm_ (gR s0 13 i_2 (Int.toNat (x1))) fun (r_5 : Option Nat) => if x2 = 0 then (Option.bind r_5 fun i_7 => nm_ (gR s0 3 i_7 2) fun (r_9 : Option Nat) => Option.elim r_9 (some ((-9), s0)) fun i_10 => nm_ (gR s0 3 i_7 2) fun (r_12 : Option Nat) => Option.bind r_12 fun i_13 => some (gI s0 5 i_13 0, s0)) else (if x2 = 1 then (Option.bind r_5 fun i_16 => some (gI s0 3 i_16 3, s0)) else (if x2 = 2 then (Option.bind r_5 fun i_19 => some (gI s0 3 i_19 1, s0)) else (some ((-2), s0)))))) else (some ((-1), s0)))
set_option maxHeartbeats 4000000 in
set_option maxRecDepth 20000 in
theorem kX10_clerkAt (s0 : zS) (i0 : Nat) (x1 : Int) (x2 : Int) : zCt zw yX10_clerkAt cX10_clerkAt 4 (some .int) 0 0 0 0 eI [.inr (0, some i0), .inl x1, .inl x2] s0 (fX10_clerkAt s0 i0 x1 x2) := by
  refine zCt_on (own := RX10) (nm := "clerkAt") rfl rfl (by decide) (Nat.le_of_ble_eq_true rfl) fun K C => ?_
  show zJ zw 4 K _ 0 0 0 [(0, .inr (0, some i0)), (1, .inl x1), (2, .inl x2)] [] s0 (fX10_clerkAt s0 i0 x1 x2)
  unfold fX10_clerkAt
  refine J_iload_n C 1 dX10_clerkAt_0 rfl ?_
  refine J_if_lt C 12 dX10_clerkAt_1 rfl (fun _ => ?_) (fun _ => ?_)
  · refine J_iconst C dX10_clerkAt_12 (zi9 rfl rfl) ?_
    exact J_iret C dX10_clerkAt_13 (by decide) (by decide)
  · refine J_iload_n C 1 dX10_clerkAt_4 rfl ?_
    refine J_aload_n C 0 dX10_clerkAt_5 rfl ?_
    refine gf_0_12 C dX10_clerkAt_6 q_268 ?_
    refine J_ic_lt C 14 dX10_clerkAt_9 rfl (fun _ => ?_) (fun _ => ?_)
    · refine J_aload_n C 0 dX10_clerkAt_14 rfl ?_
      refine gf_0_2 C dX10_clerkAt_15 q_258 ?_
      refine J_nmR fun r_1 => ?_
      refine J_iload_n C 1 dX10_clerkAt_18 rfl ?_
      refine J_bind fun i_2 e_3 => ?_
      subst e_3
      refine J_g fun h_4 => ?_
      refine J_aald (t := 13) (N := 4) (u := 3) (a := 4) C (Nat.le_of_ble_eq_true rfl) rfl rfl (fun _ => rfl) h_4 dX10_clerkAt_19 ?_
      refine J_nmR fun r_5 => ?_
      refine J_astore_n (L' := [(0, .inr (0, some i0)), (1, .inl x1), (2, .inl x2), (3, .inr (3, r_5))]) C dX10_clerkAt_20 (Nat.le_of_ble_eq_true rfl) rfl ?_
      refine J_iload_n C 2 dX10_clerkAt_21 rfl ?_
      refine J_if (fun h_6 => ?_) (fun h_6 => ?_)
      · refine J_swIn C 48 dX10_clerkAt_22 (by omega) (by omega) (by rw [h_6]; rfl) rfl ?_
        refine J_aload_n C 3 dX10_clerkAt_48 rfl ?_
        refine J_bind fun i_7 e_8 => ?_
        subst e_8
        refine gf_3_2 C dX10_clerkAt_49 q_428 ?_
        refine J_nmR fun r_9 => ?_
        refine J_elim (fun e_11 => ?_) (fun i_10 e_11 => ?_)
        · subst e_11
          refine J_nonnull_n C dX10_clerkAt_52 ?_
          refine J_bipush C dX10_clerkAt_55 (zi9 rfl rfl) (by decide) ?_
          refine J_goto C 67 dX10_clerkAt_57 rfl ?_
          exact J_iret C dX10_clerkAt_67 (by decide) (by decide)
        · subst e_11
          refine J_nonnull_s C 60 dX10_clerkAt_52 rfl ?_
          refine J_aload_n C 3 dX10_clerkAt_60 rfl ?_
          refine gf_3_2 C dX10_clerkAt_61 q_428 ?_
          refine J_nmR fun r_12 => ?_
          refine J_bind fun i_13 e_14 => ?_
          subst e_14
          refine gf_5_0 C dX10_clerkAt_64 q_354 ?_
          exact J_iret C dX10_clerkAt_67 (by decide) (by decide)
      · refine J_if (fun h_15 => ?_) (fun h_15 => ?_)
        · refine J_swIn C 68 dX10_clerkAt_22 (by omega) (by omega) (by rw [h_15]; rfl) rfl ?_
          refine J_aload_n C 3 dX10_clerkAt_68 rfl ?_
          refine J_bind fun i_16 e_17 => ?_
          subst e_17
          refine gf_3_3 C dX10_clerkAt_69 q_430 ?_
          exact J_iret C dX10_clerkAt_72 (by decide) (by decide)
        · refine J_if (fun h_18 => ?_) (fun h_18 => ?_)
          · refine J_swIn C 73 dX10_clerkAt_22 (by omega) (by omega) (by rw [h_18]; rfl) rfl ?_
            refine J_aload_n C 3 dX10_clerkAt_73 rfl ?_
            refine J_bind fun i_19 e_20 => ?_
            subst e_20
            refine gf_3_1 C dX10_clerkAt_74 q_427 ?_
            exact J_iret C dX10_clerkAt_77 (by decide) (by decide)
          · refine J_swOut C 78 dX10_clerkAt_22 (by omega) rfl ?_
            refine J_bipush C dX10_clerkAt_78 (zi9 rfl rfl) (by decide) ?_
            exact J_iret C dX10_clerkAt_80 (by decide) (by decide)
    · refine J_iconst C dX10_clerkAt_12 (zi9 rfl rfl) ?_
      exact J_iret C dX10_clerkAt_13 (by decide) (by decide)
def fX10_till (nf : Nat) (s0 : zS) (i0 : Nat) (x1 : Int) : Option (Int × zS) :=
  nm_ (gR s0 0 i0 4) fun (r_1 : Option Nat) => Option.bind r_1 fun i_2 => cl_ (fX3_told nf s0 i_2 x1) fun (x_5 : Int) (s_4 : zS) => some (x_5, s_4)
set_option maxHeartbeats 4000000 in
set_option maxRecDepth 20000 in
theorem kX10_till (nf : Nat) (s0 : zS) (i0 : Nat) (x1 : Int) : zCt zw yX10_till cX10_till 2 (some .int) 2 43 0 0 eI [.inr (0, some i0), .inl x1] s0 (fX10_till nf s0 i0 x1) := by
  refine zCt_on (own := RX10) (nm := "till") rfl rfl (by decide) (Nat.le_of_ble_eq_true rfl) fun K C => ?_
  show zJ zw 2 K _ 0 0 0 [(0, .inr (0, some i0)), (1, .inl x1)] [] s0 (fX10_till nf s0 i0 x1)
  unfold fX10_till
  refine J_aload_n C 0 dX10_till_0 rfl ?_
  refine gf_0_4 C dX10_till_1 q_260 ?_
  refine J_nmR fun r_1 => ?_
  refine J_iload_n C 1 dX10_till_4 rfl ?_
  refine J_bind fun i_2 e_3 => ?_
  subst e_3
  refine J_callVI (S := []) (avs := [.inl x1]) C zx4 yw_26 rfl (kX3_told _ _ _ _) dX10_till_5 rfl (Nat.le_of_ble_eq_true rfl) (by decide) fun x_5 s_4 => ?_
  exact J_iret C dX10_till_8 (by decide) (by decide)
def fX10_could (nf : Nat) (s0 : zS) (i0 : Nat) (x1 : Int) : Option (Int × zS) :=
  cl_ (fX10_within s0 x1 0 3000) fun (x_2 : Int) (s_1 : zS) => if x_2 = 0 then (some ((-2), s_1)) else (nm_ (gR s_1 0 i0 5) fun (r_3 : Option Nat) => nm_ (gR s_1 0 i0 4) fun (r_4 : Option Nat) => Option.bind r_4 fun i_5 => nm_ (gR s_1 4 i_5 0) fun (r_7 : Option Nat) => Option.bind r_3 fun i_8 => cl_ (fX1_find nf s_1 i_8 r_7 x1) fun (x_11 : Int) (s_10 : zS) => some (x_11, s_10))
set_option maxHeartbeats 4000000 in
set_option maxRecDepth 20000 in
theorem kX10_could (nf : Nat) (s0 : zS) (i0 : Nat) (x1 : Int) : zCt zw yX10_could cX10_could 2 (some .int) 3 71 0 0 eI [.inr (0, some i0), .inl x1] s0 (fX10_could nf s0 i0 x1) := by
  refine zCt_on (own := RX10) (nm := "could") rfl rfl (by decide) (Nat.le_of_ble_eq_true rfl) fun K C => ?_
  show zJ zw 2 K _ 0 0 0 [(0, .inr (0, some i0)), (1, .inl x1)] [] s0 (fX10_could nf s0 i0 x1)
  unfold fX10_could
  refine J_iload_n C 1 dX10_could_0 rfl ?_
  refine J_iconst C dX10_could_1 (zi9 rfl rfl) ?_
  refine J_sipush C dX10_could_2 (zi9 rfl rfl) (by decide) ?_
  refine J_callSI (S := []) (avs := [.inl x1, .inl 0, .inl 3000]) C yw_8 (kX10_within _ _ _ _) dX10_could_5 rfl (Nat.le_of_ble_eq_true rfl) (by decide) fun x_2 s_1 => ?_
  refine J_if_eq C 29 dX10_could_8 rfl (fun _ => ?_) (fun _ => ?_)
  · refine J_bipush C dX10_could_29 (zi9 rfl rfl) (by decide) ?_
    exact J_iret C dX10_could_31 (by decide) (by decide)
  · refine J_aload_n C 0 dX10_could_11 rfl ?_
    refine gf_0_5 C dX10_could_12 q_261 ?_
    refine J_nmR fun r_3 => ?_
    refine J_aload_n C 0 dX10_could_15 rfl ?_
    refine gf_0_4 C dX10_could_16 q_260 ?_
    refine J_nmR fun r_4 => ?_
    refine J_bind fun i_5 e_6 => ?_
    subst e_6
    refine gf_4_0 C dX10_could_19 q_38 ?_
    refine J_nmR fun r_7 => ?_
    refine J_iload_n C 1 dX10_could_22 rfl ?_
    refine J_bind fun i_8 e_9 => ?_
    subst e_9
    refine J_callVI (S := []) (avs := [.inr (15, r_7), .inl x1]) C zx2 yw_45 rfl (kX1_find _ _ _ _ _) dX10_could_23 rfl (Nat.le_of_ble_eq_true rfl) (by decide) fun x_11 s_10 => ?_
    refine J_goto C 31 dX10_could_26 rfl ?_
    exact J_iret C dX10_could_31 (by decide) (by decide)
def fX10_gives (nf : Nat) (s0 : zS) (i0 : Nat) (x1 : Int) (x2 : Int) : Option (Int × zS) :=
  cl_ (fX10_within s0 x1 0 3000) fun (x_2 : Int) (s_1 : zS) => if x_2 = 0 then (some ((-2), s_1)) else (cl_ (fX10_within s_1 x2 0 5) fun (x_4 : Int) (s_3 : zS) => if x_4 = 0 then (some ((-2), s_3)) else (nm_ (gR s_3 0 i0 5) fun (r_5 : Option Nat) => nm_ (gR s_3 0 i0 4) fun (r_6 : Option Nat) => Option.bind r_6 fun i_7 => nm_ (gR s_3 4 i_7 0) fun (r_9 : Option Nat) => Option.bind r_5 fun i_10 => cl_ (fX1_find nf s_3 i_10 r_9 x1) fun (x_13 : Int) (s_12 : zS) => if x_13 = (-9) then (some ((-9), s_12)) else (nm_ (gR s_12 0 i0 5) fun (r_14 : Option Nat) => Option.bind r_14 fun i_15 => nm_ (gR s_12 2 i_15 0) fun (r_17 : Option Nat) => Option.bind r_17 fun i_18 => g_ ((0 : Int) ≤ x2 ∧ (x2 : Int) < 6) (some (gI s_12 15 i_18 (Int.toNat (x2)), s_12)))))
set_option maxHeartbeats 4000000 in
set_option maxRecDepth 20000 in
theorem kX10_gives (nf : Nat) (s0 : zS) (i0 : Nat) (x1 : Int) (x2 : Int) : zCt zw yX10_gives cX10_gives 3 (some .int) 3 71 0 0 eI [.inr (0, some i0), .inl x1, .inl x2] s0 (fX10_gives nf s0 i0 x1 x2) := by
  refine zCt_on (own := RX10) (nm := "gives") rfl rfl (by decide) (Nat.le_of_ble_eq_true rfl) fun K C => ?_
  show zJ zw 3 K _ 0 0 0 [(0, .inr (0, some i0)), (1, .inl x1), (2, .inl x2)] [] s0 (fX10_gives nf s0 i0 x1 x2)
  unfold fX10_gives
  refine J_iload_n C 1 dX10_gives_0 rfl ?_
  refine J_iconst C dX10_gives_1 (zi9 rfl rfl) ?_
  refine J_sipush C dX10_gives_2 (zi9 rfl rfl) (by decide) ?_
  refine J_callSI (S := []) (avs := [.inl x1, .inl 0, .inl 3000]) C yw_8 (kX10_within _ _ _ _) dX10_gives_5 rfl (Nat.le_of_ble_eq_true rfl) (by decide) fun x_2 s_1 => ?_
  refine J_if_eq C 20 dX10_gives_8 rfl (fun _ => ?_) (fun _ => ?_)
  · refine J_bipush C dX10_gives_20 (zi9 rfl rfl) (by decide) ?_
    exact J_iret C dX10_gives_22 (by decide) (by decide)
  · refine J_iload_n C 2 dX10_gives_11 rfl ?_
    refine J_iconst C dX10_gives_12 (zi9 rfl rfl) ?_
    refine J_iconst C dX10_gives_13 (zi9 rfl rfl) ?_
    refine J_callSI (S := []) (avs := [.inl x2, .inl 0, .inl 5]) C yw_8 (kX10_within _ _ _ _) dX10_gives_14 rfl (Nat.le_of_ble_eq_true rfl) (by decide) fun x_4 s_3 => ?_
    refine J_if_ne C 23 dX10_gives_17 rfl (fun _ => ?_) (fun _ => ?_)
    · refine J_aload_n C 0 dX10_gives_23 rfl ?_
      refine gf_0_5 C dX10_gives_24 q_261 ?_
      refine J_nmR fun r_5 => ?_
      refine J_aload_n C 0 dX10_gives_27 rfl ?_
      refine gf_0_4 C dX10_gives_28 q_260 ?_
      refine J_nmR fun r_6 => ?_
      refine J_bind fun i_7 e_8 => ?_
      subst e_8
      refine gf_4_0 C dX10_gives_31 q_38 ?_
      refine J_nmR fun r_9 => ?_
      refine J_iload_n C 1 dX10_gives_34 rfl ?_
      refine J_bind fun i_10 e_11 => ?_
      subst e_11
      refine J_callVI (S := []) (avs := [.inr (15, r_9), .inl x1]) C zx2 yw_45 rfl (kX1_find _ _ _ _ _) dX10_gives_35 rfl (Nat.le_of_ble_eq_true rfl) (by decide) fun x_13 s_12 => ?_
      refine J_bipush C dX10_gives_38 (zi9 rfl rfl) (by decide) ?_
      refine J_ic_ne C 48 dX10_gives_40 rfl (fun _ => ?_) (fun _ => ?_)
      · refine J_aload_n C 0 dX10_gives_48 rfl ?_
        refine gf_0_5 C dX10_gives_49 q_261 ?_
        refine J_nmR fun r_14 => ?_
        refine J_bind fun i_15 e_16 => ?_
        subst e_16
        refine gf_2_0 C dX10_gives_52 q_50 ?_
        refine J_nmR fun r_17 => ?_
        refine J_iload_n C 2 dX10_gives_55 rfl ?_
        refine J_bind fun i_18 e_19 => ?_
        subst e_19
        refine J_g fun h_20 => ?_
        refine J_iald (t := 15) (N := 6) C (Nat.le_of_ble_eq_true rfl) rfl rfl h_20 dX10_gives_56 ?_
        exact J_iret C dX10_gives_57 (by decide) (by decide)
      · refine J_bipush C dX10_gives_43 (zi9 rfl rfl) (by decide) ?_
        refine J_goto C 57 dX10_gives_45 rfl ?_
        exact J_iret C dX10_gives_57 (by decide) (by decide)
    · refine J_bipush C dX10_gives_20 (zi9 rfl rfl) (by decide) ?_
      exact J_iret C dX10_gives_22 (by decide) (by decide)
def fX10_on_L18 (o0 : Nat) (c2 : Int) (o3 : Nat) : Nat → zS → Int → Int → Option (Int × zS)
  | 0, _, _, _ => none
  | n + 1, s0, x4, x5 =>
    if x5 < gI s0 0 o0 11 then (nm_ (gR s0 0 o0 1) fun (r_5 : Option Nat) => Option.bind r_5 fun i_6 => g_ ((0 : Int) ≤ x5 ∧ (x5 : Int) < 24) (nm_ (gR s0 12 i_6 (Int.toNat (x5))) fun (r_9 : Option Nat) => Option.bind r_9 fun i_10 => nm_ (fun (s_12 : zS) (y_13 : Int) => nm_ (wr (x5 + 1)) fun (x_14 : Int) => fX10_on_L18 o0 c2 o3 n s_12 y_13 x_14) fun (j66 : zS → Int → Option (Int × zS)) => if gI s0 5 i_10 3 = 2 then (nm_ (gR s0 5 i_10 4) fun (r_15 : Option Nat) => if r_15 = some o3 then (if gI s0 5 i_10 5 = c2 then (nm_ (wr (x4 + 1)) fun (x_16 : Int) => j66 s0 x_16) else (j66 s0 x4)) else (j66 s0 x4)) else (j66 s0 x4))) else (some (x4, s0))
def fX10_on (nf : Nat) (s0 : zS) (i0 : Nat) (x1 : Int) (x2 : Int) : Option (Int × zS) :=
  cl_ (fX10_findWire s0 i0 x1) fun (r_2 : Option Nat) (s_1 : zS) => Option.elim r_2 (some ((-1), s_1)) fun i_3 => fX10_on_L18 i0 x2 i_3 nf s_1 0 0
set_option maxHeartbeats 4000000 in
set_option maxRecDepth 20000 in
theorem kX10_on_L18 {K : zKx} (C : zC zw 7 K RX10 cX10_on "on" (some .int) 1 21 0 0)  (o0 : Nat) (c2 : Int) (o3 : Nat) : ∀ (n : Nat) (s0 : zS) (x4 : Int) (x5 : Int), zJ zw 7 K (zQm zw eI 0 0 K) 0 0 18 [(0, .inr (0, some o0)), (2, .inl c2), (3, .inr (8, some o3)), (4, .inl x4), (5, .inl x5)] [] s0 (fX10_on_L18 o0 c2 o3 n s0 x4 x5) := by
  intro n
  induction n with
  | zero => intro s0 x4 x5; exact J_none
  | succ n ih =>
    intro s0 x4 x5
    rw [fX10_on_L18]
    refine J_iload C 4 dX10_on_18 rfl ?_
    refine J_aload_n C 0 dX10_on_20 rfl ?_
    refine gf_0_11 C dX10_on_21 q_267 ?_
    refine J_ic_ge C 72 dX10_on_24 rfl (fun _ => ?_) (fun _ => ?_)
    · refine J_iload C 3 dX10_on_72 rfl ?_
      exact J_iret C dX10_on_74 (by decide) (by decide)
    · refine J_aload_n C 0 dX10_on_27 rfl ?_
      refine gf_0_1 C dX10_on_28 q_257 ?_
      refine J_nmR fun r_5 => ?_
      refine J_iload C 4 dX10_on_31 rfl ?_
      refine J_bind fun i_6 e_7 => ?_
      subst e_7
      refine J_g fun h_8 => ?_
      refine J_aald (t := 12) (N := 24) (u := 5) (a := 3) C (Nat.le_of_ble_eq_true rfl) rfl rfl (fun _ => rfl) h_8 dX10_on_33 ?_
      refine J_nmR fun r_9 => ?_
      refine J_astore (L' := [(0, .inr (0, some o0)), (2, .inl c2), (3, .inr (8, some o3)), (4, .inl x4), (5, .inl x5), (6, .inr (5, r_9))]) C dX10_on_34 (Nat.le_of_ble_eq_true rfl) rfl ?_
      refine J_aload C 5 dX10_on_36 rfl ?_
      refine J_bind fun i_10 e_11 => ?_
      subst e_11
      refine gf_5_3 C dX10_on_38 q_360 ?_
      refine J_iconst C dX10_on_41 (zi9 rfl rfl) ?_
      refine J_join (fun j66 => ∀ (s_12 : zS) (y_13 : Int), zJ zw 7 K (zQm zw eI 0 0 K) 0 0 66 [(0, .inr (0, some o0)), (2, .inl c2), (3, .inr (8, some o3)), (4, .inl y_13), (5, .inl x5)] [] s_12 (j66 s_12 y_13)) ?_ fun j66 hj66 => ?_
      · intro s_12 y_13
        refine J_iinc C 4 dX10_on_66 (zi9 rfl rfl) (Nat.le_of_ble_eq_true rfl) rfl fun x_14 => ?_
        refine J_goto C 18 dX10_on_69 rfl ?_
        exact ih _ _ _
      · refine J_ic_ne C 66 dX10_on_42 rfl (fun _ => ?_) (fun _ => ?_)
        · refine J_loc (L' := [(0, .inr (0, some o0)), (2, .inl c2), (3, .inr (8, some o3)), (4, .inl x4), (5, .inl x5)]) [0, 1, 2, 3, 4] rfl ?_
          exact hj66 _ _
        · refine J_aload C 5 dX10_on_45 rfl ?_
          refine gf_5_4 C dX10_on_47 q_362 ?_
          refine J_nmR fun r_15 => ?_
          refine J_aload_n C 2 dX10_on_50 rfl ?_
          refine J_acmp_ne C 66 (Nat.le_of_ble_eq_true rfl) dX10_on_51 rfl (fun _ => ?_) (fun _ => ?_)
          · refine J_loc (L' := [(0, .inr (0, some o0)), (2, .inl c2), (3, .inr (8, some o3)), (4, .inl x4), (5, .inl x5)]) [0, 1, 2, 3, 4] rfl ?_
            exact hj66 _ _
          · refine J_aload C 5 dX10_on_54 rfl ?_
            refine gf_5_5 C dX10_on_56 q_364 ?_
            refine J_iload_n C 1 dX10_on_59 rfl ?_
            refine J_ic_ne C 66 dX10_on_60 rfl (fun _ => ?_) (fun _ => ?_)
            · refine J_loc (L' := [(0, .inr (0, some o0)), (2, .inl c2), (3, .inr (8, some o3)), (4, .inl x4), (5, .inl x5)]) [0, 1, 2, 3, 4] rfl ?_
              exact hj66 _ _
            · refine J_iinc C 3 dX10_on_63 (zi9 rfl rfl) (Nat.le_of_ble_eq_true rfl) rfl fun x_16 => ?_
              refine J_loc (L' := [(0, .inr (0, some o0)), (2, .inl c2), (3, .inr (8, some o3)), (4, .inl x_16), (5, .inl x5)]) [0, 1, 2, 3, 4] rfl ?_
              exact hj66 _ _
set_option maxHeartbeats 4000000 in
set_option maxRecDepth 20000 in
theorem kX10_on (nf : Nat) (s0 : zS) (i0 : Nat) (x1 : Int) (x2 : Int) : zCt zw yX10_on cX10_on 7 (some .int) 1 21 0 0 eI [.inr (0, some i0), .inl x1, .inl x2] s0 (fX10_on nf s0 i0 x1 x2) := by
  refine zCt_on (own := RX10) (nm := "on") rfl rfl (by decide) (Nat.le_of_ble_eq_true rfl) fun K C => ?_
  show zJ zw 7 K _ 0 0 0 [(0, .inr (0, some i0)), (1, .inl x1), (2, .inl x2)] [] s0 (fX10_on nf s0 i0 x1 x2)
  unfold fX10_on
  refine J_aload_n C 0 dX10_on_0 rfl ?_
  refine J_iload_n C 1 dX10_on_1 rfl ?_
  refine J_callVR (S := []) (avs := [.inl x1]) C zx0 yw_12 rfl (kX10_findWire _ _ _) dX10_on_2 rfl (Nat.le_of_ble_eq_true rfl) (by decide) fun r_2 s_1 => ?_
  refine J_astore_n (L' := [(0, .inr (0, some i0)), (1, .inl x1), (2, .inl x2), (3, .inr (8, r_2))]) C dX10_on_5 (Nat.le_of_ble_eq_true rfl) rfl ?_
  refine J_aload_n C 3 dX10_on_6 rfl ?_
  refine J_elim (fun e_4 => ?_) (fun i_3 e_4 => ?_)
  · subst e_4
    refine J_nonnull_n C dX10_on_7 ?_
    refine J_iconst C dX10_on_10 (zi9 rfl rfl) ?_
    exact J_iret C dX10_on_11 (by decide) (by decide)
  · subst e_4
    refine J_nonnull_s C 12 dX10_on_7 rfl ?_
    refine J_iconst C dX10_on_12 (zi9 rfl rfl) ?_
    refine J_istore (L' := [(0, .inr (0, some i0)), (1, .inl x1), (2, .inl x2), (3, .inr (8, some i_3)), (4, .inl 0)]) C dX10_on_13 (Nat.le_of_ble_eq_true rfl) rfl ?_
    refine J_iconst C dX10_on_15 (zi9 rfl rfl) ?_
    refine J_istore (L' := [(0, .inr (0, some i0)), (1, .inl x1), (2, .inl x2), (3, .inr (8, some i_3)), (4, .inl 0), (5, .inl 0)]) C dX10_on_16 (Nat.le_of_ble_eq_true rfl) rfl ?_
    refine J_loc (L' := [(0, .inr (0, some i0)), (2, .inl x2), (3, .inr (8, some i_3)), (4, .inl 0), (5, .inl 0)]) [0, 2, 3, 4, 5] rfl ?_
    exact kX10_on_L18 C _ _ _ _ _ _ _
def fX10_waits (s0 : zS) (i0 : Nat) (x1 : Int) (x2 : Int) : Option (Int × zS) :=
  cl_ (fX10_findPost s0 i0 x1) fun (r_2 : Option Nat) (s_1 : zS) => Option.elim r_2 (some ((-1), s_1)) fun i_3 => if gI s_1 8 i_3 2 = 2 then (if x2 = 0 then (nm_ (gR s_1 8 i_3 15) fun (r_6 : Option Nat) => Option.bind r_6 fun i_7 => some (gI s_1 9 i_7 0, s_1)) else (if x2 = 1 then (nm_ (gR s_1 8 i_3 15) fun (r_10 : Option Nat) => Option.bind r_10 fun i_11 => some (gI s_1 9 i_11 1, s_1)) else (if x2 = 2 then (nm_ (gR s_1 8 i_3 15) fun (r_14 : Option Nat) => Option.bind r_14 fun i_15 => some (gI s_1 9 i_15 2, s_1)) else (if x2 = 3 then (nm_ (gR s_1 8 i_3 15) fun (r_18 : Option Nat) => Option.bind r_18 fun i_19 => some (gI s_1 9 i_19 3, s_1)) else (if x2 = 4 then (nm_ (gR s_1 8 i_3 15) fun (r_22 : Option Nat) => Option.bind r_22 fun i_23 => some (gI s_1 9 i_23 4, s_1)) else (some ((-2), s_1))))))) else (some ((-3), s_1))
set_option maxHeartbeats 4000000 in
set_option maxRecDepth 20000 in
theorem kX10_waits (s0 : zS) (i0 : Nat) (x1 : Int) (x2 : Int) : zCt zw yX10_waits cX10_waits 4 (some .int) 1 21 0 0 eI [.inr (0, some i0), .inl x1, .inl x2] s0 (fX10_waits s0 i0 x1 x2) := by
  refine zCt_on (own := RX10) (nm := "waits") rfl rfl (by decide) (Nat.le_of_ble_eq_true rfl) fun K C => ?_
  show zJ zw 4 K _ 0 0 0 [(0, .inr (0, some i0)), (1, .inl x1), (2, .inl x2)] [] s0 (fX10_waits s0 i0 x1 x2)
  unfold fX10_waits
  refine J_aload_n C 0 dX10_waits_0 rfl ?_
  refine J_iload_n C 1 dX10_waits_1 rfl ?_
  refine J_callVR (S := []) (avs := [.inl x1]) C zx0 yw_9 rfl (kX10_findPost _ _ _) dX10_waits_2 rfl (Nat.le_of_ble_eq_true rfl) (by decide) fun r_2 s_1 => ?_
  refine J_astore_n (L' := [(0, .inr (0, some i0)), (1, .inl x1), (2, .inl x2), (3, .inr (8, r_2))]) C dX10_waits_5 (Nat.le_of_ble_eq_true rfl) rfl ?_
  refine J_aload_n C 3 dX10_waits_6 rfl ?_
  refine J_elim (fun e_4 => ?_) (fun i_3 e_4 => ?_)
  · subst e_4
    refine J_nonnull_n C dX10_waits_7 ?_
    refine J_iconst C dX10_waits_10 (zi9 rfl rfl) ?_
    exact J_iret C dX10_waits_11 (by decide) (by decide)
  · subst e_4
    refine J_nonnull_s C 12 dX10_waits_7 rfl ?_
    refine J_aload_n C 3 dX10_waits_12 rfl ?_
    refine gf_8_2 C dX10_waits_13 q_199 ?_
    refine J_iconst C dX10_waits_16 (zi9 rfl rfl) ?_
    refine J_ic_eq C 23 dX10_waits_17 rfl (fun _ => ?_) (fun _ => ?_)
    · refine J_iload_n C 2 dX10_waits_23 rfl ?_
      refine J_if (fun h_5 => ?_) (fun h_5 => ?_)
      · refine J_swIn C 60 dX10_waits_24 (by omega) (by omega) (by rw [h_5]; rfl) rfl ?_
        refine J_aload_n C 3 dX10_waits_60 rfl ?_
        refine gf_8_15 C dX10_waits_61 q_222 ?_
        refine J_nmR fun r_6 => ?_
        refine J_bind fun i_7 e_8 => ?_
        subst e_8
        refine gf_9_0 C dX10_waits_64 q_173 ?_
        exact J_iret C dX10_waits_67 (by decide) (by decide)
      · refine J_if (fun h_9 => ?_) (fun h_9 => ?_)
        · refine J_swIn C 68 dX10_waits_24 (by omega) (by omega) (by rw [h_9]; rfl) rfl ?_
          refine J_aload_n C 3 dX10_waits_68 rfl ?_
          refine gf_8_15 C dX10_waits_69 q_222 ?_
          refine J_nmR fun r_10 => ?_
          refine J_bind fun i_11 e_12 => ?_
          subst e_12
          refine gf_9_1 C dX10_waits_72 q_175 ?_
          exact J_iret C dX10_waits_75 (by decide) (by decide)
        · refine J_if (fun h_13 => ?_) (fun h_13 => ?_)
          · refine J_swIn C 76 dX10_waits_24 (by omega) (by omega) (by rw [h_13]; rfl) rfl ?_
            refine J_aload_n C 3 dX10_waits_76 rfl ?_
            refine gf_8_15 C dX10_waits_77 q_222 ?_
            refine J_nmR fun r_14 => ?_
            refine J_bind fun i_15 e_16 => ?_
            subst e_16
            refine gf_9_2 C dX10_waits_80 q_177 ?_
            exact J_iret C dX10_waits_83 (by decide) (by decide)
          · refine J_if (fun h_17 => ?_) (fun h_17 => ?_)
            · refine J_swIn C 84 dX10_waits_24 (by omega) (by omega) (by rw [h_17]; rfl) rfl ?_
              refine J_aload_n C 3 dX10_waits_84 rfl ?_
              refine gf_8_15 C dX10_waits_85 q_222 ?_
              refine J_nmR fun r_18 => ?_
              refine J_bind fun i_19 e_20 => ?_
              subst e_20
              refine gf_9_3 C dX10_waits_88 q_179 ?_
              exact J_iret C dX10_waits_91 (by decide) (by decide)
            · refine J_if (fun h_21 => ?_) (fun h_21 => ?_)
              · refine J_swIn C 92 dX10_waits_24 (by omega) (by omega) (by rw [h_21]; rfl) rfl ?_
                refine J_aload_n C 3 dX10_waits_92 rfl ?_
                refine gf_8_15 C dX10_waits_93 q_222 ?_
                refine J_nmR fun r_22 => ?_
                refine J_bind fun i_23 e_24 => ?_
                subst e_24
                refine gf_9_4 C dX10_waits_96 q_181 ?_
                exact J_iret C dX10_waits_99 (by decide) (by decide)
              · refine J_swOut C 100 dX10_waits_24 (by omega) rfl ?_
                refine J_bipush C dX10_waits_100 (zi9 rfl rfl) (by decide) ?_
                exact J_iret C dX10_waits_102 (by decide) (by decide)
    · refine J_bipush C dX10_waits_20 (zi9 rfl rfl) (by decide) ?_
      exact J_iret C dX10_waits_22 (by decide) (by decide)
def fX10_planRefusal (s0 : zS) (i0 : Nat) (x1 : Int) : Option (Int × zS) :=
  if x1 = 0 then (some ((-9), s0)) else (if gI s0 0 i0 12 = 0 then (some ((-9), s0)) else (if 6 < x1 then (some ((-3), s0)) else (some (0, s0))))
set_option maxHeartbeats 4000000 in
set_option maxRecDepth 20000 in
theorem kX10_planRefusal (s0 : zS) (i0 : Nat) (x1 : Int) : zCt zw yX10_planRefusal cX10_planRefusal 2 (some .int) 0 0 0 0 eI [.inr (0, some i0), .inl x1] s0 (fX10_planRefusal s0 i0 x1) := by
  refine zCt_on (own := RX10) (nm := "planRefusal") rfl rfl (by decide) (Nat.le_of_ble_eq_true rfl) fun K C => ?_
  show zJ zw 2 K _ 0 0 0 [(0, .inr (0, some i0)), (1, .inl x1)] [] s0 (fX10_planRefusal s0 i0 x1)
  unfold fX10_planRefusal
  refine J_iload_n C 1 dX10_planRefusal_0 rfl ?_
  refine J_if_eq C 11 dX10_planRefusal_1 rfl (fun _ => ?_) (fun _ => ?_)
  · refine J_bipush C dX10_planRefusal_11 (zi9 rfl rfl) (by decide) ?_
    exact J_iret C dX10_planRefusal_13 (by decide) (by decide)
  · refine J_aload_n C 0 dX10_planRefusal_4 rfl ?_
    refine gf_0_12 C dX10_planRefusal_5 q_268 ?_
    refine J_if_ne C 14 dX10_planRefusal_8 rfl (fun _ => ?_) (fun _ => ?_)
    · refine J_iload_n C 1 dX10_planRefusal_14 rfl ?_
      refine J_bipush C dX10_planRefusal_15 (zi9 rfl rfl) (by decide) ?_
      refine J_ic_le C 25 dX10_planRefusal_17 rfl (fun _ => ?_) (fun _ => ?_)
      · refine J_iconst C dX10_planRefusal_25 (zi9 rfl rfl) ?_
        exact J_iret C dX10_planRefusal_26 (by decide) (by decide)
      · refine J_bipush C dX10_planRefusal_20 (zi9 rfl rfl) (by decide) ?_
        refine J_goto C 26 dX10_planRefusal_22 rfl ?_
        exact J_iret C dX10_planRefusal_26 (by decide) (by decide)
    · refine J_bipush C dX10_planRefusal_11 (zi9 rfl rfl) (by decide) ?_
      exact J_iret C dX10_planRefusal_13 (by decide) (by decide)
def fX6_begin (s0 : zS) (i0 : Nat) : Option (Unit × zS) :=
  up_ (sI s0 7 i0 2 0) fun (s_1 : zS) => up_ (sI s_1 7 i0 4 0) fun (s_2 : zS) => some ((), s_2)
set_option maxHeartbeats 4000000 in
set_option maxRecDepth 20000 in
theorem kX6_begin (s0 : zS) (i0 : Nat) : zCt zw yX6_begin cX6_begin 1 none 0 0 0 0 eV [.inr (7, some i0)] s0 (fX6_begin s0 i0) := by
  refine zCt_on (own := RX6) (nm := "begin") rfl rfl (by decide) (Nat.le_of_ble_eq_true rfl) fun K C => ?_
  show zJ zw 1 K _ 0 0 0 [(0, .inr (7, some i0))] [] s0 (fX6_begin s0 i0)
  unfold fX6_begin
  refine J_aload_n C 0 dX6_begin_0 rfl ?_
  refine J_iconst C dX6_begin_1 (zi9 rfl rfl) ?_
  refine pf_7_2 C dX6_begin_2 q_105 fun s_1 => ?_
  refine J_aload_n C 0 dX6_begin_5 rfl ?_
  refine J_iconst C dX6_begin_6 (zi9 rfl rfl) ?_
  refine pf_7_4 C dX6_begin_7 q_107 fun s_2 => ?_
  exact J_vret C dX6_begin_10 (by decide) (by decide)
def fX6_addClerk (s0 : zS) (i0 : Nat) (x1 : Int) (x2 : Int) : Option (Unit × zS) :=
  if gI s0 7 i0 2 < 4 then (nm_ (gR s0 7 i0 0) fun (r_1 : Option Nat) => Option.bind r_1 fun i_2 => g_ ((0 : Int) ≤ gI s0 7 i0 2 ∧ (gI s0 7 i0 2 : Int) < 4) (up_ (sI s0 22 i_2 (Int.toNat (gI s0 7 i0 2)) x1) fun (s_5 : zS) => nm_ (gR s_5 7 i0 1) fun (r_6 : Option Nat) => Option.bind r_6 fun i_7 => g_ ((0 : Int) ≤ gI s_5 7 i0 2 ∧ (gI s_5 7 i0 2 : Int) < 4) (up_ (sI s_5 23 i_7 (Int.toNat (gI s_5 7 i0 2)) x2) fun (s_10 : zS) => up_ (sI s_10 7 i0 2 (wr ((gI s_10 7 i0 2) + 1))) fun (s_11 : zS) => some ((), s_11)))) else (some ((), s0))
set_option maxHeartbeats 4000000 in
set_option maxRecDepth 20000 in
theorem kX6_addClerk (s0 : zS) (i0 : Nat) (x1 : Int) (x2 : Int) : zCt zw yX6_addClerk cX6_addClerk 3 none 0 0 0 0 eV [.inr (7, some i0), .inl x1, .inl x2] s0 (fX6_addClerk s0 i0 x1 x2) := by
  refine zCt_on (own := RX6) (nm := "addClerk") rfl rfl (by decide) (Nat.le_of_ble_eq_true rfl) fun K C => ?_
  show zJ zw 3 K _ 0 0 0 [(0, .inr (7, some i0)), (1, .inl x1), (2, .inl x2)] [] s0 (fX6_addClerk s0 i0 x1 x2)
  unfold fX6_addClerk
  refine J_aload_n C 0 dX6_addClerk_0 rfl ?_
  refine gf_7_2 C dX6_addClerk_1 q_105 ?_
  refine J_iconst C dX6_addClerk_4 (zi9 rfl rfl) ?_
  refine J_ic_ge C 38 dX6_addClerk_5 rfl (fun _ => ?_) (fun _ => ?_)
  · exact J_vret C dX6_addClerk_38 (by decide) (by decide)
  · refine J_aload_n C 0 dX6_addClerk_8 rfl ?_
    refine gf_7_0 C dX6_addClerk_9 q_103 ?_
    refine J_nmR fun r_1 => ?_
    refine J_aload_n C 0 dX6_addClerk_12 rfl ?_
    refine gf_7_2 C dX6_addClerk_13 q_105 ?_
    refine J_iload_n C 1 dX6_addClerk_16 rfl ?_
    refine J_bind fun i_2 e_3 => ?_
    subst e_3
    refine J_g fun h_4 => ?_
    refine J_iast (t := 22) (N := 4) C (Nat.le_of_ble_eq_true rfl) rfl rfl h_4 dX6_addClerk_17 fun s_5 => ?_
    refine J_aload_n C 0 dX6_addClerk_18 rfl ?_
    refine gf_7_1 C dX6_addClerk_19 q_104 ?_
    refine J_nmR fun r_6 => ?_
    refine J_aload_n C 0 dX6_addClerk_22 rfl ?_
    refine gf_7_2 C dX6_addClerk_23 q_105 ?_
    refine J_iload_n C 2 dX6_addClerk_26 rfl ?_
    refine J_bind fun i_7 e_8 => ?_
    subst e_8
    refine J_g fun h_9 => ?_
    refine J_iast (t := 23) (N := 4) C (Nat.le_of_ble_eq_true rfl) rfl rfl h_9 dX6_addClerk_27 fun s_10 => ?_
    refine J_aload_n C 0 dX6_addClerk_28 rfl ?_
    refine J_dup C dX6_addClerk_29 ?_
    refine gf_7_2 C dX6_addClerk_30 q_105 ?_
    refine J_iconst C dX6_addClerk_33 (zi9 rfl rfl) ?_
    refine J_iadd C dX6_addClerk_34 ?_
    refine pf_7_2 C dX6_addClerk_35 q_105 fun s_11 => ?_
    exact J_vret C dX6_addClerk_38 (by decide) (by decide)
