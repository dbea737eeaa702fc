def fX3_worth_L4 (o0 : Nat) : Nat → zS → Int → Int → Option (Int × zS)
  | 0, _, _, _ => none
  | n + 1, s0, x1, x2 =>
    if x2 < 6 then (nm_ (gR s0 4 o0 0) fun (r_1 : Option Nat) => Option.bind r_1 fun i_2 => g_ ((0 : Int) ≤ x2 ∧ (x2 : Int) < 6) (g_ ((0 : Int) ≤ x2 ∧ (x2 : Int) < 6) (nm_ (wr (x1 + (wr ((gI s0 15 i_2 (Int.toNat (x2))) * (zWt (Int.toNat (x2))))))) fun (x_6 : Int) => nm_ (wr (x2 + 1)) fun (x_7 : Int) => fX3_worth_L4 o0 n s0 x_6 x_7))) else (some (x1, s0))
def fX3_worth (nf : Nat) (s0 : zS) (i0 : Nat) : Option (Int × zS) :=
  fX3_worth_L4 i0 nf s0 0 0
set_option maxHeartbeats 4000000 in
set_option maxRecDepth 20000 in
theorem kX3_worth_L4 {K : zKx} (C : zC zw 3 K RX3 cX3_worth "worth" (some .int) 0 0 0 0)  (o0 : Nat) : ∀ (n : Nat) (s0 : zS) (x1 : Int) (x2 : Int), zJ zw 3 K (zQm zw eI 0 0 K) 0 0 4 [(0, .inr (4, some o0)), (1, .inl x1), (2, .inl x2)] [] s0 (fX3_worth_L4 o0 n s0 x1 x2) := by
  intro n
  induction n with
  | zero => intro s0 x1 x2; exact J_none
  | succ n ih =>
    intro s0 x1 x2
    rw [fX3_worth_L4]
    refine J_iload_n C 2 dX3_worth_4 rfl ?_
    refine J_bipush C dX3_worth_5 (zi9 rfl rfl) (by decide) ?_
    refine J_ic_ge C 31 dX3_worth_7 rfl (fun _ => ?_) (fun _ => ?_)
    · refine J_iload_n C 1 dX3_worth_31 rfl ?_
      exact J_iret C dX3_worth_32 (by decide) (by decide)
    · refine J_iload_n C 1 dX3_worth_10 rfl ?_
      refine J_aload_n C 0 dX3_worth_11 rfl ?_
      refine gf_4_0 C dX3_worth_12 q_36 ?_
      refine J_nmR fun r_1 => ?_
      refine J_iload_n C 2 dX3_worth_15 rfl ?_
      refine J_bind fun i_2 e_3 => ?_
      subst e_3
      refine J_g fun h_4 => ?_
      refine J_iald (t := 15) (N := 6) C (Nat.le_of_ble_eq_true rfl) rfl rfl h_4 dX3_worth_16 ?_
      refine J_getsN C dX3_worth_17 qn_516 ?_
      refine J_iload_n C 2 dX3_worth_20 rfl ?_
      refine J_g fun h_5 => ?_
      refine J_wald C h_5 dX3_worth_21 ?_
      refine J_imul C dX3_worth_22 ?_
      refine J_iadd C dX3_worth_23 ?_
      refine J_nm fun x_6 => ?_
      refine J_istore_n (L' := [(0, .inr (4, some o0)), (1, .inl x_6), (2, .inl x2)]) C dX3_worth_24 (Nat.le_of_ble_eq_true rfl) rfl ?_
      refine J_iinc C 2 dX3_worth_25 (zi9 rfl rfl) (Nat.le_of_ble_eq_true rfl) rfl fun x_7 => ?_
      refine J_goto C 4 dX3_worth_28 rfl ?_
      exact ih _ _ _
set_option maxHeartbeats 4000000 in
set_option maxRecDepth 20000 in
theorem kX3_worth (nf : Nat) (s0 : zS) (i0 : Nat) : zCt zw yX3_worth cX3_worth 3 (some .int) 0 0 0 0 eI [.inr (4, some i0)] s0 (fX3_worth nf s0 i0) := by
  refine zCt_on (own := RX3) (nm := "worth") rfl rfl (by decide) (Nat.le_of_ble_eq_true rfl) fun K C => ?_
  show zJ zw 3 K _ 0 0 0 [(0, .inr (4, some i0))] [] s0 (fX3_worth nf s0 i0)
  unfold fX3_worth
  refine J_iconst C dX3_worth_0 (zi9 rfl rfl) ?_
  refine J_istore_n (L' := [(0, .inr (4, some i0)), (1, .inl 0)]) C dX3_worth_1 (Nat.le_of_ble_eq_true rfl) rfl ?_
  refine J_iconst C dX3_worth_2 (zi9 rfl rfl) ?_
  refine J_istore_n (L' := [(0, .inr (4, some i0)), (1, .inl 0), (2, .inl 0)]) C dX3_worth_3 (Nat.le_of_ble_eq_true rfl) rfl ?_
  exact kX3_worth_L4 C _ _ _ _ _
def fX3_told (nf : Nat) (s0 : zS) (i0 : Nat) (x1 : Int) : Option (Int × zS) :=
  if x1 = 6 then (cl_ (fX3_worth nf s0 i0) fun (x_6 : Int) (s_5 : zS) => some (x_6, s_5)) else (if x1 < 0 then (some ((-2), s0)) else (if 6 < x1 then (some ((-2), s0)) else (nm_ (gR s0 4 i0 0) fun (r_1 : Option Nat) => Option.bind r_1 fun i_2 => g_ ((0 : Int) ≤ x1 ∧ (x1 : Int) < 6) (some (gI s0 15 i_2 (Int.toNat (x1)), s0)))))
set_option maxHeartbeats 4000000 in
set_option maxRecDepth 20000 in
theorem kX3_told (nf : Nat) (s0 : zS) (i0 : Nat) (x1 : Int) : zCt zw yX3_told cX3_told 2 (some .int) 1 22 0 0 eI [.inr (4, some i0), .inl x1] s0 (fX3_told nf s0 i0 x1) := by
  refine zCt_on (own := RX3) (nm := "told") rfl rfl (by decide) (Nat.le_of_ble_eq_true rfl) fun K C => ?_
  show zJ zw 2 K _ 0 0 0 [(0, .inr (4, some i0)), (1, .inl x1)] [] s0 (fX3_told nf s0 i0 x1)
  unfold fX3_told
  refine J_iload_n C 1 dX3_told_0 rfl ?_
  refine J_bipush C dX3_told_1 (zi9 rfl rfl) (by decide) ?_
  refine J_ic_ne C 11 dX3_told_3 rfl (fun _ => ?_) (fun _ => ?_)
  · refine J_iload_n C 1 dX3_told_11 rfl ?_
    refine J_if_lt C 21 dX3_told_12 rfl (fun _ => ?_) (fun _ => ?_)
    · refine J_bipush C dX3_told_21 (zi9 rfl rfl) (by decide) ?_
      refine J_goto C 32 dX3_told_23 rfl ?_
      exact J_iret C dX3_told_32 (by decide) (by decide)
    · refine J_iload_n C 1 dX3_told_15 rfl ?_
      refine J_bipush C dX3_told_16 (zi9 rfl rfl) (by decide) ?_
      refine J_ic_le C 26 dX3_told_18 rfl (fun _ => ?_) (fun _ => ?_)
      · refine J_aload_n C 0 dX3_told_26 rfl ?_
        refine gf_4_0 C dX3_told_27 q_36 ?_
        refine J_nmR fun r_1 => ?_
        refine J_iload_n C 1 dX3_told_30 rfl ?_
        refine J_bind fun i_2 e_3 => ?_
        subst e_3
        refine J_g fun h_4 => ?_
        refine J_iald (t := 15) (N := 6) C (Nat.le_of_ble_eq_true rfl) rfl rfl h_4 dX3_told_31 ?_
        exact J_iret C dX3_told_32 (by decide) (by decide)
      · refine J_bipush C dX3_told_21 (zi9 rfl rfl) (by decide) ?_
        refine J_goto C 32 dX3_told_23 rfl ?_
        exact J_iret C dX3_told_32 (by decide) (by decide)
  · refine J_aload_n C 0 dX3_told_6 rfl ?_
    refine J_callVI (S := []) (avs := []) C zx4 yw_25 rfl (kX3_worth _ _ _) dX3_told_7 rfl (Nat.le_of_ble_eq_true rfl) (by decide) fun x_6 s_5 => ?_
    exact J_iret C dX3_told_10 (by decide) (by decide)
def fX10_coins (nf : Nat) (s0 : zS) (i0 : Nat) (x1 : Int) (x2 : Int) : Option (Int × zS) :=
  cl_ (fX10_findCup s0 i0 x1) fun (r_2 : Option Nat) (s_1 : zS) => Option.elim r_2 (some ((-1), s_1)) fun i_3 => nm_ (gR s_1 5 i_3 2) fun (r_5 : Option Nat) => Option.bind r_5 fun i_6 => cl_ (fX3_told nf s_1 i_6 x2) fun (x_9 : Int) (s_8 : zS) => some (x_9, s_8)
set_option maxHeartbeats 4000000 in
set_option maxRecDepth 20000 in
theorem kX10_coins (nf : Nat) (s0 : zS) (i0 : Nat) (x1 : Int) (x2 : Int) : zCt zw yX10_coins cX10_coins 4 (some .int) 2 43 0 0 eI [.inr (0, some i0), .inl x1, .inl x2] s0 (fX10_coins nf s0 i0 x1 x2) := by
  refine zCt_on (own := RX10) (nm := "coins") rfl rfl (by decide) (Nat.le_of_ble_eq_true rfl) fun K C => ?_
  show zJ zw 4 K _ 0 0 0 [(0, .inr (0, some i0)), (1, .inl x1), (2, .inl x2)] [] s0 (fX10_coins nf s0 i0 x1 x2)
  unfold fX10_coins
  refine J_aload_n C 0 dX10_coins_0 rfl ?_
  refine J_iload_n C 1 dX10_coins_1 rfl ?_
  refine J_callVR (S := []) (avs := [.inl x1]) C zx0 yw_19 rfl (kX10_findCup _ _ _) dX10_coins_2 rfl (Nat.le_of_ble_eq_true rfl) (by decide) fun r_2 s_1 => ?_
  refine J_astore_n (L' := [(0, .inr (0, some i0)), (1, .inl x1), (2, .inl x2), (3, .inr (5, r_2))]) C dX10_coins_5 (Nat.le_of_ble_eq_true rfl) rfl ?_
  refine J_aload_n C 3 dX10_coins_6 rfl ?_
  refine J_elim (fun e_4 => ?_) (fun i_3 e_4 => ?_)
  · subst e_4
    refine J_nonnull_n C dX10_coins_7 ?_
    refine J_iconst C dX10_coins_10 (zi9 rfl rfl) ?_
    exact J_iret C dX10_coins_11 (by decide) (by decide)
  · subst e_4
    refine J_nonnull_s C 12 dX10_coins_7 rfl ?_
    refine J_aload_n C 3 dX10_coins_12 rfl ?_
    refine gf_5_2 C dX10_coins_13 q_358 ?_
    refine J_nmR fun r_5 => ?_
    refine J_iload_n C 2 dX10_coins_16 rfl ?_
    refine J_bind fun i_6 e_7 => ?_
    subst e_7
    refine J_callVI (S := []) (avs := [.inl x2]) C zx4 yw_26 rfl (kX3_told _ _ _ _) dX10_coins_17 rfl (Nat.le_of_ble_eq_true rfl) (by decide) fun x_9 s_8 => ?_
    exact J_iret C dX10_coins_20 (by decide) (by decide)
def fX7_wearsThrough (s0 : zS) (i0 : Nat) : Option (Int × zS) :=
  if gI s0 8 i0 11 = 0 then (some (0, s0)) else (up_ (sI s0 8 i0 12 (wr ((gI s0 8 i0 12) + 1))) fun (s_1 : zS) => if gI s_1 8 i0 12 < gI s_1 8 i0 11 then (some (0, s_1)) else (up_ (sI s_1 8 i0 12 0) fun (s_2 : zS) => some (1, s_2)))
set_option maxHeartbeats 4000000 in
set_option maxRecDepth 20000 in
theorem kX7_wearsThrough (s0 : zS) (i0 : Nat) : zCt zw yX7_wearsThrough cX7_wearsThrough 1 (some .boolean) 0 0 0 0 eI [.inr (8, some i0)] s0 (fX7_wearsThrough s0 i0) := by
  refine zCt_on (own := RX7) (nm := "wearsThrough") rfl rfl (by decide) (Nat.le_of_ble_eq_true rfl) fun K C => ?_
  show zJ zw 1 K _ 0 0 0 [(0, .inr (8, some i0))] [] s0 (fX7_wearsThrough s0 i0)
  unfold fX7_wearsThrough
  refine J_aload_n C 0 dX7_wearsThrough_0 rfl ?_
  refine gf_8_11 C dX7_wearsThrough_1 q_215 ?_
  refine J_if_ne C 9 dX7_wearsThrough_4 rfl (fun _ => ?_) (fun _ => ?_)
  · refine J_aload_n C 0 dX7_wearsThrough_9 rfl ?_
    refine J_dup C dX7_wearsThrough_10 ?_
    refine gf_8_12 C dX7_wearsThrough_11 q_217 ?_
    refine J_iconst C dX7_wearsThrough_14 (zi9 rfl rfl) ?_
    refine J_iadd C dX7_wearsThrough_15 ?_
    refine pf_8_12 C dX7_wearsThrough_16 q_217 fun s_1 => ?_
    refine J_aload_n C 0 dX7_wearsThrough_19 rfl ?_
    refine gf_8_12 C dX7_wearsThrough_20 q_217 ?_
    refine J_aload_n C 0 dX7_wearsThrough_23 rfl ?_
    refine gf_8_11 C dX7_wearsThrough_24 q_215 ?_
    refine J_ic_ge C 32 dX7_wearsThrough_27 rfl (fun _ => ?_) (fun _ => ?_)
    · refine J_aload_n C 0 dX7_wearsThrough_32 rfl ?_
      refine J_iconst C dX7_wearsThrough_33 (zi9 rfl rfl) ?_
      refine pf_8_12 C dX7_wearsThrough_34 q_217 fun s_2 => ?_
      refine J_iconst C dX7_wearsThrough_37 (zi9 rfl rfl) ?_
      exact J_zret C (by decide) dX7_wearsThrough_38 (by decide) (by decide)
    · refine J_iconst C dX7_wearsThrough_30 (zi9 rfl rfl) ?_
      exact J_zret C (by decide) dX7_wearsThrough_31 (by decide) (by decide)
  · refine J_iconst C dX7_wearsThrough_7 (zi9 rfl rfl) ?_
    exact J_zret C (by decide) dX7_wearsThrough_8 (by decide) (by decide)
def fX10_rightChild_L2 (q1 : Option Nat) : Nat → zS → Option Nat → Option (Option Nat × zS)
  | 0, _, _ => none
  | n + 1, s0, r2 =>
    Option.elim r2 (some (none, s0)) fun i_1 => nm_ (gR s0 8 i_1 1) fun (r_3 : Option Nat) => if r_3 = q1 then (some (some i_1, s0)) else (nm_ (gR s0 8 i_1 1) fun (r_4 : Option Nat) => fX10_rightChild_L2 q1 n s0 r_4)
def fX10_rightChild (nf : Nat) (s0 : zS) (r0 : Option Nat) (r1 : Option Nat) : Option (Option Nat × zS) :=
  fX10_rightChild_L2 r1 nf s0 r0
set_option maxHeartbeats 4000000 in
set_option maxRecDepth 20000 in
theorem kX10_rightChild_L2 {K : zKx} (C : zC zw 3 K RX10 cX10_rightChild "rightChild" (some (.object "FlyingChange$Post")) 0 0 0 0)  (q1 : Option Nat) : ∀ (n : Nat) (s0 : zS) (r2 : Option Nat), zJ zw 3 K (zQm zw (eR 8) 0 0 K) 0 0 2 [(1, .inr (8, q1)), (2, .inr (8, r2))] [] s0 (fX10_rightChild_L2 q1 n s0 r2) := by
  intro n
  induction n with
  | zero => intro s0 r2; exact J_none
  | succ n ih =>
    intro s0 r2
    rw [fX10_rightChild_L2]
    refine J_aload_n C 1 dX10_rightChild_2 rfl ?_
    refine J_elim (fun e_2 => ?_) (fun i_1 e_2 => ?_)
    · subst e_2
      refine J_null_n C 24 dX10_rightChild_3 rfl ?_
      refine J_null 8 C dX10_rightChild_24 ?_
      exact J_aret C rfl dX10_rightChild_25 (by decide) (by decide)
    · subst e_2
      refine J_null_s C dX10_rightChild_3 ?_
      refine J_aload_n C 1 dX10_rightChild_6 rfl ?_
      refine gf_8_1 C dX10_rightChild_7 q_197 ?_
      refine J_nmR fun r_3 => ?_
      refine J_aload_n C 0 dX10_rightChild_10 rfl ?_
      refine J_acmp_ne C 16 (Nat.le_of_ble_eq_true rfl) dX10_rightChild_11 rfl (fun _ => ?_) (fun _ => ?_)
      · refine J_aload_n C 1 dX10_rightChild_16 rfl ?_
        refine gf_8_1 C dX10_rightChild_17 q_197 ?_
        refine J_nmR fun r_4 => ?_
        refine J_astore_n (L' := [(1, .inr (8, q1)), (2, .inr (8, r_4))]) C dX10_rightChild_20 (Nat.le_of_ble_eq_true rfl) rfl ?_
        refine J_goto C 2 dX10_rightChild_21 rfl ?_
        exact ih _ _
      · refine J_aload_n C 1 dX10_rightChild_14 rfl ?_
        exact J_aret C rfl dX10_rightChild_15 (by decide) (by decide)
set_option maxHeartbeats 4000000 in
set_option maxRecDepth 20000 in
theorem kX10_rightChild (nf : Nat) (s0 : zS) (r0 : Option Nat) (r1 : Option Nat) : zCt zw yX10_rightChild cX10_rightChild 3 (some (.object "FlyingChange$Post")) 0 0 0 0 (eR 8) [.inr (8, r0), .inr (8, r1)] s0 (fX10_rightChild nf s0 r0 r1) := by
  refine zCt_on (own := RX10) (nm := "rightChild") rfl rfl (by decide) (Nat.le_of_ble_eq_true rfl) fun K C => ?_
  show zJ zw 3 K _ 0 0 0 [(0, .inr (8, r0)), (1, .inr (8, r1))] [] s0 (fX10_rightChild nf s0 r0 r1)
  unfold fX10_rightChild
  refine J_aload_n C 0 dX10_rightChild_0 rfl ?_
  refine J_astore_n (L' := [(0, .inr (8, r0)), (1, .inr (8, r1)), (2, .inr (8, r0))]) C dX10_rightChild_1 (Nat.le_of_ble_eq_true rfl) rfl ?_
  refine J_loc (L' := [(1, .inr (8, r1)), (2, .inr (8, r0))]) [1, 2] rfl ?_
  exact kX10_rightChild_L2 C _ _ _ _
def fX10_childBehind_L5 (o0 : Nat) (q1 : Option Nat) (c2 : Int) : Nat → zS → Option Nat → Int → Option (Option Nat × zS)
  | 0, _, _, _ => none
  | n + 1, s0, r3, x4 =>
    if x4 < gI s0 0 o0 10 then (nm_ (gR s0 0 o0 0) fun (r_1 : Option Nat) => Option.bind r_1 fun i_2 => g_ ((0 : Int) ≤ x4 ∧ (x4 : Int) < 16) (nm_ (gR s0 11 i_2 (Int.toNat (x4))) fun (r_5 : Option Nat) => Option.bind r_5 fun i_6 => nm_ (gR s0 8 i_6 1) fun (r_8 : Option Nat) => nm_ (fun (s_9 : zS) (w_10 : Option Nat) => nm_ (wr (x4 + 1)) fun (x_11 : Int) => fX10_childBehind_L5 o0 q1 c2 n s_9 w_10 x_11) fun (j51 : zS → Option Nat → Option (Option Nat × zS)) => if r_8 = q1 then (if c2 < gI s0 8 i_6 0 then (some (some i_6, s0)) else (Option.elim r3 (j51 s0 (some i_6)) fun i_12 => j51 s0 (some i_12))) else (j51 s0 r3))) else (some (r3, s0))
def fX10_childBehind (nf : Nat) (s0 : zS) (i0 : Nat) (r1 : Option Nat) (x2 : Int) : Option (Option Nat × zS) :=
  fX10_childBehind_L5 i0 r1 x2 nf s0 none 1
set_option maxHeartbeats 4000000 in
set_option maxRecDepth 20000 in
theorem kX10_childBehind_L5 {K : zKx} (C : zC zw 6 K RX10 cX10_childBehind "childBehind" (some (.object "FlyingChange$Post")) 0 0 0 0)  (o0 : Nat) (q1 : Option Nat) (c2 : Int) : ∀ (n : Nat) (s0 : zS) (r3 : Option Nat) (x4 : Int), zJ zw 6 K (zQm zw (eR 8) 0 0 K) 0 0 5 [(0, .inr (0, some o0)), (1, .inr (8, q1)), (2, .inl c2), (3, .inr (8, r3)), (4, .inl x4)] [] s0 (fX10_childBehind_L5 o0 q1 c2 n s0 r3 x4) := by
  intro n
  induction n with
  | zero => intro s0 r3 x4; exact J_none
  | succ n ih =>
    intro s0 r3 x4
    rw [fX10_childBehind_L5]
    refine J_iload C 4 dX10_childBehind_5 rfl ?_
    refine J_aload_n C 0 dX10_childBehind_7 rfl ?_
    refine gf_0_10 C dX10_childBehind_8 q_266 ?_
    refine J_ic_ge C 57 dX10_childBehind_11 rfl (fun _ => ?_) (fun _ => ?_)
    · refine J_aload_n C 3 dX10_childBehind_57 rfl ?_
      exact J_aret C rfl dX10_childBehind_58 (by decide) (by decide)
    · refine J_aload_n C 0 dX10_childBehind_14 rfl ?_
      refine gf_0_0 C dX10_childBehind_15 q_256 ?_
      refine J_nmR fun r_1 => ?_
      refine J_iload C 4 dX10_childBehind_18 rfl ?_
      refine J_bind fun i_2 e_3 => ?_
      subst e_3
      refine J_g fun h_4 => ?_
      refine J_aald (t := 11) (N := 16) (u := 8) (a := 2) C (Nat.le_of_ble_eq_true rfl) rfl rfl (fun _ => rfl) h_4 dX10_childBehind_20 ?_
      refine J_nmR fun r_5 => ?_
      refine J_astore (L' := [(0, .inr (0, some o0)), (1, .inr (8, q1)), (2, .inl c2), (3, .inr (8, r3)), (4, .inl x4), (5, .inr (8, r_5))]) C dX10_childBehind_21 (Nat.le_of_ble_eq_true rfl) rfl ?_
      refine J_aload C 5 dX10_childBehind_23 rfl ?_
      refine J_bind fun i_6 e_7 => ?_
      subst e_7
      refine gf_8_1 C dX10_childBehind_25 q_197 ?_
      refine J_nmR fun r_8 => ?_
      refine J_aload_n C 1 dX10_childBehind_28 rfl ?_
      refine J_join (fun j51 => ∀ (s_9 : zS) (w_10 : Option Nat), zJ zw 6 K (zQm zw (eR 8) 0 0 K) 0 0 51 [(0, .inr (0, some o0)), (1, .inr (8, q1)), (2, .inl c2), (3, .inr (8, w_10)), (4, .inl x4)] [] s_9 (j51 s_9 w_10)) ?_ fun j51 hj51 => ?_
      · intro s_9 w_10
        refine J_iinc C 4 dX10_childBehind_51 (zi9 rfl rfl) (Nat.le_of_ble_eq_true rfl) rfl fun x_11 => ?_
        refine J_goto C 5 dX10_childBehind_54 rfl ?_
        exact ih _ _ _
      · refine J_acmp_ne C 51 (Nat.le_of_ble_eq_true rfl) dX10_childBehind_29 rfl (fun _ => ?_) (fun _ => ?_)
        · refine J_loc (L' := [(0, .inr (0, some o0)), (1, .inr (8, q1)), (2, .inl c2), (3, .inr (8, r3)), (4, .inl x4)]) [0, 1, 2, 3, 4] rfl ?_
          exact hj51 _ _
        · refine J_aload C 5 dX10_childBehind_32 rfl ?_
          refine gf_8_0 C dX10_childBehind_34 q_194 ?_
          refine J_iload_n C 2 dX10_childBehind_37 rfl ?_
          refine J_ic_le C 44 dX10_childBehind_38 rfl (fun _ => ?_) (fun _ => ?_)
          · refine J_aload_n C 3 dX10_childBehind_44 rfl ?_
            refine J_elim (fun e_13 => ?_) (fun i_12 e_13 => ?_)
            · subst e_13
              refine J_nonnull_n C dX10_childBehind_45 ?_
              refine J_aload C 5 dX10_childBehind_48 rfl ?_
              refine J_astore_n (L' := [(0, .inr (0, some o0)), (1, .inr (8, q1)), (2, .inl c2), (3, .inr (8, some i_6)), (4, .inl x4), (5, .inr (8, some i_6))]) C dX10_childBehind_50 (Nat.le_of_ble_eq_true rfl) rfl ?_
              refine J_loc (L' := [(0, .inr (0, some o0)), (1, .inr (8, q1)), (2, .inl c2), (3, .inr (8, some i_6)), (4, .inl x4)]) [0, 1, 2, 3, 4] rfl ?_
              exact hj51 _ _
            · subst e_13
              refine J_nonnull_s C 51 dX10_childBehind_45 rfl ?_
              refine J_loc (L' := [(0, .inr (0, some o0)), (1, .inr (8, q1)), (2, .inl c2), (3, .inr (8, some i_12)), (4, .inl x4)]) [0, 1, 2, 3, 4] rfl ?_
              exact hj51 _ _
          · refine J_aload C 5 dX10_childBehind_41 rfl ?_
            exact J_aret C rfl dX10_childBehind_43 (by decide) (by decide)
set_option maxHeartbeats 4000000 in
set_option maxRecDepth 20000 in
theorem kX10_childBehind (nf : Nat) (s0 : zS) (i0 : Nat) (r1 : Option Nat) (x2 : Int) : zCt zw yX10_childBehind cX10_childBehind 6 (some (.object "FlyingChange$Post")) 0 0 0 0 (eR 8) [.inr (0, some i0), .inr (8, r1), .inl x2] s0 (fX10_childBehind nf s0 i0 r1 x2) := by
  refine zCt_on (own := RX10) (nm := "childBehind") rfl rfl (by decide) (Nat.le_of_ble_eq_true rfl) fun K C => ?_
  show zJ zw 6 K _ 0 0 0 [(0, .inr (0, some i0)), (1, .inr (8, r1)), (2, .inl x2)] [] s0 (fX10_childBehind nf s0 i0 r1 x2)
  unfold fX10_childBehind
  refine J_null 8 C dX10_childBehind_0 ?_
  refine J_astore_n (L' := [(0, .inr (0, some i0)), (1, .inr (8, r1)), (2, .inl x2), (3, .inr (8, none))]) C dX10_childBehind_1 (Nat.le_of_ble_eq_true rfl) rfl ?_
  refine J_iconst C dX10_childBehind_2 (zi9 rfl rfl) ?_
  refine J_istore (L' := [(0, .inr (0, some i0)), (1, .inr (8, r1)), (2, .inl x2), (3, .inr (8, none)), (4, .inl 1)]) C dX10_childBehind_3 (Nat.le_of_ble_eq_true rfl) rfl ?_
  exact kX10_childBehind_L5 C _ _ _ _ _ _ _
def fX10_thrownTo (nf : Nat) (s0 : zS) (i0 : Nat) (r1 : Option Nat) (r2 : Option Nat) : Option (Option Nat × zS) :=
  Option.bind r2 fun i_1 => cl_ (fX7_wearsThrough s0 i_1) fun (x_4 : Int) (s_3 : zS) => Option.bind r1 fun i_5 => nm_ (gR s_3 5 i_5 1) fun (r_7 : Option Nat) => cl_ (fX10_rightChild nf s_3 r_7 (some i_1)) fun (r_9 : Option Nat) (s_8 : zS) => nm_ (fun (s_10 : zS) (w_11 : Option Nat) => if x_4 = 0 then (some (w_11, s_10)) else (Option.elim w_11 (some (none, s_10)) fun i_12 => cl_ (fX10_childBehind nf s_10 i0 (some i_1) (gI s_10 8 i_12 0)) fun (r_15 : Option Nat) (s_14 : zS) => some (r_15, s_14))) fun (j28 : zS → Option Nat → Option (Option Nat × zS)) => Option.elim r_9 (cl_ (fX10_childBehind nf s_8 i0 (some i_1) 0) fun (r_17 : Option Nat) (s_16 : zS) => j28 s_16 r_17) fun i_18 => j28 s_8 (some i_18)
set_option maxHeartbeats 4000000 in
set_option maxRecDepth 20000 in
theorem kX10_thrownTo (nf : Nat) (s0 : zS) (i0 : Nat) (r1 : Option Nat) (r2 : Option Nat) : zCt zw yX10_thrownTo cX10_thrownTo 5 (some (.object "FlyingChange$Post")) 1 25 0 0 (eR 8) [.inr (0, some i0), .inr (5, r1), .inr (8, r2)] s0 (fX10_thrownTo nf s0 i0 r1 r2) := by
  refine zCt_on (own := RX10) (nm := "thrownTo") rfl rfl (by decide) (Nat.le_of_ble_eq_true rfl) fun K C => ?_
  show zJ zw 5 K _ 0 0 0 [(0, .inr (0, some i0)), (1, .inr (5, r1)), (2, .inr (8, r2))] [] s0 (fX10_thrownTo nf s0 i0 r1 r2)
  unfold fX10_thrownTo
  refine J_aload_n C 2 dX10_thrownTo_0 rfl ?_
  refine J_bind fun i_1 e_2 => ?_
  subst e_2
  refine J_callVI (S := []) (avs := []) C zx8 yw_29 rfl (kX7_wearsThrough _ _) dX10_thrownTo_1 rfl (Nat.le_of_ble_eq_true rfl) (by decide) fun x_4 s_3 => ?_
  refine J_istore_n (L' := [(0, .inr (0, some i0)), (1, .inr (5, r1)), (2, .inr (8, some i_1)), (3, .inl x_4)]) C dX10_thrownTo_4 (Nat.le_of_ble_eq_true rfl) rfl ?_
  refine J_aload_n C 1 dX10_thrownTo_5 rfl ?_
  refine J_bind fun i_5 e_6 => ?_
  subst e_6
  refine gf_5_1 C dX10_thrownTo_6 q_356 ?_
  refine J_nmR fun r_7 => ?_
  refine J_aload_n C 2 dX10_thrownTo_9 rfl ?_
  refine J_callSR (S := []) (avs := [.inr (8, r_7), .inr (8, some i_1)]) C yw_28 (kX10_rightChild _ _ _ _) dX10_thrownTo_10 rfl (Nat.le_of_ble_eq_true rfl) (by decide) fun r_9 s_8 => ?_
  refine J_astore (L' := [(0, .inr (0, some i0)), (1, .inr (5, some i_5)), (2, .inr (8, some i_1)), (3, .inl x_4), (4, .inr (8, r_9))]) C dX10_thrownTo_13 (Nat.le_of_ble_eq_true rfl) rfl ?_
  refine J_aload C 4 dX10_thrownTo_15 rfl ?_
  refine J_join (fun j28 => ∀ (s_10 : zS) (w_11 : Option Nat), zJ zw 5 K (zQm zw (eR 8) 0 0 K) 0 0 28 [(0, .inr (0, some i0)), (2, .inr (8, some i_1)), (3, .inl x_4), (4, .inr (8, w_11))] [] s_10 (j28 s_10 w_11)) ?_ fun j28 hj28 => ?_
  · intro s_10 w_11
    refine J_iload_n C 2 dX10_thrownTo_28 rfl ?_
    refine J_if_eq C 50 dX10_thrownTo_29 rfl (fun _ => ?_) (fun _ => ?_)
    · refine J_aload C 3 dX10_thrownTo_50 rfl ?_
      exact J_aret C rfl dX10_thrownTo_52 (by decide) (by decide)
    · refine J_aload C 3 dX10_thrownTo_32 rfl ?_
      refine J_elim (fun e_13 => ?_) (fun i_12 e_13 => ?_)
      · subst e_13
        refine J_null_n C 50 dX10_thrownTo_34 rfl ?_
        refine J_aload C 3 dX10_thrownTo_50 rfl ?_
        exact J_aret C rfl dX10_thrownTo_52 (by decide) (by decide)
      · subst e_13
        refine J_null_s C dX10_thrownTo_34 ?_
        refine J_aload_n C 0 dX10_thrownTo_37 rfl ?_
        refine J_aload_n C 1 dX10_thrownTo_38 rfl ?_
        refine J_aload C 3 dX10_thrownTo_39 rfl ?_
        refine gf_8_0 C dX10_thrownTo_41 q_194 ?_
        refine J_callVR (S := []) (avs := [.inr (8, some i_1), .inl (gI s_10 8 i_12 0)]) C zx0 yw_27 rfl (kX10_childBehind _ _ _ _ _) dX10_thrownTo_44 rfl (Nat.le_of_ble_eq_true rfl) (by decide) fun r_15 s_14 => ?_
        refine J_goto C 52 dX10_thrownTo_47 rfl ?_
        exact J_aret C rfl dX10_thrownTo_52 (by decide) (by decide)
  · refine J_elim (fun e_19 => ?_) (fun i_18 e_19 => ?_)
    · subst e_19
      refine J_nonnull_n C dX10_thrownTo_17 ?_
      refine J_aload_n C 0 dX10_thrownTo_20 rfl ?_
      refine J_aload_n C 2 dX10_thrownTo_21 rfl ?_
      refine J_iconst C dX10_thrownTo_22 (zi9 rfl rfl) ?_
      refine J_callVR (S := []) (avs := [.inr (8, some i_1), .inl 0]) C zx0 yw_27 rfl (kX10_childBehind _ _ _ _ _) dX10_thrownTo_23 rfl (Nat.le_of_ble_eq_true rfl) (by decide) fun r_17 s_16 => ?_
      refine J_astore (L' := [(0, .inr (0, some i0)), (1, .inr (5, some i_5)), (2, .inr (8, some i_1)), (3, .inl x_4), (4, .inr (8, r_17))]) C dX10_thrownTo_26 (Nat.le_of_ble_eq_true rfl) rfl ?_
      refine J_loc (L' := [(0, .inr (0, some i0)), (2, .inr (8, some i_1)), (3, .inl x_4), (4, .inr (8, r_17))]) [0, 2, 3, 4] rfl ?_
      exact hj28 _ _
    · subst e_19
      refine J_nonnull_s C 28 dX10_thrownTo_17 rfl ?_
      refine J_loc (L' := [(0, .inr (0, some i0)), (2, .inr (8, some i_1)), (3, .inl x_4), (4, .inr (8, some i_18))]) [0, 2, 3, 4] rfl ?_
      exact hj28 _ _
def fX4_waitToGoDown (s0 : zS) (i0 : Nat) (r1 : Option Nat) (r2 : Option Nat) (x3 : Int) : Option (Unit × zS) :=
  cl_ (fX4_leaveFor s0 i0 1) fun (_ : Unit) (s_1 : zS) => up_ (sR s_1 5 i0 4 r1) fun (s_2 : zS) => up_ (sI s_2 5 i0 5 0) fun (s_3 : zS) => up_ (sR s_3 5 i0 7 r2) fun (s_4 : zS) => up_ (sI s_4 5 i0 10 x3) fun (s_5 : zS) => some ((), s_5)
set_option maxHeartbeats 4000000 in
set_option maxRecDepth 20000 in
theorem kX4_waitToGoDown (s0 : zS) (i0 : Nat) (r1 : Option Nat) (r2 : Option Nat) (x3 : Int) : zCt zw yX4_waitToGoDown cX4_waitToGoDown 4 none 1 21 0 0 eV [.inr (5, some i0), .inr (8, r1), .inr (8, r2), .inl x3] s0 (fX4_waitToGoDown s0 i0 r1 r2 x3) := by
  refine zCt_on (own := RX4) (nm := "waitToGoDown") rfl rfl (by decide) (Nat.le_of_ble_eq_true rfl) fun K C => ?_
  show zJ zw 4 K _ 0 0 0 [(0, .inr (5, some i0)), (1, .inr (8, r1)), (2, .inr (8, r2)), (3, .inl x3)] [] s0 (fX4_waitToGoDown s0 i0 r1 r2 x3)
  unfold fX4_waitToGoDown
  refine J_aload_n C 0 dX4_waitToGoDown_0 rfl ?_
  refine J_iconst C dX4_waitToGoDown_1 (zi9 rfl rfl) ?_
  refine J_callVV (S := []) (avs := [.inl 1]) C zx5 yw_17 rfl (kX4_leaveFor _ _ _) dX4_waitToGoDown_2 rfl (Nat.le_of_ble_eq_true rfl) (by decide) fun _ s_1 => ?_
  refine J_aload_n C 0 dX4_waitToGoDown_5 rfl ?_
  refine J_aload_n C 1 dX4_waitToGoDown_6 rfl ?_
  refine pf_5_4 C dX4_waitToGoDown_7 q_361 fun s_2 => ?_
  refine J_aload_n C 0 dX4_waitToGoDown_10 rfl ?_
  refine J_iconst C dX4_waitToGoDown_11 (zi9 rfl rfl) ?_
  refine pf_5_5 C (by decide) dX4_waitToGoDown_12 q_363 fun s_3 => ?_
  refine J_aload_n C 0 dX4_waitToGoDown_15 rfl ?_
  refine J_aload_n C 2 dX4_waitToGoDown_16 rfl ?_
  refine pf_5_7 C dX4_waitToGoDown_17 q_367 fun s_4 => ?_
  refine J_aload_n C 0 dX4_waitToGoDown_20 rfl ?_
  refine J_iload_n C 3 dX4_waitToGoDown_21 rfl ?_
  refine pf_5_10 C dX4_waitToGoDown_22 q_373 fun s_5 => ?_
  exact J_vret C dX4_waitToGoDown_25 (by decide) (by decide)
def fX0_ring (s0 : zS) (i0 : Nat) (x1 : Int) (x2 : Int) : Option (Unit × zS) :=
  nm_ (Int.tmod (wr ((gI s0 1 i0 2) + (gI s0 1 i0 3))) 300) fun (x_1 : Int) => nm_ (gR s0 1 i0 0) fun (r_2 : Option Nat) => Option.bind r_2 fun i_3 => g_ ((0 : Int) ≤ x_1 ∧ (x_1 : Int) < 300) (up_ (sI s0 20 i_3 (Int.toNat (x_1)) x1) fun (s_6 : zS) => nm_ (gR s_6 1 i0 1) fun (r_7 : Option Nat) => Option.bind r_7 fun i_8 => g_ ((0 : Int) ≤ x_1 ∧ (x_1 : Int) < 300) (up_ (sI s_6 21 i_8 (Int.toNat (x_1)) x2) fun (s_11 : zS) => if gI s_11 1 i0 3 < 300 then (up_ (sI s_11 1 i0 3 (wr ((gI s_11 1 i0 3) + 1))) fun (s_13 : zS) => some ((), s_13)) else (up_ (sI s_11 1 i0 2 (Int.tmod (wr ((gI s_11 1 i0 2) + 1)) 300)) fun (s_12 : zS) => some ((), s_12))))
set_option maxHeartbeats 4000000 in
set_option maxRecDepth 20000 in
theorem kX0_ring (s0 : zS) (i0 : Nat) (x1 : Int) (x2 : Int) : zCt zw yX0_ring cX0_ring 4 none 0 0 0 0 eV [.inr (1, some i0), .inl x1, .inl x2] s0 (fX0_ring s0 i0 x1 x2) := by
  refine zCt_on (own := RX0) (nm := "ring") rfl rfl (by decide) (Nat.le_of_ble_eq_true rfl) fun K C => ?_
  show zJ zw 4 K _ 0 0 0 [(0, .inr (1, some i0)), (1, .inl x1), (2, .inl x2)] [] s0 (fX0_ring s0 i0 x1 x2)
  unfold fX0_ring
  refine J_aload_n C 0 dX0_ring_0 rfl ?_
  refine gf_1_2 C dX0_ring_1 q_85 ?_
  refine J_aload_n C 0 dX0_ring_4 rfl ?_
  refine gf_1_3 C dX0_ring_5 q_86 ?_
  refine J_iadd C dX0_ring_8 ?_
  refine J_sipush C dX0_ring_9 (zi9 rfl rfl) (by decide) ?_
  refine J_irem C dX0_ring_12 (by decide) ?_
  refine J_nm fun x_1 => ?_
  refine J_istore_n (L' := [(0, .inr (1, some i0)), (1, .inl x1), (2, .inl x2), (3, .inl x_1)]) C dX0_ring_13 (Nat.le_of_ble_eq_true rfl) rfl ?_
  refine J_aload_n C 0 dX0_ring_14 rfl ?_
  refine gf_1_0 C dX0_ring_15 q_83 ?_
  refine J_nmR fun r_2 => ?_
  refine J_iload_n C 3 dX0_ring_18 rfl ?_
  refine J_iload_n C 1 dX0_ring_19 rfl ?_
  refine J_bind fun i_3 e_4 => ?_
  subst e_4
  refine J_g fun h_5 => ?_
  refine J_iast (t := 20) (N := 300) C (Nat.le_of_ble_eq_true rfl) rfl rfl h_5 dX0_ring_20 fun s_6 => ?_
  refine J_aload_n C 0 dX0_ring_21 rfl ?_
  refine gf_1_1 C dX0_ring_22 q_84 ?_
  refine J_nmR fun r_7 => ?_
  refine J_iload_n C 3 dX0_ring_25 rfl ?_
  refine J_iload_n C 2 dX0_ring_26 rfl ?_
  refine J_bind fun i_8 e_9 => ?_
  subst e_9
  refine J_g fun h_10 => ?_
  refine J_iast (t := 21) (N := 300) C (Nat.le_of_ble_eq_true rfl) rfl rfl h_10 dX0_ring_27 fun s_11 => ?_
  refine J_aload_n C 0 dX0_ring_28 rfl ?_
  refine gf_1_3 C dX0_ring_29 q_86 ?_
  refine J_sipush C dX0_ring_32 (zi9 rfl rfl) (by decide) ?_
  refine J_ic_ge C 51 dX0_ring_35 rfl (fun _ => ?_) (fun _ => ?_)
  · refine J_aload_n C 0 dX0_ring_51 rfl ?_
    refine J_aload_n C 0 dX0_ring_52 rfl ?_
    refine gf_1_2 C dX0_ring_53 q_85 ?_
    refine J_iconst C dX0_ring_56 (zi9 rfl rfl) ?_
    refine J_iadd C dX0_ring_57 ?_
    refine J_sipush C dX0_ring_58 (zi9 rfl rfl) (by decide) ?_
    refine J_irem C dX0_ring_61 (by decide) ?_
    refine pf_1_2 C dX0_ring_62 q_85 fun s_12 => ?_
    exact J_vret C dX0_ring_65 (by decide) (by decide)
  · refine J_aload_n C 0 dX0_ring_38 rfl ?_
    refine J_dup C dX0_ring_39 ?_
    refine gf_1_3 C dX0_ring_40 q_86 ?_
    refine J_iconst C dX0_ring_43 (zi9 rfl rfl) ?_
    refine J_iadd C dX0_ring_44 ?_
    refine pf_1_3 C dX0_ring_45 q_86 fun s_13 => ?_
    refine J_goto C 65 dX0_ring_48 rfl ?_
    exact J_vret C dX0_ring_65 (by decide) (by decide)
def fX10_ringAt (s0 : zS) (i0 : Nat) (r1 : Option Nat) : Option (Unit × zS) :=
  Option.bind r1 fun i_1 => if gI s0 8 i_1 13 = 0 then (nm_ (gR s0 0 i0 7) fun (r_3 : Option Nat) => Option.bind r_3 fun i_4 => cl_ (fX0_ring s0 i_4 (gI s0 8 i_1 0) (gI s0 0 i0 13)) fun (_ : Unit) (s_6 : zS) => some ((), s_6)) else (some ((), s0))
set_option maxHeartbeats 4000000 in
set_option maxRecDepth 20000 in
theorem kX10_ringAt (s0 : zS) (i0 : Nat) (r1 : Option Nat) : zCt zw yX10_ringAt cX10_ringAt 2 none 1 23 0 0 eV [.inr (0, some i0), .inr (8, r1)] s0 (fX10_ringAt s0 i0 r1) := by
  refine zCt_on (own := RX10) (nm := "ringAt") rfl rfl (by decide) (Nat.le_of_ble_eq_true rfl) fun K C => ?_
  show zJ zw 2 K _ 0 0 0 [(0, .inr (0, some i0)), (1, .inr (8, r1))] [] s0 (fX10_ringAt s0 i0 r1)
  unfold fX10_ringAt
  refine J_aload_n C 1 dX10_ringAt_0 rfl ?_
  refine J_bind fun i_1 e_2 => ?_
  subst e_2
  refine gf_8_13 C dX10_ringAt_1 q_218 ?_
  refine J_if_ne C 22 dX10_ringAt_4 rfl (fun _ => ?_) (fun _ => ?_)
  · exact J_vret C dX10_ringAt_22 (by decide) (by decide)
  · refine J_aload_n C 0 dX10_ringAt_7 rfl ?_
    refine gf_0_7 C dX10_ringAt_8 q_263 ?_
    refine J_nmR fun r_3 => ?_
    refine J_aload_n C 1 dX10_ringAt_11 rfl ?_
    refine gf_8_0 C dX10_ringAt_12 q_194 ?_
    refine J_aload_n C 0 dX10_ringAt_15 rfl ?_
    refine gf_0_13 C dX10_ringAt_16 q_269 ?_
    refine J_bind fun i_4 e_5 => ?_
    subst e_5
    refine J_callVV (S := []) (avs := [.inl (gI s0 8 i_1 0), .inl (gI s0 0 i0 13)]) C zx1 yw_30 rfl (kX0_ring _ _ _ _) dX10_ringAt_19 rfl (Nat.le_of_ble_eq_true rfl) (by decide) fun _ s_6 => ?_
    exact J_vret C dX10_ringAt_22 (by decide) (by decide)
def fX8_handOut (s0 : zS) (i0 : Nat) (x1 : Int) : Option (Unit × zS) :=
  up_ (sI s0 9 i0 4 (wr ((gI s0 9 i0 4) + x1))) fun (s_1 : zS) => some ((), s_1)
set_option maxHeartbeats 4000000 in
set_option maxRecDepth 20000 in
theorem kX8_handOut (s0 : zS) (i0 : Nat) (x1 : Int) : zCt zw yX8_handOut cX8_handOut 2 none 0 0 0 0 eV [.inr (9, some i0), .inl x1] s0 (fX8_handOut s0 i0 x1) := by
  refine zCt_on (own := RX8) (nm := "handOut") rfl rfl (by decide) (Nat.le_of_ble_eq_true rfl) fun K C => ?_
  show zJ zw 2 K _ 0 0 0 [(0, .inr (9, some i0)), (1, .inl x1)] [] s0 (fX8_handOut s0 i0 x1)
  unfold fX8_handOut
  refine J_aload_n C 0 dX8_handOut_0 rfl ?_
  refine J_dup C dX8_handOut_1 ?_
  refine gf_9_4 C dX8_handOut_2 q_180 ?_
  refine J_iload_n C 1 dX8_handOut_5 rfl ?_
  refine J_iadd C dX8_handOut_6 ?_
  refine pf_9_4 C dX8_handOut_7 q_180 fun s_1 => ?_
  exact J_vret C dX8_handOut_10 (by decide) (by decide)
def fX3_empty_L2 (o0 : Nat) : Nat → zS → Int → Option (Unit × zS)
  | 0, _, _ => none
  | n + 1, s0, x1 =>
    if x1 < 6 then (nm_ (gR s0 4 o0 0) fun (r_1 : Option Nat) => Option.bind r_1 fun i_2 => g_ ((0 : Int) ≤ x1 ∧ (x1 : Int) < 6) (up_ (sI s0 15 i_2 (Int.toNat (x1)) 0) fun (s_5 : zS) => nm_ (wr (x1 + 1)) fun (x_6 : Int) => fX3_empty_L2 o0 n s_5 x_6)) else (some ((), s0))
def fX3_empty (nf : Nat) (s0 : zS) (i0 : Nat) : Option (Unit × zS) :=
  fX3_empty_L2 i0 nf s0 0
set_option maxHeartbeats 4000000 in
set_option maxRecDepth 20000 in
theorem kX3_empty_L2 {K : zKx} (C : zC zw 2 K RX3 cX3_empty "empty" none 0 0 0 0)  (o0 : Nat) : ∀ (n : Nat) (s0 : zS) (x1 : Int), zJ zw 2 K (zQm zw eV 0 0 K) 0 0 2 [(0, .inr (4, some o0)), (1, .inl x1)] [] s0 (fX3_empty_L2 o0 n s0 x1) := by
  intro n
  induction n with
  | zero => intro s0 x1; exact J_none
  | succ n ih =>
    intro s0 x1
    rw [fX3_empty_L2]
    refine J_iload_n C 1 dX3_empty_2 rfl ?_
    refine J_bipush C dX3_empty_3 (zi9 rfl rfl) (by decide) ?_
    refine J_ic_ge C 21 dX3_empty_5 rfl (fun _ => ?_) (fun _ => ?_)
    · exact J_vret C dX3_empty_21 (by decide) (by decide)
    · refine J_aload_n C 0 dX3_empty_8 rfl ?_
      refine gf_4_0 C dX3_empty_9 q_36 ?_
      refine J_nmR fun r_1 => ?_
      refine J_iload_n C 1 dX3_empty_12 rfl ?_
      refine J_iconst C dX3_empty_13 (zi9 rfl rfl) ?_
      refine J_bind fun i_2 e_3 => ?_
      subst e_3
      refine J_g fun h_4 => ?_
      refine J_iast (t := 15) (N := 6) C (Nat.le_of_ble_eq_true rfl) rfl rfl h_4 dX3_empty_14 fun s_5 => ?_
      refine J_iinc C 1 dX3_empty_15 (zi9 rfl rfl) (Nat.le_of_ble_eq_true rfl) rfl fun x_6 => ?_
      refine J_goto C 2 dX3_empty_18 rfl ?_
      exact ih _ _
set_option maxHeartbeats 4000000 in
set_option maxRecDepth 20000 in
theorem kX3_empty (nf : Nat) (s0 : zS) (i0 : Nat) : zCt zw yX3_empty cX3_empty 2 none 0 0 0 0 eV [.inr (4, some i0)] s0 (fX3_empty nf s0 i0) := by
  refine zCt_on (own := RX3) (nm := "empty") rfl rfl (by decide) (Nat.le_of_ble_eq_true rfl) fun K C => ?_
  show zJ zw 2 K _ 0 0 0 [(0, .inr (4, some i0))] [] s0 (fX3_empty nf s0 i0)
  unfold fX3_empty
  refine J_iconst C dX3_empty_0 (zi9 rfl rfl) ?_
  refine J_istore_n (L' := [(0, .inr (4, some i0)), (1, .inl 0)]) C dX3_empty_1 (Nat.le_of_ble_eq_true rfl) rfl ?_
  exact kX3_empty_L2 C _ _ _ _
def fX8_finish (s0 : zS) (i0 : Nat) (x1 : Int) (x2 : Int) : Option (Unit × zS) :=
  up_ (sI s0 9 i0 0 (wr ((gI s0 9 i0 0) + 1))) fun (s_1 : zS) => nm_ (fun (s_2 : zS) (u_3 : Int) => up_ (sI s_2 9 i0 1 (wr ((gI s_1 9 i0 1) + u_3))) fun (s_4 : zS) => up_ (sI s_4 9 i0 2 (imax (gI s_4 9 i0 2) x1)) fun (s_5 : zS) => up_ (sI s_5 9 i0 3 (wr ((gI s_5 9 i0 3) + x1))) fun (s_6 : zS) => some ((), s_6)) fun (j24 : zS → Int → Option (Unit × zS)) => if x2 = 0 then (j24 s_1 0) else (j24 s_1 1)
set_option maxHeartbeats 4000000 in
set_option maxRecDepth 20000 in
theorem kX8_finish (s0 : zS) (i0 : Nat) (x1 : Int) (x2 : Int) : zCt zw yX8_finish cX8_finish 3 none 1 14 0 0 eV [.inr (9, some i0), .inl x1, .inl x2] s0 (fX8_finish s0 i0 x1 x2) := by
  refine zCt_on (own := RX8) (nm := "finish") rfl rfl (by decide) (Nat.le_of_ble_eq_true rfl) fun K C => ?_
  show zJ zw 3 K _ 0 0 0 [(0, .inr (9, some i0)), (1, .inl x1), (2, .inl x2)] [] s0 (fX8_finish s0 i0 x1 x2)
  unfold fX8_finish
  refine J_aload_n C 0 dX8_finish_0 rfl ?_
  refine J_dup C dX8_finish_1 ?_
  refine gf_9_0 C dX8_finish_2 q_172 ?_
  refine J_iconst C dX8_finish_5 (zi9 rfl rfl) ?_
  refine J_iadd C dX8_finish_6 ?_
  refine pf_9_0 C dX8_finish_7 q_172 fun s_1 => ?_
  refine J_aload_n C 0 dX8_finish_10 rfl ?_
  refine J_dup C dX8_finish_11 ?_
  refine gf_9_1 C dX8_finish_12 q_174 ?_
  refine J_iload_n C 2 dX8_finish_15 rfl ?_
  refine J_join (fun j24 => ∀ (s_2 : zS) (u_3 : Int), zJ zw 3 K (zQm zw eV 0 0 K) 0 0 24 [(0, .inr (9, some i0)), (1, .inl x1)] [.inl u_3, .inl (gI s_1 9 i0 1), .inr (9, some i0)] s_2 (j24 s_2 u_3)) ?_ fun j24 hj24 => ?_
  · intro s_2 u_3
    refine J_iadd C dX8_finish_24 ?_
    refine pf_9_1 C dX8_finish_25 q_174 fun s_4 => ?_
    refine J_aload_n C 0 dX8_finish_28 rfl ?_
    refine J_aload_n C 0 dX8_finish_29 rfl ?_
    refine gf_9_2 C dX8_finish_30 q_176 ?_
    refine J_iload_n C 1 dX8_finish_33 rfl ?_
    refine J_mmax (S := [.inr (9, some i0)]) C dX8_finish_34 q_577 q_489 q_13 q_490 (by decide) (Nat.le_of_ble_eq_true rfl) (by decide) (by decide) ?_
    refine pf_9_2 C dX8_finish_37 q_176 fun s_5 => ?_
    refine J_aload_n C 0 dX8_finish_40 rfl ?_
    refine J_dup C dX8_finish_41 ?_
    refine gf_9_3 C dX8_finish_42 q_178 ?_
    refine J_iload_n C 1 dX8_finish_45 rfl ?_
    refine J_iadd C dX8_finish_46 ?_
    refine pf_9_3 C dX8_finish_47 q_178 fun s_6 => ?_
    exact J_vret C dX8_finish_50 (by decide) (by decide)
  · refine J_if_eq C 23 dX8_finish_16 rfl (fun _ => ?_) (fun _ => ?_)
    · refine J_iconst C dX8_finish_23 (zi9 rfl rfl) ?_
      refine J_loc (L' := [(0, .inr (9, some i0)), (1, .inl x1)]) [0, 1] rfl ?_
      exact hj24 _ _
    · refine J_iconst C dX8_finish_19 (zi9 rfl rfl) ?_
      refine J_goto C 24 dX8_finish_20 rfl ?_
      refine J_loc (L' := [(0, .inr (9, some i0)), (1, .inl x1)]) [0, 1] rfl ?_
      exact hj24 _ _
def fX10_comeHome (nf : Nat) (s0 : zS) (i0 : Nat) (r1 : Option Nat) : Option (Unit × zS) :=
  Option.bind r1 fun i_1 => nm_ (gR s0 5 i_1 2) fun (r_3 : Option Nat) => Option.bind r_3 fun i_4 => cl_ (fX3_worth nf s0 i_4) fun (x_7 : Int) (s_6 : zS) => up_ (sI s_6 0 i0 16 (wr ((gI s_6 0 i0 16) + x_7))) fun (s_8 : zS) => nm_ (gR s_8 5 i_1 1) fun (r_9 : Option Nat) => Option.bind r_9 fun i_10 => nm_ (gR s_8 8 i_10 15) fun (r_12 : Option Nat) => Option.bind r_12 fun i_13 => cl_ (fX8_handOut s_8 i_13 x_7) fun (_ : Unit) (s_15 : zS) => nm_ (gR s_15 5 i_1 2) fun (r_16 : Option Nat) => Option.bind r_16 fun i_17 => cl_ (fX3_empty nf s_15 i_17) fun (_ : Unit) (s_19 : zS) => if gI s_19 5 i_1 12 = 0 then (up_ (sI s_19 5 i_1 12 0) fun (s_20 : zS) => cl_ (fX4_leaveFor s_20 i_1 0) fun (_ : Unit) (s_21 : zS) => nm_ (gR s_21 5 i_1 1) fun (r_22 : Option Nat) => up_ (sR s_21 5 i_1 4 r_22) fun (s_23 : zS) => some ((), s_23)) else (nm_ (gR s_19 5 i_1 1) fun (r_24 : Option Nat) => Option.bind r_24 fun i_25 => nm_ (gR s_19 8 i_25 15) fun (r_27 : Option Nat) => if gI s_19 5 i_1 12 = 3 then (Option.bind r_27 fun i_35 => cl_ (fX8_finish s_19 i_35 (wr ((gI s_19 0 i0 13) - (gI s_19 5 i_1 14))) 1) fun (_ : Unit) (s_37 : zS) => up_ (sI s_37 5 i_1 12 0) fun (s_38 : zS) => cl_ (fX4_leaveFor s_38 i_1 0) fun (_ : Unit) (s_39 : zS) => nm_ (gR s_39 5 i_1 1) fun (r_40 : Option Nat) => up_ (sR s_39 5 i_1 4 r_40) fun (s_41 : zS) => some ((), s_41)) else (Option.bind r_27 fun i_28 => cl_ (fX8_finish s_19 i_28 (wr ((gI s_19 0 i0 13) - (gI s_19 5 i_1 14))) 0) fun (_ : Unit) (s_30 : zS) => up_ (sI s_30 5 i_1 12 0) fun (s_31 : zS) => cl_ (fX4_leaveFor s_31 i_1 0) fun (_ : Unit) (s_32 : zS) => nm_ (gR s_32 5 i_1 1) fun (r_33 : Option Nat) => up_ (sR s_32 5 i_1 4 r_33) fun (s_34 : zS) => some ((), s_34)))
set_option maxHeartbeats 4000000 in
set_option maxRecDepth 20000 in
theorem kX10_comeHome (nf : Nat) (s0 : zS) (i0 : Nat) (r1 : Option Nat) : zCt zw yX10_comeHome cX10_comeHome 3 none 2 36 0 0 eV [.inr (0, some i0), .inr (5, r1)] s0 (fX10_comeHome nf s0 i0 r1) := by
  refine zCt_on (own := RX10) (nm := "comeHome") rfl rfl (by decide) (Nat.le_of_ble_eq_true rfl) fun K C => ?_
  show zJ zw 3 K _ 0 0 0 [(0, .inr (0, some i0)), (1, .inr (5, r1))] [] s0 (fX10_comeHome nf s0 i0 r1)
  unfold fX10_comeHome
  refine J_aload_n C 1 dX10_comeHome_0 rfl ?_
  refine J_bind fun i_1 e_2 => ?_
  subst e_2
  refine gf_5_2 C dX10_comeHome_1 q_358 ?_
  refine J_nmR fun r_3 => ?_
  refine J_bind fun i_4 e_5 => ?_
  subst e_5
  refine J_callVI (S := []) (avs := []) C zx4 yw_34 rfl (kX3_worth _ _ _) dX10_comeHome_4 rfl (Nat.le_of_ble_eq_true rfl) (by decide) fun x_7 s_6 => ?_
  refine J_istore_n (L' := [(0, .inr (0, some i0)), (1, .inr (5, some i_1)), (2, .inl x_7)]) C dX10_comeHome_7 (Nat.le_of_ble_eq_true rfl) rfl ?_
  refine J_aload_n C 0 dX10_comeHome_8 rfl ?_
  refine J_dup C dX10_comeHome_9 ?_
  refine gf_0_16 C dX10_comeHome_10 q_272 ?_
  refine J_iload_n C 2 dX10_comeHome_13 rfl ?_
  refine J_iadd C dX10_comeHome_14 ?_
  refine pf_0_16 C dX10_comeHome_15 q_272 fun s_8 => ?_
  refine J_aload_n C 1 dX10_comeHome_18 rfl ?_
  refine gf_5_1 C dX10_comeHome_19 q_356 ?_
  refine J_nmR fun r_9 => ?_
  refine J_bind fun i_10 e_11 => ?_
  subst e_11
  refine gf_8_15 C dX10_comeHome_22 q_222 ?_
  refine J_nmR fun r_12 => ?_
  refine J_iload_n C 2 dX10_comeHome_25 rfl ?_
  refine J_bind fun i_13 e_14 => ?_
  subst e_14
  refine J_callVV (S := []) (avs := [.inl x_7]) C zx9 yw_33 rfl (kX8_handOut _ _ _) dX10_comeHome_26 rfl (Nat.le_of_ble_eq_true rfl) (by decide) fun _ s_15 => ?_
  refine J_aload_n C 1 dX10_comeHome_29 rfl ?_
  refine gf_5_2 C dX10_comeHome_30 q_358 ?_
  refine J_nmR fun r_16 => ?_
  refine J_bind fun i_17 e_18 => ?_
  subst e_18
  refine J_callVV (S := []) (avs := []) C zx4 yw_32 rfl (kX3_empty _ _ _) dX10_comeHome_33 rfl (Nat.le_of_ble_eq_true rfl) (by decide) fun _ s_19 => ?_
  refine J_aload_n C 1 dX10_comeHome_36 rfl ?_
  refine gf_5_12 C dX10_comeHome_37 q_379 ?_
  refine J_if_eq C 75 dX10_comeHome_40 rfl (fun _ => ?_) (fun _ => ?_)
  · refine J_aload_n C 1 dX10_comeHome_75 rfl ?_
    refine J_iconst C dX10_comeHome_76 (zi9 rfl rfl) ?_
    refine pf_5_12 C dX10_comeHome_77 q_379 fun s_20 => ?_
    refine J_aload_n C 1 dX10_comeHome_80 rfl ?_
    refine J_iconst C dX10_comeHome_81 (zi9 rfl rfl) ?_
    refine J_callVV (S := []) (avs := [.inl 0]) C zx5 yw_20 rfl (kX4_leaveFor _ _ _) dX10_comeHome_82 rfl (Nat.le_of_ble_eq_true rfl) (by decide) fun _ s_21 => ?_
    refine J_aload_n C 1 dX10_comeHome_85 rfl ?_
    refine J_aload_n C 1 dX10_comeHome_86 rfl ?_
    refine gf_5_1 C dX10_comeHome_87 q_356 ?_
    refine J_nmR fun r_22 => ?_
    refine pf_5_4 C dX10_comeHome_90 q_362 fun s_23 => ?_
    exact J_vret C dX10_comeHome_93 (by decide) (by decide)
  · refine J_aload_n C 1 dX10_comeHome_43 rfl ?_
    refine gf_5_1 C dX10_comeHome_44 q_356 ?_
    refine J_nmR fun r_24 => ?_
    refine J_bind fun i_25 e_26 => ?_
    subst e_26
    refine gf_8_15 C dX10_comeHome_47 q_222 ?_
    refine J_nmR fun r_27 => ?_
    refine J_aload_n C 0 dX10_comeHome_50 rfl ?_
    refine gf_0_13 C dX10_comeHome_51 q_269 ?_
    refine J_aload_n C 1 dX10_comeHome_54 rfl ?_
    refine gf_5_14 C dX10_comeHome_55 q_382 ?_
    refine J_isub C dX10_comeHome_58 ?_
    refine J_aload_n C 1 dX10_comeHome_59 rfl ?_
    refine gf_5_12 C dX10_comeHome_60 q_379 ?_
    refine J_iconst C dX10_comeHome_63 (zi9 rfl rfl) ?_
    refine J_ic_ne C 71 dX10_comeHome_64 rfl (fun _ => ?_) (fun _ => ?_)
    · refine J_iconst C dX10_comeHome_71 (zi9 rfl rfl) ?_
      refine J_bind fun i_28 e_29 => ?_
      subst e_29
      refine J_callVV (S := []) (avs := [.inl (wr ((gI s_19 0 i0 13) - (gI s_19 5 i_1 14))), .inl 0]) C zx9 yw_31 rfl (kX8_finish _ _ _ _) dX10_comeHome_72 rfl (Nat.le_of_ble_eq_true rfl) (by decide) fun _ s_30 => ?_
      refine J_aload_n C 1 dX10_comeHome_75 rfl ?_
      refine J_iconst C dX10_comeHome_76 (zi9 rfl rfl) ?_
      refine pf_5_12 C dX10_comeHome_77 q_379 fun s_31 => ?_
      refine J_aload_n C 1 dX10_comeHome_80 rfl ?_
      refine J_iconst C dX10_comeHome_81 (zi9 rfl rfl) ?_
      refine J_callVV (S := []) (avs := [.inl 0]) C zx5 yw_20 rfl (kX4_leaveFor _ _ _) dX10_comeHome_82 rfl (Nat.le_of_ble_eq_true rfl) (by decide) fun _ s_32 => ?_
      refine J_aload_n C 1 dX10_comeHome_85 rfl ?_
      refine J_aload_n C 1 dX10_comeHome_86 rfl ?_
      refine gf_5_1 C dX10_comeHome_87 q_356 ?_
      refine J_nmR fun r_33 => ?_
      refine pf_5_4 C dX10_comeHome_90 q_362 fun s_34 => ?_
      exact J_vret C dX10_comeHome_93 (by decide) (by decide)
    · refine J_iconst C dX10_comeHome_67 (zi9 rfl rfl) ?_
      refine J_goto C 72 dX10_comeHome_68 rfl ?_
      refine J_bind fun i_35 e_36 => ?_
      subst e_36
      refine J_callVV (S := []) (avs := [.inl (wr ((gI s_19 0 i0 13) - (gI s_19 5 i_1 14))), .inl 1]) C zx9 yw_31 rfl (kX8_finish _ _ _ _) dX10_comeHome_72 rfl (Nat.le_of_ble_eq_true rfl) (by decide) fun _ s_37 => ?_
      refine J_aload_n C 1 dX10_comeHome_75 rfl ?_
      refine J_iconst C dX10_comeHome_76 (zi9 rfl rfl) ?_
      refine pf_5_12 C dX10_comeHome_77 q_379 fun s_38 => ?_
      refine J_aload_n C 1 dX10_comeHome_80 rfl ?_
      refine J_iconst C dX10_comeHome_81 (zi9 rfl rfl) ?_
      refine J_callVV (S := []) (avs := [.inl 0]) C zx5 yw_20 rfl (kX4_leaveFor _ _ _) dX10_comeHome_82 rfl (Nat.le_of_ble_eq_true rfl) (by decide) fun _ s_39 => ?_
      refine J_aload_n C 1 dX10_comeHome_85 rfl ?_
      refine J_aload_n C 1 dX10_comeHome_86 rfl ?_
      refine gf_5_1 C dX10_comeHome_87 q_356 ?_
      refine J_nmR fun r_40 => ?_
      refine pf_5_4 C dX10_comeHome_90 q_362 fun s_41 => ?_
      exact J_vret C dX10_comeHome_93 (by decide) (by decide)
def fX10_comeDown (nf : Nat) (s0 : zS) (i0 : Nat) (r1 : Option Nat) (r2 : Option Nat) : Option (Unit × zS) :=
  Option.bind r2 fun i_1 => if gI s0 8 i_1 2 = 1 then (cl_ (fX10_thrownTo nf s0 i0 r1 (some i_1)) fun (r_10 : Option Nat) (s_9 : zS) => Option.bind r1 fun i_11 => cl_ (fX4_waitToGoDown s_9 i_11 (some i_1) r_10 (gI s_9 0 i0 13)) fun (_ : Unit) (s_13 : zS) => cl_ (fX10_ringAt s_13 i0 (some i_1)) fun (_ : Unit) (s_14 : zS) => some ((), s_14)) else (Option.bind r1 fun i_3 => nm_ (gR s0 5 i_3 1) fun (r_5 : Option Nat) => if some i_1 = r_5 then (cl_ (fX10_comeHome nf s0 i0 (some i_3)) fun (_ : Unit) (s_8 : zS) => some ((), s_8)) else (cl_ (fX4_leaveFor s0 i_3 5) fun (_ : Unit) (s_6 : zS) => up_ (sR s_6 5 i_3 4 (some i_1)) fun (s_7 : zS) => some ((), s_7)))
set_option maxHeartbeats 4000000 in
set_option maxRecDepth 20000 in
theorem kX10_comeDown (nf : Nat) (s0 : zS) (i0 : Nat) (r1 : Option Nat) (r2 : Option Nat) : zCt zw yX10_comeDown cX10_comeDown 3 none 3 58 0 0 eV [.inr (0, some i0), .inr (5, r1), .inr (8, r2)] s0 (fX10_comeDown nf s0 i0 r1 r2) := by
  refine zCt_on (own := RX10) (nm := "comeDown") rfl rfl (by decide) (Nat.le_of_ble_eq_true rfl) fun K C => ?_
  show zJ zw 3 K _ 0 0 0 [(0, .inr (0, some i0)), (1, .inr (5, r1)), (2, .inr (8, r2))] [] s0 (fX10_comeDown nf s0 i0 r1 r2)
  unfold fX10_comeDown
  refine J_aload_n C 2 dX10_comeDown_0 rfl ?_
  refine J_bind fun i_1 e_2 => ?_
  subst e_2
  refine gf_8_2 C dX10_comeDown_1 q_199 ?_
  refine J_iconst C dX10_comeDown_4 (zi9 rfl rfl) ?_
  refine J_ic_ne C 31 dX10_comeDown_5 rfl (fun _ => ?_) (fun _ => ?_)
  · refine J_aload_n C 2 dX10_comeDown_31 rfl ?_
    refine J_aload_n C 1 dX10_comeDown_32 rfl ?_
    refine J_bind fun i_3 e_4 => ?_
    subst e_4
    refine gf_5_1 C dX10_comeDown_33 q_356 ?_
    refine J_nmR fun r_5 => ?_
    refine J_acmp_ne C 47 (Nat.le_of_ble_eq_true rfl) dX10_comeDown_36 rfl (fun _ => ?_) (fun _ => ?_)
    · refine J_aload_n C 1 dX10_comeDown_47 rfl ?_
      refine J_iconst C dX10_comeDown_48 (zi9 rfl rfl) ?_
      refine J_callVV (S := []) (avs := [.inl 5]) C zx5 yw_20 rfl (kX4_leaveFor _ _ _) dX10_comeDown_49 rfl (Nat.le_of_ble_eq_true rfl) (by decide) fun _ s_6 => ?_
      refine J_aload_n C 1 dX10_comeDown_52 rfl ?_
      refine J_aload_n C 2 dX10_comeDown_53 rfl ?_
      refine pf_5_4 C dX10_comeDown_54 q_362 fun s_7 => ?_
      exact J_vret C dX10_comeDown_57 (by decide) (by decide)
    · refine J_aload_n C 0 dX10_comeDown_39 rfl ?_
      refine J_aload_n C 1 dX10_comeDown_40 rfl ?_
      refine J_callVV (S := []) (avs := [.inr (5, some i_3)]) C zx0 yw_35 rfl (kX10_comeHome _ _ _ _) dX10_comeDown_41 rfl (Nat.le_of_ble_eq_true rfl) (by decide) fun _ s_8 => ?_
      refine J_goto C 57 dX10_comeDown_44 rfl ?_
      exact J_vret C dX10_comeDown_57 (by decide) (by decide)
  · refine J_aload_n C 1 dX10_comeDown_8 rfl ?_
    refine J_aload_n C 2 dX10_comeDown_9 rfl ?_
    refine J_aload_n C 0 dX10_comeDown_10 rfl ?_
    refine J_aload_n C 1 dX10_comeDown_11 rfl ?_
    refine J_aload_n C 2 dX10_comeDown_12 rfl ?_
    refine J_callVR (S := [.inr (8, some i_1), .inr (5, r1)]) (avs := [.inr (5, r1), .inr (8, some i_1)]) C zx0 yw_38 rfl (kX10_thrownTo _ _ _ _ _) dX10_comeDown_13 rfl (Nat.le_of_ble_eq_true rfl) (by decide) fun r_10 s_9 => ?_
    refine J_aload_n C 0 dX10_comeDown_16 rfl ?_
    refine gf_0_13 C dX10_comeDown_17 q_269 ?_
    refine J_bind fun i_11 e_12 => ?_
    subst e_12
    refine J_callVV (S := []) (avs := [.inr (8, some i_1), .inr (8, r_10), .inl (gI s_9 0 i0 13)]) C zx5 yw_37 rfl (kX4_waitToGoDown _ _ _ _ _) dX10_comeDown_20 rfl (Nat.le_of_ble_eq_true rfl) (by decide) fun _ s_13 => ?_
    refine J_aload_n C 0 dX10_comeDown_23 rfl ?_
    refine J_aload_n C 2 dX10_comeDown_24 rfl ?_
    refine J_callVV (S := []) (avs := [.inr (8, some i_1)]) C zx0 yw_36 rfl (kX10_ringAt _ _ _) dX10_comeDown_25 rfl (Nat.le_of_ble_eq_true rfl) (by decide) fun _ s_14 => ?_
    refine J_goto C 57 dX10_comeDown_28 rfl ?_
    exact J_vret C dX10_comeDown_57 (by decide) (by decide)
def fX10_comeUp (s0 : zS) (i0 : Nat) (r1 : Option Nat) (r2 : Option Nat) : Option (Unit × zS) :=
  Option.bind r2 fun i_1 => nm_ (gR s0 8 i_1 1) fun (r_3 : Option Nat) => Option.bind r_3 fun i_4 => if gI s0 8 i_4 2 = 0 then (Option.bind r1 fun i_13 => cl_ (fX4_leaveFor s0 i_13 3) fun (_ : Unit) (s_15 : zS) => up_ (sI s_15 5 i_13 10 (gI s_15 0 i0 13)) fun (s_16 : zS) => some ((), s_16)) else (nm_ (gR s0 8 i_1 1) fun (r_6 : Option Nat) => Option.bind r1 fun i_7 => cl_ (fX4_waitToGoUp s0 i_7 r_6 (gI s0 0 i0 13)) fun (_ : Unit) (s_9 : zS) => up_ (sR s_9 5 i_7 6 (some i_1)) fun (s_10 : zS) => nm_ (gR s_10 8 i_1 1) fun (r_11 : Option Nat) => cl_ (fX10_ringAt s_10 i0 r_11) fun (_ : Unit) (s_12 : zS) => some ((), s_12))
set_option maxHeartbeats 4000000 in
set_option maxRecDepth 20000 in
theorem kX10_comeUp (s0 : zS) (i0 : Nat) (r1 : Option Nat) (r2 : Option Nat) : zCt zw yX10_comeUp cX10_comeUp 3 none 2 44 0 0 eV [.inr (0, some i0), .inr (5, r1), .inr (8, r2)] s0 (fX10_comeUp s0 i0 r1 r2) := by
  refine zCt_on (own := RX10) (nm := "comeUp") rfl rfl (by decide) (Nat.le_of_ble_eq_true rfl) fun K C => ?_
  show zJ zw 3 K _ 0 0 0 [(0, .inr (0, some i0)), (1, .inr (5, r1)), (2, .inr (8, r2))] [] s0 (fX10_comeUp s0 i0 r1 r2)
  unfold fX10_comeUp
  refine J_aload_n C 2 dX10_comeUp_0 rfl ?_
  refine J_bind fun i_1 e_2 => ?_
  subst e_2
  refine gf_8_1 C dX10_comeUp_1 q_197 ?_
  refine J_nmR fun r_3 => ?_
  refine J_bind fun i_4 e_5 => ?_
  subst e_5
  refine gf_8_2 C dX10_comeUp_4 q_199 ?_
  refine J_if_ne C 24 dX10_comeUp_7 rfl (fun _ => ?_) (fun _ => ?_)
  · refine J_aload_n C 1 dX10_comeUp_24 rfl ?_
    refine J_aload_n C 2 dX10_comeUp_25 rfl ?_
    refine gf_8_1 C dX10_comeUp_26 q_197 ?_
    refine J_nmR fun r_6 => ?_
    refine J_aload_n C 0 dX10_comeUp_29 rfl ?_
    refine gf_0_13 C dX10_comeUp_30 q_269 ?_
    refine J_bind fun i_7 e_8 => ?_
    subst e_8
    refine J_callVV (S := []) (avs := [.inr (8, r_6), .inl (gI s0 0 i0 13)]) C zx5 yw_18 rfl (kX4_waitToGoUp _ _ _ _) dX10_comeUp_33 rfl (Nat.le_of_ble_eq_true rfl) (by decide) fun _ s_9 => ?_
    refine J_aload_n C 1 dX10_comeUp_36 rfl ?_
    refine J_aload_n C 2 dX10_comeUp_37 rfl ?_
    refine pf_5_6 C dX10_comeUp_38 q_366 fun s_10 => ?_
    refine J_aload_n C 0 dX10_comeUp_41 rfl ?_
    refine J_aload_n C 2 dX10_comeUp_42 rfl ?_
    refine gf_8_1 C dX10_comeUp_43 q_197 ?_
    refine J_nmR fun r_11 => ?_
    refine J_callVV (S := []) (avs := [.inr (8, r_11)]) C zx0 yw_36 rfl (kX10_ringAt _ _ _) dX10_comeUp_46 rfl (Nat.le_of_ble_eq_true rfl) (by decide) fun _ s_12 => ?_
    exact J_vret C dX10_comeUp_49 (by decide) (by decide)
  · refine J_aload_n C 1 dX10_comeUp_10 rfl ?_
    refine J_iconst C dX10_comeUp_11 (zi9 rfl rfl) ?_
    refine J_bind fun i_13 e_14 => ?_
    subst e_14
    refine J_callVV (S := []) (avs := [.inl 3]) C zx5 yw_20 rfl (kX4_leaveFor _ _ _) dX10_comeUp_12 rfl (Nat.le_of_ble_eq_true rfl) (by decide) fun _ s_15 => ?_
    refine J_aload_n C 1 dX10_comeUp_15 rfl ?_
    refine J_aload_n C 0 dX10_comeUp_16 rfl ?_
    refine gf_0_13 C dX10_comeUp_17 q_269 ?_
    refine pf_5_10 C dX10_comeUp_20 q_375 fun s_16 => ?_
    exact J_vret C dX10_comeUp_23 (by decide) (by decide)
def fX10_endWire (nf : Nat) (s0 : zS) (i0 : Nat) (r1 : Option Nat) (r2 : Option Nat) : Option (Unit × zS) :=
  Option.bind r1 fun i_1 => if gI s0 5 i_1 5 = 0 then (cl_ (fX10_comeDown nf s0 i0 (some i_1) r2) fun (_ : Unit) (s_9 : zS) => some ((), s_9)) else (Option.bind r2 fun i_3 => nm_ (gR s0 8 i_3 1) fun (r_5 : Option Nat) => Option.elim r_5 (some ((), s0)) fun i_6 => cl_ (fX10_comeUp s0 i0 (some i_1) (some i_3)) fun (_ : Unit) (s_8 : zS) => some ((), s_8))
set_option maxHeartbeats 4000000 in
set_option maxRecDepth 20000 in
theorem kX10_endWire (nf : Nat) (s0 : zS) (i0 : Nat) (r1 : Option Nat) (r2 : Option Nat) : zCt zw yX10_endWire cX10_endWire 3 none 4 80 0 0 eV [.inr (0, some i0), .inr (5, r1), .inr (8, r2)] s0 (fX10_endWire nf s0 i0 r1 r2) := by
  refine zCt_on (own := RX10) (nm := "endWire") rfl rfl (by decide) (Nat.le_of_ble_eq_true rfl) fun K C => ?_
  show zJ zw 3 K _ 0 0 0 [(0, .inr (0, some i0)), (1, .inr (5, r1)), (2, .inr (8, r2))] [] s0 (fX10_endWire nf s0 i0 r1 r2)
  unfold fX10_endWire
  refine J_aload_n C 1 dX10_endWire_0 rfl ?_
  refine J_bind fun i_1 e_2 => ?_
  subst e_2
  refine gf_5_5 C dX10_endWire_1 q_364 ?_
  refine J_if_ne C 16 dX10_endWire_4 rfl (fun _ => ?_) (fun _ => ?_)
  · refine J_aload_n C 2 dX10_endWire_16 rfl ?_
    refine J_bind fun i_3 e_4 => ?_
    subst e_4
    refine gf_8_1 C dX10_endWire_17 q_197 ?_
    refine J_nmR fun r_5 => ?_
    refine J_elim (fun e_7 => ?_) (fun i_6 e_7 => ?_)
    · subst e_7
      refine J_null_n C 29 dX10_endWire_20 rfl ?_
      exact J_vret C dX10_endWire_29 (by decide) (by decide)
    · subst e_7
      refine J_null_s C dX10_endWire_20 ?_
      refine J_aload_n C 0 dX10_endWire_23 rfl ?_
      refine J_aload_n C 1 dX10_endWire_24 rfl ?_
      refine J_aload_n C 2 dX10_endWire_25 rfl ?_
      refine J_callVV (S := []) (avs := [.inr (5, some i_1), .inr (8, some i_3)]) C zx0 yw_39 rfl (kX10_comeUp _ _ _ _) dX10_endWire_26 rfl (Nat.le_of_ble_eq_true rfl) (by decide) fun _ s_8 => ?_
      exact J_vret C dX10_endWire_29 (by decide) (by decide)
  · refine J_aload_n C 0 dX10_endWire_7 rfl ?_
    refine J_aload_n C 1 dX10_endWire_8 rfl ?_
    refine J_aload_n C 2 dX10_endWire_9 rfl ?_
    refine J_callVV (S := []) (avs := [.inr (5, some i_1), .inr (8, r2)]) C zx0 yw_40 rfl (kX10_comeDown _ _ _ _ _) dX10_endWire_10 rfl (Nat.le_of_ble_eq_true rfl) (by decide) fun _ s_9 => ?_
    refine J_goto C 29 dX10_endWire_13 rfl ?_
    exact J_vret C dX10_endWire_29 (by decide) (by decide)
def fX10_moveCups_L2 (o0 : Nat) (nf : Nat) : Nat → zS → Int → Option (Unit × zS)
  | 0, _, _ => none
  | n + 1, s0, x1 =>
    if x1 < gI s0 0 o0 11 then (nm_ (gR s0 0 o0 1) fun (r_1 : Option Nat) => Option.bind r_1 fun i_2 => g_ ((0 : Int) ≤ x1 ∧ (x1 : Int) < 24) (nm_ (gR s0 12 i_2 (Int.toNat (x1))) fun (r_5 : Option Nat) => Option.bind r_5 fun i_6 => nm_ (fun (s_8 : zS) => nm_ (wr (x1 + 1)) fun (x_9 : Int) => fX10_moveCups_L2 o0 nf n s_8 x_9) fun (j75 : zS → Option (Unit × zS)) => if gI s0 5 i_6 3 = 2 then (nm_ (gR s0 5 i_6 4) fun (r_10 : Option Nat) => Option.elim r_10 (j75 s0) fun i_11 => nm_ (gR s0 5 i_6 4) fun (r_13 : Option Nat) => Option.bind r_13 fun i_14 => if gI s0 8 i_14 6 = 0 then (j75 s0) else (up_ (sI s0 5 i_6 9 (wr ((gI s0 5 i_6 9) + 1))) fun (s_16 : zS) => nm_ (gR s_16 5 i_6 4) fun (r_17 : Option Nat) => Option.bind r_17 fun i_18 => if gI s_16 5 i_6 9 < gI s_16 8 i_18 3 then (j75 s_16) else (nm_ (gR s_16 5 i_6 4) fun (r_20 : Option Nat) => cl_ (fX10_endWire nf s_16 o0 (some i_6) r_20) fun (_ : Unit) (s_21 : zS) => j75 s_21))) else (j75 s0))) else (some ((), s0))
def fX10_moveCups (nf : Nat) (s0 : zS) (i0 : Nat) : Option (Unit × zS) :=
  fX10_moveCups_L2 i0 nf nf s0 0
set_option maxHeartbeats 4000000 in
set_option maxRecDepth 20000 in
theorem kX10_moveCups_L2 {K : zKx} (C : zC zw 3 K RX10 cX10_moveCups "moveCups" none 5 102 0 0)  (nf : Nat) (o0 : Nat) : ∀ (n : Nat) (s0 : zS) (x1 : Int), zJ zw 3 K (zQm zw eV 0 0 K) 0 0 2 [(0, .inr (0, some o0)), (1, .inl x1)] [] s0 (fX10_moveCups_L2 o0 nf n s0 x1) := by
  intro n
  induction n with
  | zero => intro s0 x1; exact J_none
  | succ n ih =>
    intro s0 x1
    rw [fX10_moveCups_L2]
    refine J_iload_n C 1 dX10_moveCups_2 rfl ?_
    refine J_aload_n C 0 dX10_moveCups_3 rfl ?_
    refine gf_0_11 C dX10_moveCups_4 q_267 ?_
    refine J_ic_ge C 81 dX10_moveCups_7 rfl (fun _ => ?_) (fun _ => ?_)
    · exact J_vret C dX10_moveCups_81 (by decide) (by decide)
    · refine J_aload_n C 0 dX10_moveCups_10 rfl ?_
      refine gf_0_1 C dX10_moveCups_11 q_257 ?_
      refine J_nmR fun r_1 => ?_
      refine J_iload_n C 1 dX10_moveCups_14 rfl ?_
      refine J_bind fun i_2 e_3 => ?_
      subst e_3
      refine J_g fun h_4 => ?_
      refine J_aald (t := 12) (N := 24) (u := 5) (a := 3) C (Nat.le_of_ble_eq_true rfl) rfl rfl (fun _ => rfl) h_4 dX10_moveCups_15 ?_
      refine J_nmR fun r_5 => ?_
      refine J_astore_n (L' := [(0, .inr (0, some o0)), (1, .inl x1), (2, .inr (5, r_5))]) C dX10_moveCups_16 (Nat.le_of_ble_eq_true rfl) rfl ?_
      refine J_aload_n C 2 dX10_moveCups_17 rfl ?_
      refine J_bind fun i_6 e_7 => ?_
      subst e_7
      refine gf_5_3 C dX10_moveCups_18 q_360 ?_
      refine J_iconst C dX10_moveCups_21 (zi9 rfl rfl) ?_
      refine J_join (fun j75 => ∀ (s_8 : zS), zJ zw 3 K (zQm zw eV 0 0 K) 0 0 75 [(0, .inr (0, some o0)), (1, .inl x1)] [] s_8 (j75 s_8)) ?_ fun j75 hj75 => ?_
      · intro s_8
        refine J_iinc C 1 dX10_moveCups_75 (zi9 rfl rfl) (Nat.le_of_ble_eq_true rfl) rfl fun x_9 => ?_
        refine J_goto C 2 dX10_moveCups_78 rfl ?_
        exact ih _ _
      · refine J_ic_ne C 75 dX10_moveCups_22 rfl (fun _ => ?_) (fun _ => ?_)
        · refine J_loc (L' := [(0, .inr (0, some o0)), (1, .inl x1)]) [0, 1] rfl ?_
          exact hj75 _
        · refine J_aload_n C 2 dX10_moveCups_25 rfl ?_
          refine gf_5_4 C dX10_moveCups_26 q_362 ?_
          refine J_nmR fun r_10 => ?_
          refine J_elim (fun e_12 => ?_) (fun i_11 e_12 => ?_)
          · subst e_12
            refine J_null_n C 75 dX10_moveCups_29 rfl ?_
            refine J_loc (L' := [(0, .inr (0, some o0)), (1, .inl x1)]) [0, 1] rfl ?_
            exact hj75 _
          · subst e_12
            refine J_null_s C dX10_moveCups_29 ?_
            refine J_aload_n C 2 dX10_moveCups_32 rfl ?_
            refine gf_5_4 C dX10_moveCups_33 q_362 ?_
            refine J_nmR fun r_13 => ?_
            refine J_bind fun i_14 e_15 => ?_
            subst e_15
            refine gf_8_6 C dX10_moveCups_36 q_206 ?_
            refine J_if_eq C 75 dX10_moveCups_39 rfl (fun _ => ?_) (fun _ => ?_)
            · refine J_loc (L' := [(0, .inr (0, some o0)), (1, .inl x1)]) [0, 1] rfl ?_
              exact hj75 _
            · refine J_aload_n C 2 dX10_moveCups_42 rfl ?_
              refine J_dup C dX10_moveCups_43 ?_
              refine gf_5_9 C dX10_moveCups_44 q_372 ?_
              refine J_iconst C dX10_moveCups_47 (zi9 rfl rfl) ?_
              refine J_iadd C dX10_moveCups_48 ?_
              refine pf_5_9 C dX10_moveCups_49 q_372 fun s_16 => ?_
              refine J_aload_n C 2 dX10_moveCups_52 rfl ?_
              refine gf_5_9 C dX10_moveCups_53 q_372 ?_
              refine J_aload_n C 2 dX10_moveCups_56 rfl ?_
              refine gf_5_4 C dX10_moveCups_57 q_362 ?_
              refine J_nmR fun r_17 => ?_
              refine J_bind fun i_18 e_19 => ?_
              subst e_19
              refine gf_8_3 C dX10_moveCups_60 q_200 ?_
              refine J_ic_lt C 75 dX10_moveCups_63 rfl (fun _ => ?_) (fun _ => ?_)
              · refine J_loc (L' := [(0, .inr (0, some o0)), (1, .inl x1)]) [0, 1] rfl ?_
                exact hj75 _
              · refine J_aload_n C 0 dX10_moveCups_66 rfl ?_
                refine J_aload_n C 2 dX10_moveCups_67 rfl ?_
                refine J_aload_n C 2 dX10_moveCups_68 rfl ?_
                refine gf_5_4 C dX10_moveCups_69 q_362 ?_
                refine J_nmR fun r_20 => ?_
                refine J_callVV (S := []) (avs := [.inr (5, some i_6), .inr (8, r_20)]) C zx0 yw_41 rfl (kX10_endWire _ _ _ _ _) dX10_moveCups_72 rfl (Nat.le_of_ble_eq_true rfl) (by decide) fun _ s_21 => ?_
                refine J_loc (L' := [(0, .inr (0, some o0)), (1, .inl x1)]) [0, 1] rfl ?_
                exact hj75 _
set_option maxHeartbeats 4000000 in
set_option maxRecDepth 20000 in
theorem kX10_moveCups (nf : Nat) (s0 : zS) (i0 : Nat) : zCt zw yX10_moveCups cX10_moveCups 3 none 5 102 0 0 eV [.inr (0, some i0)] s0 (fX10_moveCups nf s0 i0) := by
  refine zCt_on (own := RX10) (nm := "moveCups") rfl rfl (by decide) (Nat.le_of_ble_eq_true rfl) fun K C => ?_
  show zJ zw 3 K _ 0 0 0 [(0, .inr (0, some i0))] [] s0 (fX10_moveCups nf s0 i0)
  unfold fX10_moveCups
  refine J_iconst C dX10_moveCups_0 (zi9 rfl rfl) ?_
  refine J_istore_n (L' := [(0, .inr (0, some i0)), (1, .inl 0)]) C dX10_moveCups_1 (Nat.le_of_ble_eq_true rfl) rfl ?_
  exact kX10_moveCups_L2 C _ _ _ _ _
def fX10_porterCups_L2 (o0 : Nat) (nf : Nat) : Nat → zS → Int → Option (Unit × zS)
  | 0, _, _ => none
  | n + 1, s0, x1 =>
    if x1 < gI s0 0 o0 11 then (nm_ (gR s0 0 o0 1) fun (r_1 : Option Nat) => Option.bind r_1 fun i_2 => g_ ((0 : Int) ≤ x1 ∧ (x1 : Int) < 24) (nm_ (gR s0 12 i_2 (Int.toNat (x1))) fun (r_5 : Option Nat) => Option.bind r_5 fun i_6 => nm_ (fun (s_8 : zS) => nm_ (wr (x1 + 1)) fun (x_9 : Int) => fX10_porterCups_L2 o0 nf n s_8 x_9) fun (j42 : zS → Option (Unit × zS)) => if gI s0 5 i_6 3 = 6 then (if gI s0 5 i_6 11 = gI s0 0 o0 13 then (cl_ (fX10_comeHome nf s0 o0 (some i_6)) fun (_ : Unit) (s_10 : zS) => j42 s_10) else (j42 s0)) else (j42 s0))) else (some ((), s0))
def fX10_porterCups (nf : Nat) (s0 : zS) (i0 : Nat) : Option (Unit × zS) :=
  fX10_porterCups_L2 i0 nf nf s0 0
set_option maxHeartbeats 4000000 in
set_option maxRecDepth 20000 in
theorem kX10_porterCups_L2 {K : zKx} (C : zC zw 3 K RX10 cX10_porterCups "porterCups" none 3 58 0 0)  (nf : Nat) (o0 : Nat) : ∀ (n : Nat) (s0 : zS) (x1 : Int), zJ zw 3 K (zQm zw eV 0 0 K) 0 0 2 [(0, .inr (0, some o0)), (1, .inl x1)] [] s0 (fX10_porterCups_L2 o0 nf n s0 x1) := by
  intro n
  induction n with
  | zero => intro s0 x1; exact J_none
  | succ n ih =>
    intro s0 x1
    rw [fX10_porterCups_L2]
    refine J_iload_n C 1 dX10_porterCups_2 rfl ?_
    refine J_aload_n C 0 dX10_porterCups_3 rfl ?_
    refine gf_0_11 C dX10_porterCups_4 q_267 ?_
    refine J_ic_ge C 48 dX10_porterCups_7 rfl (fun _ => ?_) (fun _ => ?_)
    · exact J_vret C dX10_porterCups_48 (by decide) (by decide)
    · refine J_aload_n C 0 dX10_porterCups_10 rfl ?_
      refine gf_0_1 C dX10_porterCups_11 q_257 ?_
      refine J_nmR fun r_1 => ?_
      refine J_iload_n C 1 dX10_porterCups_14 rfl ?_
      refine J_bind fun i_2 e_3 => ?_
      subst e_3
      refine J_g fun h_4 => ?_
      refine J_aald (t := 12) (N := 24) (u := 5) (a := 3) C (Nat.le_of_ble_eq_true rfl) rfl rfl (fun _ => rfl) h_4 dX10_porterCups_15 ?_
      refine J_nmR fun r_5 => ?_
      refine J_astore_n (L' := [(0, .inr (0, some o0)), (1, .inl x1), (2, .inr (5, r_5))]) C dX10_porterCups_16 (Nat.le_of_ble_eq_true rfl) rfl ?_
      refine J_aload_n C 2 dX10_porterCups_17 rfl ?_
      refine J_bind fun i_6 e_7 => ?_
      subst e_7
      refine gf_5_3 C dX10_porterCups_18 q_360 ?_
      refine J_bipush C dX10_porterCups_21 (zi9 rfl rfl) (by decide) ?_
      refine J_join (fun j42 => ∀ (s_8 : zS), zJ zw 3 K (zQm zw eV 0 0 K) 0 0 42 [(0, .inr (0, some o0)), (1, .inl x1)] [] s_8 (j42 s_8)) ?_ fun j42 hj42 => ?_
      · intro s_8
        refine J_iinc C 1 dX10_porterCups_42 (zi9 rfl rfl) (Nat.le_of_ble_eq_true rfl) rfl fun x_9 => ?_
        refine J_goto C 2 dX10_porterCups_45 rfl ?_
        exact ih _ _
      · refine J_ic_ne C 42 dX10_porterCups_23 rfl (fun _ => ?_) (fun _ => ?_)
        · refine J_loc (L' := [(0, .inr (0, some o0)), (1, .inl x1)]) [0, 1] rfl ?_
          exact hj42 _
        · refine J_aload_n C 2 dX10_porterCups_26 rfl ?_
          refine gf_5_11 C dX10_porterCups_27 q_377 ?_
          refine J_aload_n C 0 dX10_porterCups_30 rfl ?_
          refine gf_0_13 C dX10_porterCups_31 q_269 ?_
          refine J_ic_ne C 42 dX10_porterCups_34 rfl (fun _ => ?_) (fun _ => ?_)
          · refine J_loc (L' := [(0, .inr (0, some o0)), (1, .inl x1)]) [0, 1] rfl ?_
            exact hj42 _
          · refine J_aload_n C 0 dX10_porterCups_37 rfl ?_
            refine J_aload_n C 2 dX10_porterCups_38 rfl ?_
            refine J_callVV (S := []) (avs := [.inr (5, some i_6)]) C zx0 yw_35 rfl (kX10_comeHome _ _ _ _) dX10_porterCups_39 rfl (Nat.le_of_ble_eq_true rfl) (by decide) fun _ s_10 => ?_
            refine J_loc (L' := [(0, .inr (0, some o0)), (1, .inl x1)]) [0, 1] rfl ?_
            exact hj42 _
set_option maxHeartbeats 4000000 in
set_option maxRecDepth 20000 in
theorem kX10_porterCups (nf : Nat) (s0 : zS) (i0 : Nat) : zCt zw yX10_porterCups cX10_porterCups 3 none 3 58 0 0 eV [.inr (0, some i0)] s0 (fX10_porterCups nf s0 i0) := by
  refine zCt_on (own := RX10) (nm := "porterCups") rfl rfl (by decide) (Nat.le_of_ble_eq_true rfl) fun K C => ?_
  show zJ zw 3 K _ 0 0 0 [(0, .inr (0, some i0))] [] s0 (fX10_porterCups nf s0 i0)
  unfold fX10_porterCups
  refine J_iconst C dX10_porterCups_0 (zi9 rfl rfl) ?_
  refine J_istore_n (L' := [(0, .inr (0, some i0)), (1, .inl 0)]) C dX10_porterCups_1 (Nat.le_of_ble_eq_true rfl) rfl ?_
  exact kX10_porterCups_L2 C _ _ _ _ _
def fX3_put_L2 (o0 : Nat) (q1 : Option Nat) : Nat → zS → Int → Option (Unit × zS)
  | 0, _, _ => none
  | n + 1, s0, x2 =>
    if x2 < 6 then (nm_ (gR s0 4 o0 0) fun (r_1 : Option Nat) => Option.bind r_1 fun i_2 => g_ ((0 : Int) ≤ x2 ∧ (x2 : Int) < 6) (Option.bind q1 fun i_5 => g_ ((0 : Int) ≤ x2 ∧ (x2 : Int) < 6) (g_ ((0 : Int) ≤ x2 ∧ (x2 : Int) < 6) (up_ (sI s0 15 i_2 (Int.toNat (x2)) (wr ((gI s0 15 i_2 (Int.toNat (x2))) + (gI s0 15 i_5 (Int.toNat (x2)))))) fun (s_9 : zS) => nm_ (wr (x2 + 1)) fun (x_10 : Int) => fX3_put_L2 o0 q1 n s_9 x_10)))) else (some ((), s0))
def fX3_put (nf : Nat) (s0 : zS) (i0 : Nat) (r1 : Option Nat) : Option (Unit × zS) :=
  fX3_put_L2 i0 r1 nf s0 0
set_option maxHeartbeats 4000000 in
set_option maxRecDepth 20000 in
theorem kX3_put_L2 {K : zKx} (C : zC zw 3 K RX3 cX3_put "put" none 0 0 0 0)  (o0 : Nat) (q1 : Option Nat) : ∀ (n : Nat) (s0 : zS) (x2 : Int), zJ zw 3 K (zQm zw eV 0 0 K) 0 0 2 [(0, .inr (4, some o0)), (1, .inr (15, q1)), (2, .inl x2)] [] s0 (fX3_put_L2 o0 q1 n s0 x2) := by
  intro n
  induction n with
  | zero => intro s0 x2; exact J_none
  | succ n ih =>
    intro s0 x2
    rw [fX3_put_L2]
    refine J_iload_n C 2 dX3_put_2 rfl ?_
    refine J_bipush C dX3_put_3 (zi9 rfl rfl) (by decide) ?_
    refine J_ic_ge C 26 dX3_put_5 rfl (fun _ => ?_) (fun _ => ?_)
    · exact J_vret C dX3_put_26 (by decide) (by decide)
    · refine J_aload_n C 0 dX3_put_8 rfl ?_
      refine gf_4_0 C dX3_put_9 q_36 ?_
      refine J_nmR fun r_1 => ?_
      refine J_iload_n C 2 dX3_put_12 rfl ?_
      refine J_dup2 C dX3_put_13 ?_
      refine J_bind fun i_2 e_3 => ?_
      subst e_3
      refine J_g fun h_4 => ?_
      refine J_iald (t := 15) (N := 6) C (Nat.le_of_ble_eq_true rfl) rfl rfl h_4 dX3_put_14 ?_
      refine J_aload_n C 1 dX3_put_15 rfl ?_
      refine J_iload_n C 2 dX3_put_16 rfl ?_
      refine J_bind fun i_5 e_6 => ?_
      subst e_6
      refine J_g fun h_7 => ?_
      refine J_iald (t := 15) (N := 6) C (Nat.le_of_ble_eq_true rfl) rfl rfl h_7 dX3_put_17 ?_
      refine J_iadd C dX3_put_18 ?_
      refine J_g fun h_8 => ?_
      refine J_iast (t := 15) (N := 6) C (Nat.le_of_ble_eq_true rfl) rfl rfl h_8 dX3_put_19 fun s_9 => ?_
      refine J_iinc C 2 dX3_put_20 (zi9 rfl rfl) (Nat.le_of_ble_eq_true rfl) rfl fun x_10 => ?_
      refine J_goto C 2 dX3_put_23 rfl ?_
      exact ih _ _
set_option maxHeartbeats 4000000 in
set_option maxRecDepth 20000 in
theorem kX3_put (nf : Nat) (s0 : zS) (i0 : Nat) (r1 : Option Nat) : zCt zw yX3_put cX3_put 3 none 0 0 0 0 eV [.inr (4, some i0), .inr (15, r1)] s0 (fX3_put nf s0 i0 r1) := by
  refine zCt_on (own := RX3) (nm := "put") rfl rfl (by decide) (Nat.le_of_ble_eq_true rfl) fun K C => ?_
  show zJ zw 3 K _ 0 0 0 [(0, .inr (4, some i0)), (1, .inr (15, r1))] [] s0 (fX3_put nf s0 i0 r1)
  unfold fX3_put
  refine J_iconst C dX3_put_0 (zi9 rfl rfl) ?_
  refine J_istore_n (L' := [(0, .inr (4, some i0)), (1, .inr (15, r1)), (2, .inl 0)]) C dX3_put_1 (Nat.le_of_ble_eq_true rfl) rfl ?_
  exact kX3_put_L2 C _ _ _ _ _
def fX1_fill_L26 (o0 : Nat) (q1 : Option Nat) : Nat → zS → Int → Int → Int → Option (Int × zS)
  | 0, _, _, _, _ => none
  | n + 1, s0, x5, x6, x7 =>
    if x7 < 0 then (if x6 = 0 then (some (x5, s0)) else (some ((-9), s0))) else (nm_ (gR s0 2 o0 1) fun (r_12 : Option Nat) => Option.bind q1 fun i_13 => g_ ((0 : Int) ≤ x7 ∧ (x7 : Int) < 6) (g_ ((0 : Int) ≤ x7 ∧ (x7 : Int) < 6) (g_ (zWt (Int.toNat (x7)) ≠ 0) (Option.bind r_12 fun i_17 => g_ ((0 : Int) ≤ x7 ∧ (x7 : Int) < 6) (up_ (sI s0 15 i_17 (Int.toNat (x7)) (imin (gI s0 15 i_13 (Int.toNat (x7))) (wr (Int.tdiv x6 (zWt (Int.toNat (x7))))))) fun (s_20 : zS) => nm_ (gR s_20 2 o0 1) fun (r_21 : Option Nat) => Option.bind r_21 fun i_22 => g_ ((0 : Int) ≤ x7 ∧ (x7 : Int) < 6) (g_ ((0 : Int) ≤ x7 ∧ (x7 : Int) < 6) (nm_ (wr (x6 - (wr ((gI s_20 15 i_22 (Int.toNat (x7))) * (zWt (Int.toNat (x7))))))) fun (x_26 : Int) => nm_ (gR s_20 2 o0 1) fun (r_27 : Option Nat) => Option.bind r_27 fun i_28 => g_ ((0 : Int) ≤ x7 ∧ (x7 : Int) < 6) (nm_ (wr (x5 + (gI s_20 15 i_28 (Int.toNat (x7))))) fun (x_31 : Int) => nm_ (wr (x7 + (-1))) fun (x_32 : Int) => fX1_fill_L26 o0 q1 n s_20 x_31 x_26 x_32))))))))
def fX1_fill (nf : Nat) (s0 : zS) (i0 : Nat) (r1 : Option Nat) (x2 : Int) (x3 : Int) (x4 : Int) : Option (Int × zS) :=
  nm_ (gR s0 2 i0 1) fun (r_1 : Option Nat) => Option.bind r_1 fun i_2 => g_ ((0 : Int) ≤ 5 ∧ (5 : Int) < 6) (up_ (sI s0 15 i_2 (Int.toNat (5)) x2) fun (s_5 : zS) => nm_ (gR s_5 2 i0 1) fun (r_6 : Option Nat) => Option.bind r_6 fun i_7 => g_ ((0 : Int) ≤ 4 ∧ (4 : Int) < 6) (up_ (sI s_5 15 i_7 (Int.toNat (4)) x3) fun (s_10 : zS) => nm_ (wr (x2 + x3)) fun (x_11 : Int) => fX1_fill_L26 i0 r1 nf s_10 x_11 x4 3))
set_option maxHeartbeats 4000000 in
set_option maxRecDepth 20000 in
theorem kX1_fill_L26 {K : zKx} (C : zC zw 8 K RX1 cX1_fill "fill" (some .int) 1 15 0 0)  (o0 : Nat) (q1 : Option Nat) : ∀ (n : Nat) (s0 : zS) (x5 : Int) (x6 : Int) (x7 : Int), zJ zw 8 K (zQm zw eI 0 0 K) 0 0 26 [(0, .inr (2, some o0)), (1, .inr (15, q1)), (5, .inl x5), (6, .inl x6), (7, .inl x7)] [] s0 (fX1_fill_L26 o0 q1 n s0 x5 x6 x7) := by
  intro n
  induction n with
  | zero => intro s0 x5 x6 x7; exact J_none
  | succ n ih =>
    intro s0 x5 x6 x7
    rw [fX1_fill_L26]
    refine J_iload C 4 dX1_fill_26 rfl ?_
    refine J_if_lt C 91 dX1_fill_28 rfl (fun _ => ?_) (fun _ => ?_)
    · refine J_iload C 3 dX1_fill_91 rfl ?_
      refine J_if_ne C 101 dX1_fill_93 rfl (fun _ => ?_) (fun _ => ?_)
      · refine J_bipush C dX1_fill_101 (zi9 rfl rfl) (by decide) ?_
        exact J_iret C dX1_fill_103 (by decide) (by decide)
      · refine J_iload C 2 dX1_fill_96 rfl ?_
        refine J_goto C 103 dX1_fill_98 rfl ?_
        exact J_iret C dX1_fill_103 (by decide) (by decide)
    · refine J_aload_n C 0 dX1_fill_31 rfl ?_
      refine gf_2_1 C dX1_fill_32 q_51 ?_
      refine J_nmR fun r_12 => ?_
      refine J_iload C 4 dX1_fill_35 rfl ?_
      refine J_aload_n C 1 dX1_fill_37 rfl ?_
      refine J_iload C 4 dX1_fill_38 rfl ?_
      refine J_bind fun i_13 e_14 => ?_
      subst e_14
      refine J_g fun h_15 => ?_
      refine J_iald (t := 15) (N := 6) C (Nat.le_of_ble_eq_true rfl) rfl rfl h_15 dX1_fill_40 ?_
      refine J_iload C 3 dX1_fill_41 rfl ?_
      refine J_getsN C dX1_fill_43 qn_606 ?_
      refine J_iload C 4 dX1_fill_46 rfl ?_
      refine J_g fun h_16 => ?_
      refine J_wald C h_16 dX1_fill_48 ?_
      refine J_g fun h_33 => ?_
      refine J_idiv C dX1_fill_49 h_33 ?_
      refine J_mmin (S := [.inl x7, .inr (15, r_12)]) C dX1_fill_50 q_607 q_608 q_13 q_609 (by decide) (Nat.le_of_ble_eq_true rfl) (by decide) (by decide) ?_
      refine J_bind fun i_17 e_18 => ?_
      subst e_18
      refine J_g fun h_19 => ?_
      refine J_iast (t := 15) (N := 6) C (Nat.le_of_ble_eq_true rfl) rfl rfl h_19 dX1_fill_53 fun s_20 => ?_
      refine J_iload C 3 dX1_fill_54 rfl ?_
      refine J_aload_n C 0 dX1_fill_56 rfl ?_
      refine gf_2_1 C dX1_fill_57 q_51 ?_
      refine J_nmR fun r_21 => ?_
      refine J_iload C 4 dX1_fill_60 rfl ?_
      refine J_bind fun i_22 e_23 => ?_
      subst e_23
      refine J_g fun h_24 => ?_
      refine J_iald (t := 15) (N := 6) C (Nat.le_of_ble_eq_true rfl) rfl rfl h_24 dX1_fill_62 ?_
      refine J_getsN C dX1_fill_63 qn_606 ?_
      refine J_iload C 4 dX1_fill_66 rfl ?_
      refine J_g fun h_25 => ?_
      refine J_wald C h_25 dX1_fill_68 ?_
      refine J_imul C dX1_fill_69 ?_
      refine J_isub C dX1_fill_70 ?_
      refine J_nm fun x_26 => ?_
      refine J_istore (L' := [(0, .inr (2, some o0)), (1, .inr (15, some i_13)), (5, .inl x5), (6, .inl x_26), (7, .inl x7)]) C dX1_fill_71 (Nat.le_of_ble_eq_true rfl) rfl ?_
      refine J_iload C 2 dX1_fill_73 rfl ?_
      refine J_aload_n C 0 dX1_fill_75 rfl ?_
      refine gf_2_1 C dX1_fill_76 q_51 ?_
      refine J_nmR fun r_27 => ?_
      refine J_iload C 4 dX1_fill_79 rfl ?_
      refine J_bind fun i_28 e_29 => ?_
      subst e_29
      refine J_g fun h_30 => ?_
      refine J_iald (t := 15) (N := 6) C (Nat.le_of_ble_eq_true rfl) rfl rfl h_30 dX1_fill_81 ?_
      refine J_iadd C dX1_fill_82 ?_
      refine J_nm fun x_31 => ?_
      refine J_istore (L' := [(0, .inr (2, some o0)), (1, .inr (15, some i_13)), (5, .inl x_31), (6, .inl x_26), (7, .inl x7)]) C dX1_fill_83 (Nat.le_of_ble_eq_true rfl) rfl ?_
      refine J_iinc C 4 dX1_fill_85 (zi9 rfl rfl) (Nat.le_of_ble_eq_true rfl) rfl fun x_32 => ?_
      refine J_goto C 26 dX1_fill_88 rfl ?_
      exact ih _ _ _ _
set_option maxHeartbeats 4000000 in
set_option maxRecDepth 20000 in
theorem kX1_fill (nf : Nat) (s0 : zS) (i0 : Nat) (r1 : Option Nat) (x2 : Int) (x3 : Int) (x4 : Int) : zCt zw yX1_fill cX1_fill 8 (some .int) 1 15 0 0 eI [.inr (2, some i0), .inr (15, r1), .inl x2, .inl x3, .inl x4] s0 (fX1_fill nf s0 i0 r1 x2 x3 x4) := by
  refine zCt_on (own := RX1) (nm := "fill") rfl rfl (by decide) (Nat.le_of_ble_eq_true rfl) fun K C => ?_
  show zJ zw 8 K _ 0 0 0 [(0, .inr (2, some i0)), (1, .inr (15, r1)), (2, .inl x2), (3, .inl x3), (4, .inl x4)] [] s0 (fX1_fill nf s0 i0 r1 x2 x3 x4)
  unfold fX1_fill
  refine J_aload_n C 0 dX1_fill_0 rfl ?_
  refine gf_2_1 C dX1_fill_1 q_51 ?_
  refine J_nmR fun r_1 => ?_
  refine J_iconst C dX1_fill_4 (zi9 rfl rfl) ?_
  refine J_iload_n C 2 dX1_fill_5 rfl ?_
  refine J_bind fun i_2 e_3 => ?_
  subst e_3
  refine J_g fun h_4 => ?_
  refine J_iast (t := 15) (N := 6) C (Nat.le_of_ble_eq_true rfl) rfl rfl h_4 dX1_fill_6 fun s_5 => ?_
  refine J_aload_n C 0 dX1_fill_7 rfl ?_
  refine gf_2_1 C dX1_fill_8 q_51 ?_
  refine J_nmR fun r_6 => ?_
  refine J_iconst C dX1_fill_11 (zi9 rfl rfl) ?_
  refine J_iload_n C 3 dX1_fill_12 rfl ?_
  refine J_bind fun i_7 e_8 => ?_
  subst e_8
  refine J_g fun h_9 => ?_
  refine J_iast (t := 15) (N := 6) C (Nat.le_of_ble_eq_true rfl) rfl rfl h_9 dX1_fill_13 fun s_10 => ?_
  refine J_iload_n C 2 dX1_fill_14 rfl ?_
  refine J_iload_n C 3 dX1_fill_15 rfl ?_
  refine J_iadd C dX1_fill_16 ?_
  refine J_nm fun x_11 => ?_
  refine J_istore (L' := [(0, .inr (2, some i0)), (1, .inr (15, r1)), (2, .inl x2), (3, .inl x3), (4, .inl x4), (5, .inl x_11)]) C dX1_fill_17 (Nat.le_of_ble_eq_true rfl) rfl ?_
  refine J_iload C 4 dX1_fill_19 rfl ?_
  refine J_istore (L' := [(0, .inr (2, some i0)), (1, .inr (15, r1)), (2, .inl x2), (3, .inl x3), (4, .inl x4), (5, .inl x_11), (6, .inl x4)]) C dX1_fill_21 (Nat.le_of_ble_eq_true rfl) rfl ?_
  refine J_iconst C dX1_fill_23 (zi9 rfl rfl) ?_
  refine J_istore (L' := [(0, .inr (2, some i0)), (1, .inr (15, r1)), (2, .inl x2), (3, .inl x3), (4, .inl x4), (5, .inl x_11), (6, .inl x4), (7, .inl 3)]) C dX1_fill_24 (Nat.le_of_ble_eq_true rfl) rfl ?_
  refine J_loc (L' := [(0, .inr (2, some i0)), (1, .inr (15, r1)), (5, .inl x_11), (6, .inl x4), (7, .inl 3)]) [0, 1, 5, 6, 7] rfl ?_
  exact kX1_fill_L26 C _ _ _ _ _ _ _
def fX1_find_L68 (k147 : zS → Int → Option (Int × zS)) (o0 : Nat) (o1 : Nat) (c2 : Int) (c4 : Int) (c5 : Int) (c6 : Int) (c7 : Int) (nf : Nat) : Nat → zS → Int → Int → Option (Int × zS)
  | 0, _, _, _ => none
  | n + 1, s0, x3, x8 =>
    if x8 < 0 then (k147 s0 x3) else (if x8 < wr (c7 - 1) then (k147 s0 x3) else (g_ ((0 : Int) ≤ 4 ∧ (4 : Int) < 6) (cl_ (fX1_fill nf s0 o0 (some o1) c5 x8 (wr (c6 - (wr (x8 * (zWt (Int.toNat (4)))))))) fun (x_13 : Int) (s_12 : zS) => nm_ (fun (s_14 : zS) (y_15 : Int) => nm_ (wr (x8 + (-1))) fun (x_16 : Int) => fX1_find_L68 k147 o0 o1 c2 c4 c5 c6 c7 nf n s_14 y_15 x_16) fun (j141 : zS → Int → Option (Int × zS)) => if x_13 = (-9) then (j141 s_12 x3) else (nm_ (fun (s_17 : zS) => nm_ (gR s_17 2 o0 1) fun (r_18 : Option Nat) => nm_ (gR s_17 2 o0 0) fun (r_19 : Option Nat) => Option.bind r_18 fun i_20 => Option.bind r_19 fun i_22 => g_ ((0 : Int) ≤ 0 ∧ (0 : Int) ≤ 0 ∧ (0 : Int) ≤ 6 ∧ (0 : Int) + 6 ≤ 6 ∧ (0 : Int) + 6 ≤ 6) (up_ (sCp s_17 15 i_20 (Int.toNat (0)) 15 i_22 (Int.toNat (0)) (Int.toNat (6))) fun (s_24 : zS) => j141 s_24 x_13)) fun (j123 : zS → Option (Int × zS)) => if x3 = (-9) then (j123 s_12) else (if x_13 < x3 then (j123 s_12) else (j141 s_12 x3))))))
def fX1_find_L22 (o0 : Nat) (o1 : Nat) (c2 : Int) (c4 : Int) (nf : Nat) : Nat → zS → Int → Int → Option (Int × zS)
  | 0, _, _, _ => none
  | n + 1, s0, x3, x5 =>
    if x5 < 0 then (some (x3, s0)) else (if x5 < wr (c4 - 1) then (some (x3, s0)) else (g_ ((0 : Int) ≤ 5 ∧ (5 : Int) < 6) (nm_ (wr (c2 - (wr (x5 * (zWt (Int.toNat (5))))))) fun (x_7 : Int) => g_ ((0 : Int) ≤ 4 ∧ (4 : Int) < 6) (g_ ((0 : Int) ≤ 4 ∧ (4 : Int) < 6) (g_ (zWt (Int.toNat (4)) ≠ 0) (nm_ (imin (gI s0 15 o1 (Int.toNat (4))) (wr (Int.tdiv x_7 (zWt (Int.toNat (4)))))) fun (x_10 : Int) => fX1_find_L68 (fun (s_12 : zS) (y_11 : Int) => nm_ (wr (x5 + (-1))) fun (x_13 : Int) => fX1_find_L22 o0 o1 c2 c4 nf n s_12 y_11 x_13) o0 o1 c2 c4 x5 x_7 x_10 nf nf s0 x3 x_10))))))
def fX1_find (nf : Nat) (s0 : zS) (i0 : Nat) (r1 : Option Nat) (x2 : Int) : Option (Int × zS) :=
  Option.bind r1 fun i_1 => g_ ((0 : Int) ≤ 5 ∧ (5 : Int) < 6) (g_ ((0 : Int) ≤ 5 ∧ (5 : Int) < 6) (g_ (zWt (Int.toNat (5)) ≠ 0) (nm_ (imin (gI s0 15 i_1 (Int.toNat (5))) (wr (Int.tdiv x2 (zWt (Int.toNat (5)))))) fun (x_5 : Int) => fX1_find_L22 i0 i_1 x2 x_5 nf nf s0 (-9) x_5)))
set_option maxHeartbeats 4000000 in
set_option maxRecDepth 20000 in
theorem kX1_find_L68 {K : zKx} (C : zC zw 10 K RX1 cX1_find "find" (some .int) 2 42 0 0)  (nf : Nat) (o0 : Nat) (o1 : Nat) (c2 : Int) (c4 : Int) (c5 : Int) (c6 : Int) (c7 : Int) (k147 : zS → Int → Option (Int × zS)) (hk147 : ∀ (s1 : zS) (z3 : Int), zJ zw 10 K (zQm zw eI 0 0 K) 0 0 147 [(0, .inr (2, some o0)), (1, .inr (15, some o1)), (2, .inl c2), (3, .inl z3), (4, .inl c4), (5, .inl c5)] [] s1 (k147 s1 z3)) : ∀ (n : Nat) (s0 : zS) (x3 : Int) (x8 : Int), zJ zw 10 K (zQm zw eI 0 0 K) 0 0 68 [(0, .inr (2, some o0)), (1, .inr (15, some o1)), (2, .inl c2), (3, .inl x3), (4, .inl c4), (5, .inl c5), (6, .inl c6), (7, .inl c7), (8, .inl x8)] [] s0 (fX1_find_L68 k147 o0 o1 c2 c4 c5 c6 c7 nf n s0 x3 x8) := by
  intro n
  induction n with
  | zero => intro s0 x3 x8; exact J_none
  | succ n ih =>
    intro s0 x3 x8
    rw [fX1_find_L68]
    refine J_iload C 8 dX1_find_68 rfl ?_
    refine J_if_lt C 147 dX1_find_70 rfl (fun _ => ?_) (fun _ => ?_)
    · refine J_loc (L' := [(0, .inr (2, some o0)), (1, .inr (15, some o1)), (2, .inl c2), (3, .inl x3), (4, .inl c4), (5, .inl c5)]) [0, 1, 2, 3, 4, 5] rfl ?_
      exact hk147 _ _
    · refine J_iload C 8 dX1_find_73 rfl ?_
      refine J_iload C 7 dX1_find_75 rfl ?_
      refine J_iconst C dX1_find_77 (zi9 rfl rfl) ?_
      refine J_isub C dX1_find_78 ?_
      refine J_ic_lt C 147 dX1_find_79 rfl (fun _ => ?_) (fun _ => ?_)
      · refine J_loc (L' := [(0, .inr (2, some o0)), (1, .inr (15, some o1)), (2, .inl c2), (3, .inl x3), (4, .inl c4), (5, .inl c5)]) [0, 1, 2, 3, 4, 5] rfl ?_
        exact hk147 _ _
      · refine J_aload_n C 0 dX1_find_82 rfl ?_
        refine J_aload_n C 1 dX1_find_83 rfl ?_
        refine J_iload C 5 dX1_find_84 rfl ?_
        refine J_iload C 8 dX1_find_86 rfl ?_
        refine J_iload C 6 dX1_find_88 rfl ?_
        refine J_iload C 8 dX1_find_90 rfl ?_
        refine J_getsN C dX1_find_92 qn_606 ?_
        refine J_iconst C dX1_find_95 (zi9 rfl rfl) ?_
        refine J_g fun h_11 => ?_
        refine J_wald C h_11 dX1_find_96 ?_
        refine J_imul C dX1_find_97 ?_
        refine J_isub C dX1_find_98 ?_
        refine J_callVI (S := []) (avs := [.inr (15, some o1), .inl c5, .inl x8, .inl (wr (c6 - (wr (x8 * (zWt (Int.toNat (4)))))))]) C zx2 yw_42 rfl (kX1_fill _ _ _ _ _ _ _) dX1_find_99 rfl (Nat.le_of_ble_eq_true rfl) (by decide) fun x_13 s_12 => ?_
        refine J_istore (L' := [(0, .inr (2, some o0)), (1, .inr (15, some o1)), (2, .inl c2), (3, .inl x3), (4, .inl c4), (5, .inl c5), (6, .inl c6), (7, .inl c7), (8, .inl x8), (9, .inl x_13)]) C dX1_find_102 (Nat.le_of_ble_eq_true rfl) rfl ?_
        refine J_iload C 9 dX1_find_104 rfl ?_
        refine J_bipush C dX1_find_106 (zi9 rfl rfl) (by decide) ?_
        refine J_join (fun j141 => ∀ (s_14 : zS) (y_15 : Int), zJ zw 10 K (zQm zw eI 0 0 K) 0 0 141 [(0, .inr (2, some o0)), (1, .inr (15, some o1)), (2, .inl c2), (3, .inl y_15), (4, .inl c4), (5, .inl c5), (6, .inl c6), (7, .inl c7), (8, .inl x8)] [] s_14 (j141 s_14 y_15)) ?_ fun j141 hj141 => ?_
        · intro s_14 y_15
          refine J_iinc C 8 dX1_find_141 (zi9 rfl rfl) (Nat.le_of_ble_eq_true rfl) rfl fun x_16 => ?_
          refine J_goto C 68 dX1_find_144 rfl ?_
          exact ih _ _ _
        · refine J_ic_eq C 141 dX1_find_108 rfl (fun _ => ?_) (fun _ => ?_)
          · refine J_loc (L' := [(0, .inr (2, some o0)), (1, .inr (15, some o1)), (2, .inl c2), (3, .inl x3), (4, .inl c4), (5, .inl c5), (6, .inl c6), (7, .inl c7), (8, .inl x8)]) [0, 1, 2, 3, 4, 5, 6, 7, 8] rfl ?_
            exact hj141 _ _
          · refine J_iload_n C 3 dX1_find_111 rfl ?_
            refine J_bipush C dX1_find_112 (zi9 rfl rfl) (by decide) ?_
            refine J_join (fun j123 => ∀ (s_17 : zS), zJ zw 10 K (zQm zw eI 0 0 K) 0 0 123 [(0, .inr (2, some o0)), (1, .inr (15, some o1)), (2, .inl c2), (4, .inl c4), (5, .inl c5), (6, .inl c6), (7, .inl c7), (8, .inl x8), (9, .inl x_13)] [] s_17 (j123 s_17)) ?_ fun j123 hj123 => ?_
            · intro s_17
              refine J_iload C 8 dX1_find_123 rfl ?_
              refine J_istore_n (L' := [(0, .inr (2, some o0)), (1, .inr (15, some o1)), (2, .inl c2), (3, .inl x_13), (4, .inl c4), (5, .inl c5), (6, .inl c6), (7, .inl c7), (8, .inl x8), (9, .inl x_13)]) C dX1_find_125 (Nat.le_of_ble_eq_true rfl) rfl ?_
              refine J_aload_n C 0 dX1_find_126 rfl ?_
              refine gf_2_1 C dX1_find_127 q_51 ?_
              refine J_nmR fun r_18 => ?_
              refine J_iconst C dX1_find_130 (zi9 rfl rfl) ?_
              refine J_aload_n C 0 dX1_find_131 rfl ?_
              refine gf_2_0 C dX1_find_132 q_49 ?_
              refine J_nmR fun r_19 => ?_
              refine J_iconst C dX1_find_135 (zi9 rfl rfl) ?_
              refine J_bipush C dX1_find_136 (zi9 rfl rfl) (by decide) ?_
              refine J_bind fun i_20 e_21 => ?_
              subst e_21
              refine J_bind fun i_22 e_23 => ?_
              subst e_23
              refine J_g fun h_25 => ?_
              refine J_copy (t := 15) (N := 6) (u := 15) (M := 6) C (Nat.le_of_ble_eq_true rfl) rfl rfl (Nat.le_of_ble_eq_true rfl) rfl rfl dX1_find_138 q_614 q_616 q_615 q_14 h_25 (by decide) (by rw [znf]; show 0 + 18 ≤ _; omega) fun s_24 => ?_
              refine J_loc (L' := [(0, .inr (2, some o0)), (1, .inr (15, some o1)), (2, .inl c2), (3, .inl x_13), (4, .inl c4), (5, .inl c5), (6, .inl c6), (7, .inl c7), (8, .inl x8)]) [0, 1, 2, 3, 4, 5, 6, 7, 8] rfl ?_
              exact hj141 _ _
            · refine J_ic_eq C 123 dX1_find_114 rfl (fun _ => ?_) (fun _ => ?_)
              · refine J_loc (L' := [(0, .inr (2, some o0)), (1, .inr (15, some o1)), (2, .inl c2), (4, .inl c4), (5, .inl c5), (6, .inl c6), (7, .inl c7), (8, .inl x8), (9, .inl x_13)]) [0, 1, 2, 4, 5, 6, 7, 8, 9] rfl ?_
                exact hj123 _
              · refine J_iload C 9 dX1_find_117 rfl ?_
                refine J_iload_n C 3 dX1_find_119 rfl ?_
                refine J_ic_ge C 141 dX1_find_120 rfl (fun _ => ?_) (fun _ => ?_)
                · refine J_loc (L' := [(0, .inr (2, some o0)), (1, .inr (15, some o1)), (2, .inl c2), (3, .inl x3), (4, .inl c4), (5, .inl c5), (6, .inl c6), (7, .inl c7), (8, .inl x8)]) [0, 1, 2, 3, 4, 5, 6, 7, 8] rfl ?_
                  exact hj141 _ _
                · refine J_loc (L' := [(0, .inr (2, some o0)), (1, .inr (15, some o1)), (2, .inl c2), (4, .inl c4), (5, .inl c5), (6, .inl c6), (7, .inl c7), (8, .inl x8), (9, .inl x_13)]) [0, 1, 2, 4, 5, 6, 7, 8, 9] rfl ?_
                  exact hj123 _
set_option maxHeartbeats 4000000 in
set_option maxRecDepth 20000 in
theorem kX1_find_L22 {K : zKx} (C : zC zw 10 K RX1 cX1_find "find" (some .int) 2 42 0 0)  (nf : Nat) (o0 : Nat) (o1 : Nat) (c2 : Int) (c4 : Int) : ∀ (n : Nat) (s0 : zS) (x3 : Int) (x5 : Int), zJ zw 10 K (zQm zw eI 0 0 K) 0 0 22 [(0, .inr (2, some o0)), (1, .inr (15, some o1)), (2, .inl c2), (3, .inl x3), (4, .inl c4), (5, .inl x5)] [] s0 (fX1_find_L22 o0 o1 c2 c4 nf n s0 x3 x5) := by
  intro n
  induction n with
  | zero => intro s0 x3 x5; exact J_none
  | succ n ih =>
    intro s0 x3 x5
    rw [fX1_find_L22]
    refine J_iload C 5 dX1_find_22 rfl ?_
    refine J_if_lt C 153 dX1_find_24 rfl (fun _ => ?_) (fun _ => ?_)
    · refine J_iload_n C 3 dX1_find_153 rfl ?_
      exact J_iret C dX1_find_154 (by decide) (by decide)
    · refine J_iload C 5 dX1_find_27 rfl ?_
      refine J_iload C 4 dX1_find_29 rfl ?_
      refine J_iconst C dX1_find_31 (zi9 rfl rfl) ?_
      refine J_isub C dX1_find_32 ?_
      refine J_ic_lt C 153 dX1_find_33 rfl (fun _ => ?_) (fun _ => ?_)
      · refine J_iload_n C 3 dX1_find_153 rfl ?_
        exact J_iret C dX1_find_154 (by decide) (by decide)
      · refine J_iload_n C 2 dX1_find_36 rfl ?_
        refine J_iload C 5 dX1_find_37 rfl ?_
        refine J_getsN C dX1_find_39 qn_606 ?_
        refine J_iconst C dX1_find_42 (zi9 rfl rfl) ?_
        refine J_g fun h_6 => ?_
        refine J_wald C h_6 dX1_find_43 ?_
        refine J_imul C dX1_find_44 ?_
        refine J_isub C dX1_find_45 ?_
        refine J_nm fun x_7 => ?_
        refine J_istore (L' := [(0, .inr (2, some o0)), (1, .inr (15, some o1)), (2, .inl c2), (3, .inl x3), (4, .inl c4), (5, .inl x5), (6, .inl x_7)]) C dX1_find_46 (Nat.le_of_ble_eq_true rfl) rfl ?_
        refine J_aload_n C 1 dX1_find_48 rfl ?_
        refine J_iconst C dX1_find_49 (zi9 rfl rfl) ?_
        refine J_g fun h_8 => ?_
        refine J_iald (t := 15) (N := 6) C (Nat.le_of_ble_eq_true rfl) rfl rfl h_8 dX1_find_50 ?_
        refine J_iload C 6 dX1_find_51 rfl ?_
        refine J_getsN C dX1_find_53 qn_606 ?_
        refine J_iconst C dX1_find_56 (zi9 rfl rfl) ?_
        refine J_g fun h_9 => ?_
        refine J_wald C h_9 dX1_find_57 ?_
        refine J_g fun h_14 => ?_
        refine J_idiv C dX1_find_58 h_14 ?_
        refine J_mmin (S := []) C dX1_find_59 q_607 q_608 q_13 q_609 (by decide) (Nat.le_of_ble_eq_true rfl) (by decide) (by decide) ?_
        refine J_nm fun x_10 => ?_
        refine J_istore (L' := [(0, .inr (2, some o0)), (1, .inr (15, some o1)), (2, .inl c2), (3, .inl x3), (4, .inl c4), (5, .inl x5), (6, .inl x_7), (7, .inl x_10)]) C dX1_find_62 (Nat.le_of_ble_eq_true rfl) rfl ?_
        refine J_iload C 7 dX1_find_64 rfl ?_
        refine J_istore (L' := [(0, .inr (2, some o0)), (1, .inr (15, some o1)), (2, .inl c2), (3, .inl x3), (4, .inl c4), (5, .inl x5), (6, .inl x_7), (7, .inl x_10), (8, .inl x_10)]) C dX1_find_66 (Nat.le_of_ble_eq_true rfl) rfl ?_
        refine kX1_find_L68 C _ _ _ _ _ _ _ _ _ ?_ _ _ _ _
        intro s_12 y_11
        refine J_iinc C 5 dX1_find_147 (zi9 rfl rfl) (Nat.le_of_ble_eq_true rfl) rfl fun x_13 => ?_
        refine J_goto C 22 dX1_find_150 rfl ?_
        exact ih _ _ _
set_option maxHeartbeats 4000000 in
set_option maxRecDepth 20000 in
theorem kX1_find (nf : Nat) (s0 : zS) (i0 : Nat) (r1 : Option Nat) (x2 : Int) : zCt zw yX1_find cX1_find 10 (some .int) 2 42 0 0 eI [.inr (2, some i0), .inr (15, r1), .inl x2] s0 (fX1_find nf s0 i0 r1 x2) := by
  refine zCt_on (own := RX1) (nm := "find") rfl rfl (by decide) (Nat.le_of_ble_eq_true rfl) fun K C => ?_
  show zJ zw 10 K _ 0 0 0 [(0, .inr (2, some i0)), (1, .inr (15, r1)), (2, .inl x2)] [] s0 (fX1_find nf s0 i0 r1 x2)
  unfold fX1_find
  refine J_bipush C dX1_find_0 (zi9 rfl rfl) (by decide) ?_
  refine J_istore_n (L' := [(0, .inr (2, some i0)), (1, .inr (15, r1)), (2, .inl x2), (3, .inl (-9))]) C dX1_find_2 (Nat.le_of_ble_eq_true rfl) rfl ?_
  refine J_aload_n C 1 dX1_find_3 rfl ?_
  refine J_iconst C dX1_find_4 (zi9 rfl rfl) ?_
  refine J_bind fun i_1 e_2 => ?_
  subst e_2
  refine J_g fun h_3 => ?_
  refine J_iald (t := 15) (N := 6) C (Nat.le_of_ble_eq_true rfl) rfl rfl h_3 dX1_find_5 ?_
  refine J_iload_n C 2 dX1_find_6 rfl ?_
  refine J_getsN C dX1_find_7 qn_606 ?_
  refine J_iconst C dX1_find_10 (zi9 rfl rfl) ?_
  refine J_g fun h_4 => ?_
  refine J_wald C h_4 dX1_find_11 ?_
  refine J_g fun h_6 => ?_
  refine J_idiv C dX1_find_12 h_6 ?_
  refine J_mmin (S := []) C dX1_find_13 q_607 q_608 q_13 q_609 (by decide) (Nat.le_of_ble_eq_true rfl) (by decide) (by decide) ?_
  refine J_nm fun x_5 => ?_
  refine J_istore (L' := [(0, .inr (2, some i0)), (1, .inr (15, some i_1)), (2, .inl x2), (3, .inl (-9)), (4, .inl x_5)]) C dX1_find_16 (Nat.le_of_ble_eq_true rfl) rfl ?_
  refine J_iload C 4 dX1_find_18 rfl ?_
  refine J_istore (L' := [(0, .inr (2, some i0)), (1, .inr (15, some i_1)), (2, .inl x2), (3, .inl (-9)), (4, .inl x_5), (5, .inl x_5)]) C dX1_find_20 (Nat.le_of_ble_eq_true rfl) rfl ?_
  exact kX1_find_L22 C _ _ _ _ _ _ _ _ _
def fX3_take_L2 (o0 : Nat) (q1 : Option Nat) : Nat → zS → Int → Option (Unit × zS)
  | 0, _, _ => none
  | n + 1, s0, x2 =>
    if x2 < 6 then (nm_ (gR s0 4 o0 0) fun (r_1 : Option Nat) => Option.bind r_1 fun i_2 => g_ ((0 : Int) ≤ x2 ∧ (x2 : Int) < 6) (Option.bind q1 fun i_5 => g_ ((0 : Int) ≤ x2 ∧ (x2 : Int) < 6) (g_ ((0 : Int) ≤ x2 ∧ (x2 : Int) < 6) (up_ (sI s0 15 i_2 (Int.toNat (x2)) (wr ((gI s0 15 i_2 (Int.toNat (x2))) - (gI s0 15 i_5 (Int.toNat (x2)))))) fun (s_9 : zS) => nm_ (wr (x2 + 1)) fun (x_10 : Int) => fX3_take_L2 o0 q1 n s_9 x_10)))) else (some ((), s0))
def fX3_take (nf : Nat) (s0 : zS) (i0 : Nat) (r1 : Option Nat) : Option (Unit × zS) :=
  fX3_take_L2 i0 r1 nf s0 0
set_option maxHeartbeats 4000000 in
set_option maxRecDepth 20000 in
theorem kX3_take_L2 {K : zKx} (C : zC zw 3 K RX3 cX3_take "take" none 0 0 0 0)  (o0 : Nat) (q1 : Option Nat) : ∀ (n : Nat) (s0 : zS) (x2 : Int), zJ zw 3 K (zQm zw eV 0 0 K) 0 0 2 [(0, .inr (4, some o0)), (1, .inr (15, q1)), (2, .inl x2)] [] s0 (fX3_take_L2 o0 q1 n s0 x2) := by
  intro n
  induction n with
  | zero => intro s0 x2; exact J_none
  | succ n ih =>
    intro s0 x2
    rw [fX3_take_L2]
    refine J_iload_n C 2 dX3_take_2 rfl ?_
    refine J_bipush C dX3_take_3 (zi9 rfl rfl) (by decide) ?_
    refine J_ic_ge C 26 dX3_take_5 rfl (fun _ => ?_) (fun _ => ?_)
    · exact J_vret C dX3_take_26 (by decide) (by decide)
    · refine J_aload_n C 0 dX3_take_8 rfl ?_
      refine gf_4_0 C dX3_take_9 q_36 ?_
      refine J_nmR fun r_1 => ?_
      refine J_iload_n C 2 dX3_take_12 rfl ?_
      refine J_dup2 C dX3_take_13 ?_
      refine J_bind fun i_2 e_3 => ?_
      subst e_3
      refine J_g fun h_4 => ?_
      refine J_iald (t := 15) (N := 6) C (Nat.le_of_ble_eq_true rfl) rfl rfl h_4 dX3_take_14 ?_
      refine J_aload_n C 1 dX3_take_15 rfl ?_
      refine J_iload_n C 2 dX3_take_16 rfl ?_
      refine J_bind fun i_5 e_6 => ?_
      subst e_6
      refine J_g fun h_7 => ?_
      refine J_iald (t := 15) (N := 6) C (Nat.le_of_ble_eq_true rfl) rfl rfl h_7 dX3_take_17 ?_
      refine J_isub C dX3_take_18 ?_
      refine J_g fun h_8 => ?_
      refine J_iast (t := 15) (N := 6) C (Nat.le_of_ble_eq_true rfl) rfl rfl h_8 dX3_take_19 fun s_9 => ?_
      refine J_iinc C 2 dX3_take_20 (zi9 rfl rfl) (Nat.le_of_ble_eq_true rfl) rfl fun x_10 => ?_
      refine J_goto C 2 dX3_take_23 rfl ?_
      exact ih _ _
set_option maxHeartbeats 4000000 in
set_option maxRecDepth 20000 in
theorem kX3_take (nf : Nat) (s0 : zS) (i0 : Nat) (r1 : Option Nat) : zCt zw yX3_take cX3_take 3 none 0 0 0 0 eV [.inr (4, some i0), .inr (15, r1)] s0 (fX3_take nf s0 i0 r1) := by
  refine zCt_on (own := RX3) (nm := "take") rfl rfl (by decide) (Nat.le_of_ble_eq_true rfl) fun K C => ?_
  show zJ zw 3 K _ 0 0 0 [(0, .inr (4, some i0)), (1, .inr (15, r1))] [] s0 (fX3_take nf s0 i0 r1)
  unfold fX3_take
  refine J_iconst C dX3_take_0 (zi9 rfl rfl) ?_
  refine J_istore_n (L' := [(0, .inr (4, some i0)), (1, .inr (15, r1)), (2, .inl 0)]) C dX3_take_1 (Nat.le_of_ble_eq_true rfl) rfl ?_
  exact kX3_take_L2 C _ _ _ _ _
def fX10_settle (nf : Nat) (s0 : zS) (i0 : Nat) (r1 : Option Nat) : Option (Unit × zS) :=
  Option.bind r1 fun i_1 => nm_ (gR s0 5 i_1 2) fun (r_3 : Option Nat) => Option.bind r_3 fun i_4 => cl_ (fX3_worth nf s0 i_4) fun (x_7 : Int) (s_6 : zS) => nm_ (wr (x_7 - (gI s_6 5 i_1 13))) fun (x_8 : Int) => nm_ (gR s_6 0 i0 4) fun (r_9 : Option Nat) => nm_ (gR s_6 5 i_1 2) fun (r_10 : Option Nat) => Option.bind r_10 fun i_11 => nm_ (gR s_6 4 i_11 0) fun (r_13 : Option Nat) => Option.bind r_9 fun i_14 => cl_ (fX3_put nf s_6 i_14 r_13) fun (_ : Unit) (s_16 : zS) => nm_ (gR s_16 0 i0 5) fun (r_17 : Option Nat) => nm_ (gR s_16 0 i0 4) fun (r_18 : Option Nat) => Option.bind r_18 fun i_19 => nm_ (gR s_16 4 i_19 0) fun (r_21 : Option Nat) => Option.bind r_17 fun i_22 => cl_ (fX1_find nf s_16 i_22 r_21 x_8) fun (x_25 : Int) (s_24 : zS) => if x_25 = (-9) then (nm_ (gR s_24 0 i0 4) fun (r_47 : Option Nat) => nm_ (gR s_24 5 i_1 2) fun (r_48 : Option Nat) => Option.bind r_48 fun i_49 => nm_ (gR s_24 4 i_49 0) fun (r_51 : Option Nat) => Option.bind r_47 fun i_52 => cl_ (fX3_take nf s_24 i_52 r_51) fun (_ : Unit) (s_54 : zS) => up_ (sI s_54 5 i_1 12 3) fun (s_55 : zS) => some ((), s_55)) else (nm_ (gR s_24 0 i0 4) fun (r_26 : Option Nat) => nm_ (gR s_24 0 i0 5) fun (r_27 : Option Nat) => Option.bind r_27 fun i_28 => nm_ (gR s_24 2 i_28 0) fun (r_30 : Option Nat) => Option.bind r_26 fun i_31 => cl_ (fX3_take nf s_24 i_31 r_30) fun (_ : Unit) (s_33 : zS) => nm_ (gR s_33 5 i_1 2) fun (r_34 : Option Nat) => Option.bind r_34 fun i_35 => cl_ (fX3_empty nf s_33 i_35) fun (_ : Unit) (s_37 : zS) => nm_ (gR s_37 5 i_1 2) fun (r_38 : Option Nat) => nm_ (gR s_37 0 i0 5) fun (r_39 : Option Nat) => Option.bind r_39 fun i_40 => nm_ (gR s_37 2 i_40 0) fun (r_42 : Option Nat) => Option.bind r_38 fun i_43 => cl_ (fX3_put nf s_37 i_43 r_42) fun (_ : Unit) (s_45 : zS) => up_ (sI s_45 5 i_1 12 2) fun (s_46 : zS) => some ((), s_46))
set_option maxHeartbeats 4000000 in
set_option maxRecDepth 20000 in
theorem kX10_settle (nf : Nat) (s0 : zS) (i0 : Nat) (r1 : Option Nat) : zCt zw yX10_settle cX10_settle 3 none 3 71 0 0 eV [.inr (0, some i0), .inr (5, r1)] s0 (fX10_settle nf s0 i0 r1) := by
  refine zCt_on (own := RX10) (nm := "settle") rfl rfl (by decide) (Nat.le_of_ble_eq_true rfl) fun K C => ?_
  show zJ zw 3 K _ 0 0 0 [(0, .inr (0, some i0)), (1, .inr (5, r1))] [] s0 (fX10_settle nf s0 i0 r1)
  unfold fX10_settle
  refine J_aload_n C 1 dX10_settle_0 rfl ?_
  refine J_bind fun i_1 e_2 => ?_
  subst e_2
  refine gf_5_2 C dX10_settle_1 q_358 ?_
  refine J_nmR fun r_3 => ?_
  refine J_bind fun i_4 e_5 => ?_
  subst e_5
  refine J_callVI (S := []) (avs := []) C zx4 yw_34 rfl (kX3_worth _ _ _) dX10_settle_4 rfl (Nat.le_of_ble_eq_true rfl) (by decide) fun x_7 s_6 => ?_
  refine J_aload_n C 1 dX10_settle_7 rfl ?_
  refine gf_5_13 C dX10_settle_8 q_380 ?_
  refine J_isub C dX10_settle_11 ?_
  refine J_nm fun x_8 => ?_
  refine J_istore_n (L' := [(0, .inr (0, some i0)), (1, .inr (5, some i_1)), (2, .inl x_8)]) C dX10_settle_12 (Nat.le_of_ble_eq_true rfl) rfl ?_
  refine J_aload_n C 0 dX10_settle_13 rfl ?_
  refine gf_0_4 C dX10_settle_14 q_260 ?_
  refine J_nmR fun r_9 => ?_
  refine J_aload_n C 1 dX10_settle_17 rfl ?_
  refine gf_5_2 C dX10_settle_18 q_358 ?_
  refine J_nmR fun r_10 => ?_
  refine J_bind fun i_11 e_12 => ?_
  subst e_12
  refine gf_4_0 C dX10_settle_21 q_38 ?_
  refine J_nmR fun r_13 => ?_
  refine J_bind fun i_14 e_15 => ?_
  subst e_15
  refine J_callVV (S := []) (avs := [.inr (15, r_13)]) C zx4 yw_43 rfl (kX3_put _ _ _ _) dX10_settle_24 rfl (Nat.le_of_ble_eq_true rfl) (by decide) fun _ s_16 => ?_
  refine J_aload_n C 0 dX10_settle_27 rfl ?_
  refine gf_0_5 C dX10_settle_28 q_261 ?_
  refine J_nmR fun r_17 => ?_
  refine J_aload_n C 0 dX10_settle_31 rfl ?_
  refine gf_0_4 C dX10_settle_32 q_260 ?_
  refine J_nmR fun r_18 => ?_
  refine J_bind fun i_19 e_20 => ?_
  subst e_20
  refine gf_4_0 C dX10_settle_35 q_38 ?_
  refine J_nmR fun r_21 => ?_
  refine J_iload_n C 2 dX10_settle_38 rfl ?_
  refine J_bind fun i_22 e_23 => ?_
  subst e_23
  refine J_callVI (S := []) (avs := [.inr (15, r_21), .inl x_8]) C zx2 yw_45 rfl (kX1_find _ _ _ _ _) dX10_settle_39 rfl (Nat.le_of_ble_eq_true rfl) (by decide) fun x_25 s_24 => ?_
  refine J_bipush C dX10_settle_42 (zi9 rfl rfl) (by decide) ?_
  refine J_ic_ne C 67 dX10_settle_44 rfl (fun _ => ?_) (fun _ => ?_)
  · refine J_aload_n C 0 dX10_settle_67 rfl ?_
    refine gf_0_4 C dX10_settle_68 q_260 ?_
    refine J_nmR fun r_26 => ?_
    refine J_aload_n C 0 dX10_settle_71 rfl ?_
    refine gf_0_5 C dX10_settle_72 q_261 ?_
    refine J_nmR fun r_27 => ?_
    refine J_bind fun i_28 e_29 => ?_
    subst e_29
    refine gf_2_0 C dX10_settle_75 q_50 ?_
    refine J_nmR fun r_30 => ?_
    refine J_bind fun i_31 e_32 => ?_
    subst e_32
    refine J_callVV (S := []) (avs := [.inr (15, r_30)]) C zx4 yw_44 rfl (kX3_take _ _ _ _) dX10_settle_78 rfl (Nat.le_of_ble_eq_true rfl) (by decide) fun _ s_33 => ?_
    refine J_aload_n C 1 dX10_settle_81 rfl ?_
    refine gf_5_2 C dX10_settle_82 q_358 ?_
    refine J_nmR fun r_34 => ?_
    refine J_bind fun i_35 e_36 => ?_
    subst e_36
    refine J_callVV (S := []) (avs := []) C zx4 yw_32 rfl (kX3_empty _ _ _) dX10_settle_85 rfl (Nat.le_of_ble_eq_true rfl) (by decide) fun _ s_37 => ?_
    refine J_aload_n C 1 dX10_settle_88 rfl ?_
    refine gf_5_2 C dX10_settle_89 q_358 ?_
    refine J_nmR fun r_38 => ?_
    refine J_aload_n C 0 dX10_settle_92 rfl ?_
    refine gf_0_5 C dX10_settle_93 q_261 ?_
    refine J_nmR fun r_39 => ?_
    refine J_bind fun i_40 e_41 => ?_
    subst e_41
    refine gf_2_0 C dX10_settle_96 q_50 ?_
    refine J_nmR fun r_42 => ?_
    refine J_bind fun i_43 e_44 => ?_
    subst e_44
    refine J_callVV (S := []) (avs := [.inr (15, r_42)]) C zx4 yw_43 rfl (kX3_put _ _ _ _) dX10_settle_99 rfl (Nat.le_of_ble_eq_true rfl) (by decide) fun _ s_45 => ?_
    refine J_aload_n C 1 dX10_settle_102 rfl ?_
    refine J_iconst C dX10_settle_103 (zi9 rfl rfl) ?_
    refine pf_5_12 C dX10_settle_104 q_379 fun s_46 => ?_
    exact J_vret C dX10_settle_107 (by decide) (by decide)
  · refine J_aload_n C 0 dX10_settle_47 rfl ?_
    refine gf_0_4 C dX10_settle_48 q_260 ?_
    refine J_nmR fun r_47 => ?_
    refine J_aload_n C 1 dX10_settle_51 rfl ?_
    refine gf_5_2 C dX10_settle_52 q_358 ?_
    refine J_nmR fun r_48 => ?_
    refine J_bind fun i_49 e_50 => ?_
    subst e_50
    refine gf_4_0 C dX10_settle_55 q_38 ?_
    refine J_nmR fun r_51 => ?_
    refine J_bind fun i_52 e_53 => ?_
    subst e_53
    refine J_callVV (S := []) (avs := [.inr (15, r_51)]) C zx4 yw_44 rfl (kX3_take _ _ _ _) dX10_settle_58 rfl (Nat.le_of_ble_eq_true rfl) (by decide) fun _ s_54 => ?_
    refine J_aload_n C 1 dX10_settle_61 rfl ?_
    refine J_iconst C dX10_settle_62 (zi9 rfl rfl) ?_
    refine pf_5_12 C dX10_settle_63 q_379 fun s_55 => ?_
    exact J_vret C dX10_settle_66 (by decide) (by decide)
def fX10_finish (nf : Nat) (s0 : zS) (i0 : Nat) (r1 : Option Nat) (r2 : Option Nat) : Option (Unit × zS) :=
  Option.bind r1 fun i_1 => up_ (sR s0 3 i_1 2 none) fun (s_3 : zS) => Option.bind r2 fun i_4 => if gI s_3 5 i_4 12 = 1 then (cl_ (fX10_settle nf s_3 i0 (some i_4)) fun (_ : Unit) (s_12 : zS) => nm_ (gR s_12 0 i0 9) fun (r_13 : Option Nat) => nm_ (gR s_12 5 i_4 1) fun (r_14 : Option Nat) => nm_ (gR s_12 0 i0 9) fun (r_15 : Option Nat) => cl_ (fX10_rightChild nf s_12 r_14 r_15) fun (r_17 : Option Nat) (s_16 : zS) => cl_ (fX4_waitToGoDown s_16 i_4 r_13 r_17 (gI s_16 0 i0 13)) fun (_ : Unit) (s_18 : zS) => some ((), s_18)) else (nm_ (gR s_3 0 i0 9) fun (r_6 : Option Nat) => nm_ (gR s_3 5 i_4 1) fun (r_7 : Option Nat) => nm_ (gR s_3 0 i0 9) fun (r_8 : Option Nat) => cl_ (fX10_rightChild nf s_3 r_7 r_8) fun (r_10 : Option Nat) (s_9 : zS) => cl_ (fX4_waitToGoDown s_9 i_4 r_6 r_10 (gI s_9 0 i0 13)) fun (_ : Unit) (s_11 : zS) => some ((), s_11))
set_option maxHeartbeats 4000000 in
set_option maxRecDepth 20000 in
theorem kX10_finish (nf : Nat) (s0 : zS) (i0 : Nat) (r1 : Option Nat) (r2 : Option Nat) : zCt zw yX10_finish cX10_finish 3 none 4 93 0 0 eV [.inr (0, some i0), .inr (3, r1), .inr (5, r2)] s0 (fX10_finish nf s0 i0 r1 r2) := by
  refine zCt_on (own := RX10) (nm := "finish") rfl rfl (by decide) (Nat.le_of_ble_eq_true rfl) fun K C => ?_
  show zJ zw 3 K _ 0 0 0 [(0, .inr (0, some i0)), (1, .inr (3, r1)), (2, .inr (5, r2))] [] s0 (fX10_finish nf s0 i0 r1 r2)
  unfold fX10_finish
  refine J_aload_n C 1 dX10_finish_0 rfl ?_
  refine J_null 5 C dX10_finish_1 ?_
  refine J_bind fun i_1 e_2 => ?_
  subst e_2
  refine pf_3_2 C dX10_finish_2 q_428 fun s_3 => ?_
  refine J_aload_n C 2 dX10_finish_5 rfl ?_
  refine J_bind fun i_4 e_5 => ?_
  subst e_5
  refine gf_5_12 C dX10_finish_6 q_379 ?_
  refine J_iconst C dX10_finish_9 (zi9 rfl rfl) ?_
  refine J_ic_ne C 18 dX10_finish_10 rfl (fun _ => ?_) (fun _ => ?_)
  · refine J_aload_n C 2 dX10_finish_18 rfl ?_
    refine J_aload_n C 0 dX10_finish_19 rfl ?_
    refine gf_0_9 C dX10_finish_20 q_265 ?_
    refine J_nmR fun r_6 => ?_
    refine J_aload_n C 2 dX10_finish_23 rfl ?_
    refine gf_5_1 C dX10_finish_24 q_356 ?_
    refine J_nmR fun r_7 => ?_
    refine J_aload_n C 0 dX10_finish_27 rfl ?_
    refine gf_0_9 C dX10_finish_28 q_265 ?_
    refine J_nmR fun r_8 => ?_
    refine J_callSR (S := [.inr (8, r_6), .inr (5, some i_4)]) (avs := [.inr (8, r_7), .inr (8, r_8)]) C yw_28 (kX10_rightChild _ _ _ _) dX10_finish_31 rfl (Nat.le_of_ble_eq_true rfl) (by decide) fun r_10 s_9 => ?_
    refine J_aload_n C 0 dX10_finish_34 rfl ?_
    refine gf_0_13 C dX10_finish_35 q_269 ?_
    refine J_callVV (S := []) (avs := [.inr (8, r_6), .inr (8, r_10), .inl (gI s_9 0 i0 13)]) C zx5 yw_37 rfl (kX4_waitToGoDown _ _ _ _ _) dX10_finish_38 rfl (Nat.le_of_ble_eq_true rfl) (by decide) fun _ s_11 => ?_
    exact J_vret C dX10_finish_41 (by decide) (by decide)
  · refine J_aload_n C 0 dX10_finish_13 rfl ?_
    refine J_aload_n C 2 dX10_finish_14 rfl ?_
    refine J_callVV (S := []) (avs := [.inr (5, some i_4)]) C zx0 yw_46 rfl (kX10_settle _ _ _ _) dX10_finish_15 rfl (Nat.le_of_ble_eq_true rfl) (by decide) fun _ s_12 => ?_
    refine J_aload_n C 2 dX10_finish_18 rfl ?_
    refine J_aload_n C 0 dX10_finish_19 rfl ?_
    refine gf_0_9 C dX10_finish_20 q_265 ?_
    refine J_nmR fun r_13 => ?_
    refine J_aload_n C 2 dX10_finish_23 rfl ?_
    refine gf_5_1 C dX10_finish_24 q_356 ?_
    refine J_nmR fun r_14 => ?_
    refine J_aload_n C 0 dX10_finish_27 rfl ?_
    refine gf_0_9 C dX10_finish_28 q_265 ?_
    refine J_nmR fun r_15 => ?_
    refine J_callSR (S := [.inr (8, r_13), .inr (5, some i_4)]) (avs := [.inr (8, r_14), .inr (8, r_15)]) C yw_28 (kX10_rightChild _ _ _ _) dX10_finish_31 rfl (Nat.le_of_ble_eq_true rfl) (by decide) fun r_17 s_16 => ?_
    refine J_aload_n C 0 dX10_finish_34 rfl ?_
    refine gf_0_13 C dX10_finish_35 q_269 ?_
    refine J_callVV (S := []) (avs := [.inr (8, r_13), .inr (8, r_17), .inl (gI s_16 0 i0 13)]) C zx5 yw_37 rfl (kX4_waitToGoDown _ _ _ _ _) dX10_finish_38 rfl (Nat.le_of_ble_eq_true rfl) (by decide) fun _ s_18 => ?_
    exact J_vret C dX10_finish_41 (by decide) (by decide)
def fX10_workClerks_L2 (o0 : Nat) (nf : Nat) : Nat → zS → Int → Option (Unit × zS)
  | 0, _, _ => none
  | n + 1, s0, x1 =>
    if x1 < gI s0 0 o0 12 then (nm_ (gR s0 0 o0 2) fun (r_1 : Option Nat) => Option.bind r_1 fun i_2 => g_ ((0 : Int) ≤ x1 ∧ (x1 : Int) < 4) (nm_ (gR s0 13 i_2 (Int.toNat (x1))) fun (r_5 : Option Nat) => Option.bind r_5 fun i_6 => nm_ (gR s0 3 i_6 2) fun (r_8 : Option Nat) => nm_ (fun (s_9 : zS) => nm_ (wr (x1 + 1)) fun (x_10 : Int) => fX10_workClerks_L2 o0 nf n s_9 x_10) fun (j50 : zS → Option (Unit × zS)) => Option.elim r_8 (j50 s0) fun i_11 => up_ (sI s0 3 i_6 3 (wr ((gI s0 3 i_6 3) - 1))) fun (s_13 : zS) => if gI s_13 3 i_6 3 = 0 then (nm_ (gR s_13 3 i_6 2) fun (r_14 : Option Nat) => cl_ (fX10_finish nf s_13 o0 (some i_6) r_14) fun (_ : Unit) (s_15 : zS) => j50 s_15) else (j50 s_13))) else (some ((), s0))
def fX10_workClerks (nf : Nat) (s0 : zS) (i0 : Nat) : Option (Unit × zS) :=
  fX10_workClerks_L2 i0 nf nf s0 0
set_option maxHeartbeats 4000000 in
set_option maxRecDepth 20000 in
theorem kX10_workClerks_L2 {K : zKx} (C : zC zw 3 K RX10 cX10_workClerks "workClerks" none 5 115 0 0)  (nf : Nat) (o0 : Nat) : ∀ (n : Nat) (s0 : zS) (x1 : Int), zJ zw 3 K (zQm zw eV 0 0 K) 0 0 2 [(0, .inr (0, some o0)), (1, .inl x1)] [] s0 (fX10_workClerks_L2 o0 nf n s0 x1) := by
  intro n
  induction n with
  | zero => intro s0 x1; exact J_none
  | succ n ih =>
    intro s0 x1
    rw [fX10_workClerks_L2]
    refine J_iload_n C 1 dX10_workClerks_2 rfl ?_
    refine J_aload_n C 0 dX10_workClerks_3 rfl ?_
    refine gf_0_12 C dX10_workClerks_4 q_268 ?_
    refine J_ic_ge C 56 dX10_workClerks_7 rfl (fun _ => ?_) (fun _ => ?_)
    · exact J_vret C dX10_workClerks_56 (by decide) (by decide)
    · refine J_aload_n C 0 dX10_workClerks_10 rfl ?_
      refine gf_0_2 C dX10_workClerks_11 q_258 ?_
      refine J_nmR fun r_1 => ?_
      refine J_iload_n C 1 dX10_workClerks_14 rfl ?_
      refine J_bind fun i_2 e_3 => ?_
      subst e_3
      refine J_g fun h_4 => ?_
      refine J_aald (t := 13) (N := 4) (u := 3) (a := 4) C (Nat.le_of_ble_eq_true rfl) rfl rfl (fun _ => rfl) h_4 dX10_workClerks_15 ?_
      refine J_nmR fun r_5 => ?_
      refine J_astore_n (L' := [(0, .inr (0, some o0)), (1, .inl x1), (2, .inr (3, r_5))]) C dX10_workClerks_16 (Nat.le_of_ble_eq_true rfl) rfl ?_
      refine J_aload_n C 2 dX10_workClerks_17 rfl ?_
      refine J_bind fun i_6 e_7 => ?_
      subst e_7
      refine gf_3_2 C dX10_workClerks_18 q_428 ?_
      refine J_nmR fun r_8 => ?_
      refine J_join (fun j50 => ∀ (s_9 : zS), zJ zw 3 K (zQm zw eV 0 0 K) 0 0 50 [(0, .inr (0, some o0)), (1, .inl x1)] [] s_9 (j50 s_9)) ?_ fun j50 hj50 => ?_
      · intro s_9
        refine J_iinc C 1 dX10_workClerks_50 (zi9 rfl rfl) (Nat.le_of_ble_eq_true rfl) rfl fun x_10 => ?_
        refine J_goto C 2 dX10_workClerks_53 rfl ?_
        exact ih _ _
      · refine J_elim (fun e_12 => ?_) (fun i_11 e_12 => ?_)
        · subst e_12
          refine J_null_n C 50 dX10_workClerks_21 rfl ?_
          refine J_loc (L' := [(0, .inr (0, some o0)), (1, .inl x1)]) [0, 1] rfl ?_
          exact hj50 _
        · subst e_12
          refine J_null_s C dX10_workClerks_21 ?_
          refine J_aload_n C 2 dX10_workClerks_24 rfl ?_
          refine J_dup C dX10_workClerks_25 ?_
          refine gf_3_3 C dX10_workClerks_26 q_430 ?_
          refine J_iconst C dX10_workClerks_29 (zi9 rfl rfl) ?_
          refine J_isub C dX10_workClerks_30 ?_
          refine pf_3_3 C dX10_workClerks_31 q_430 fun s_13 => ?_
          refine J_aload_n C 2 dX10_workClerks_34 rfl ?_
          refine gf_3_3 C dX10_workClerks_35 q_430 ?_
          refine J_if_ne C 50 dX10_workClerks_38 rfl (fun _ => ?_) (fun _ => ?_)
          · refine J_loc (L' := [(0, .inr (0, some o0)), (1, .inl x1)]) [0, 1] rfl ?_
            exact hj50 _
          · refine J_aload_n C 0 dX10_workClerks_41 rfl ?_
            refine J_aload_n C 2 dX10_workClerks_42 rfl ?_
            refine J_aload_n C 2 dX10_workClerks_43 rfl ?_
            refine gf_3_2 C dX10_workClerks_44 q_428 ?_
            refine J_nmR fun r_14 => ?_
            refine J_callVV (S := []) (avs := [.inr (3, some i_6), .inr (5, r_14)]) C zx0 yw_47 rfl (kX10_finish _ _ _ _ _) dX10_workClerks_47 rfl (Nat.le_of_ble_eq_true rfl) (by decide) fun _ s_15 => ?_
            refine J_loc (L' := [(0, .inr (0, some o0)), (1, .inl x1)]) [0, 1] rfl ?_
            exact hj50 _
set_option maxHeartbeats 4000000 in
set_option maxRecDepth 20000 in
theorem kX10_workClerks (nf : Nat) (s0 : zS) (i0 : Nat) : zCt zw yX10_workClerks cX10_workClerks 3 none 5 115 0 0 eV [.inr (0, some i0)] s0 (fX10_workClerks nf s0 i0) := by
  refine zCt_on (own := RX10) (nm := "workClerks") rfl rfl (by decide) (Nat.le_of_ble_eq_true rfl) fun K C => ?_
  show zJ zw 3 K _ 0 0 0 [(0, .inr (0, some i0))] [] s0 (fX10_workClerks nf s0 i0)
  unfold fX10_workClerks
  refine J_iconst C dX10_workClerks_0 (zi9 rfl rfl) ?_
  refine J_istore_n (L' := [(0, .inr (0, some i0)), (1, .inl 0)]) C dX10_workClerks_1 (Nat.le_of_ble_eq_true rfl) rfl ?_
  exact kX10_workClerks_L2 C _ _ _ _ _
def fX5_bring_L5 (o0 : Nat) (c1 : Int) (q2 : Option Nat) : Nat → zS → Int → Int → Option (Unit × zS)
  | 0, _, _, _ => none
  | n + 1, s0, x3, x4 =>
    if x4 < gI s0 6 o0 3 then (nm_ (gR s0 6 o0 2) fun (r_2 : Option Nat) => Option.bind r_2 fun i_3 => g_ ((0 : Int) ≤ x4 ∧ (x4 : Int) < 20) (nm_ (fun (s_6 : zS) (y_7 : Int) => nm_ (wr (x4 + 1)) fun (x_8 : Int) => fX5_bring_L5 o0 c1 q2 n s_6 y_7 x_8) fun (j92 : zS → Int → Option (Unit × zS)) => if gI s0 19 i_3 (Int.toNat (x4)) = c1 then (Option.bind q2 fun i_37 => nm_ (gR s0 4 i_37 0) fun (r_39 : Option Nat) => nm_ (gR s0 6 o0 0) fun (r_40 : Option Nat) => Option.bind r_40 fun i_41 => g_ ((0 : Int) ≤ x4 ∧ (x4 : Int) < 20) (Option.bind r_39 fun i_44 => g_ ((0 : Int) ≤ gI s0 17 i_41 (Int.toNat (x4)) ∧ (gI s0 17 i_41 (Int.toNat (x4)) : Int) < 6) (nm_ (gR s0 6 o0 1) fun (r_47 : Option Nat) => Option.bind r_47 fun i_48 => g_ ((0 : Int) ≤ x4 ∧ (x4 : Int) < 20) (g_ ((0 : Int) ≤ gI s0 17 i_41 (Int.toNat (x4)) ∧ (gI s0 17 i_41 (Int.toNat (x4)) : Int) < 6) (up_ (sI s0 15 i_44 (Int.toNat (gI s0 17 i_41 (Int.toNat (x4)))) (wr ((gI s0 15 i_44 (Int.toNat (gI s0 17 i_41 (Int.toNat (x4))))) + (gI s0 18 i_48 (Int.toNat (x4)))))) fun (s_52 : zS) => j92 s_52 x3))))) else (nm_ (gR s0 6 o0 0) fun (r_9 : Option Nat) => nm_ (gR s0 6 o0 0) fun (r_10 : Option Nat) => Option.bind r_10 fun i_11 => g_ ((0 : Int) ≤ x4 ∧ (x4 : Int) < 20) (Option.bind r_9 fun i_14 => g_ ((0 : Int) ≤ x3 ∧ (x3 : Int) < 20) (up_ (sI s0 17 i_14 (Int.toNat (x3)) (gI s0 17 i_11 (Int.toNat (x4)))) fun (s_17 : zS) => nm_ (gR s_17 6 o0 1) fun (r_18 : Option Nat) => nm_ (gR s_17 6 o0 1) fun (r_19 : Option Nat) => Option.bind r_19 fun i_20 => g_ ((0 : Int) ≤ x4 ∧ (x4 : Int) < 20) (Option.bind r_18 fun i_23 => g_ ((0 : Int) ≤ x3 ∧ (x3 : Int) < 20) (up_ (sI s_17 18 i_23 (Int.toNat (x3)) (gI s_17 18 i_20 (Int.toNat (x4)))) fun (s_26 : zS) => nm_ (gR s_26 6 o0 2) fun (r_27 : Option Nat) => nm_ (gR s_26 6 o0 2) fun (r_28 : Option Nat) => Option.bind r_28 fun i_29 => g_ ((0 : Int) ≤ x4 ∧ (x4 : Int) < 20) (Option.bind r_27 fun i_32 => g_ ((0 : Int) ≤ x3 ∧ (x3 : Int) < 20) (up_ (sI s_26 19 i_32 (Int.toNat (x3)) (gI s_26 19 i_29 (Int.toNat (x4)))) fun (s_35 : zS) => nm_ (wr (x3 + 1)) fun (x_36 : Int) => j92 s_35 x_36))))))))) else (up_ (sI s0 6 o0 3 x3) fun (s_1 : zS) => some ((), s_1))
def fX5_bring (nf : Nat) (s0 : zS) (i0 : Nat) (x1 : Int) (r2 : Option Nat) : Option (Unit × zS) :=
  fX5_bring_L5 i0 x1 r2 nf s0 0 0
set_option maxHeartbeats 4000000 in
set_option maxRecDepth 20000 in
theorem kX5_bring_L5 {K : zKx} (C : zC zw 5 K RX5 cX5_bring "bring" none 0 0 0 0)  (o0 : Nat) (c1 : Int) (q2 : Option Nat) : ∀ (n : Nat) (s0 : zS) (x3 : Int) (x4 : Int), zJ zw 5 K (zQm zw eV 0 0 K) 0 0 5 [(0, .inr (6, some o0)), (1, .inl c1), (2, .inr (4, q2)), (3, .inl x3), (4, .inl x4)] [] s0 (fX5_bring_L5 o0 c1 q2 n s0 x3 x4) := by
  intro n
  induction n with
  | zero => intro s0 x3 x4; exact J_none
  | succ n ih =>
    intro s0 x3 x4
    rw [fX5_bring_L5]
    refine J_iload C 4 dX5_bring_5 rfl ?_
    refine J_aload_n C 0 dX5_bring_7 rfl ?_
    refine gf_6_3 C dX5_bring_8 q_66 ?_
    refine J_ic_ge C 98 dX5_bring_11 rfl (fun _ => ?_) (fun _ => ?_)
    · refine J_aload_n C 0 dX5_bring_98 rfl ?_
      refine J_iload_n C 3 dX5_bring_99 rfl ?_
      refine pf_6_3 C dX5_bring_100 q_66 fun s_1 => ?_
      exact J_vret C dX5_bring_103 (by decide) (by decide)
    · refine J_aload_n C 0 dX5_bring_14 rfl ?_
      refine gf_6_2 C dX5_bring_15 q_65 ?_
      refine J_nmR fun r_2 => ?_
      refine J_iload C 4 dX5_bring_18 rfl ?_
      refine J_bind fun i_3 e_4 => ?_
      subst e_4
      refine J_g fun h_5 => ?_
      refine J_iald (t := 19) (N := 20) C (Nat.le_of_ble_eq_true rfl) rfl rfl h_5 dX5_bring_20 ?_
      refine J_iload_n C 1 dX5_bring_21 rfl ?_
      refine J_join (fun j92 => ∀ (s_6 : zS) (y_7 : Int), zJ zw 5 K (zQm zw eV 0 0 K) 0 0 92 [(0, .inr (6, some o0)), (1, .inl c1), (2, .inr (4, q2)), (3, .inl y_7), (4, .inl x4)] [] s_6 (j92 s_6 y_7)) ?_ fun j92 hj92 => ?_
      · intro s_6 y_7
        refine J_iinc C 4 dX5_bring_92 (zi9 rfl rfl) (Nat.le_of_ble_eq_true rfl) rfl fun x_8 => ?_
        refine J_goto C 5 dX5_bring_95 rfl ?_
        exact ih _ _ _
      · refine J_ic_ne C 50 dX5_bring_22 rfl (fun _ => ?_) (fun _ => ?_)
        · refine J_aload_n C 0 dX5_bring_50 rfl ?_
          refine gf_6_0 C dX5_bring_51 q_63 ?_
          refine J_nmR fun r_9 => ?_
          refine J_iload_n C 3 dX5_bring_54 rfl ?_
          refine J_aload_n C 0 dX5_bring_55 rfl ?_
          refine gf_6_0 C dX5_bring_56 q_63 ?_
          refine J_nmR fun r_10 => ?_
          refine J_iload C 4 dX5_bring_59 rfl ?_
          refine J_bind fun i_11 e_12 => ?_
          subst e_12
          refine J_g fun h_13 => ?_
          refine J_iald (t := 17) (N := 20) C (Nat.le_of_ble_eq_true rfl) rfl rfl h_13 dX5_bring_61 ?_
          refine J_bind fun i_14 e_15 => ?_
          subst e_15
          refine J_g fun h_16 => ?_
          refine J_iast (t := 17) (N := 20) C (Nat.le_of_ble_eq_true rfl) rfl rfl h_16 dX5_bring_62 fun s_17 => ?_
          refine J_aload_n C 0 dX5_bring_63 rfl ?_
          refine gf_6_1 C dX5_bring_64 q_64 ?_
          refine J_nmR fun r_18 => ?_
          refine J_iload_n C 3 dX5_bring_67 rfl ?_
          refine J_aload_n C 0 dX5_bring_68 rfl ?_
          refine gf_6_1 C dX5_bring_69 q_64 ?_
          refine J_nmR fun r_19 => ?_
          refine J_iload C 4 dX5_bring_72 rfl ?_
          refine J_bind fun i_20 e_21 => ?_
          subst e_21
          refine J_g fun h_22 => ?_
          refine J_iald (t := 18) (N := 20) C (Nat.le_of_ble_eq_true rfl) rfl rfl h_22 dX5_bring_74 ?_
          refine J_bind fun i_23 e_24 => ?_
          subst e_24
          refine J_g fun h_25 => ?_
          refine J_iast (t := 18) (N := 20) C (Nat.le_of_ble_eq_true rfl) rfl rfl h_25 dX5_bring_75 fun s_26 => ?_
          refine J_aload_n C 0 dX5_bring_76 rfl ?_
          refine gf_6_2 C dX5_bring_77 q_65 ?_
          refine J_nmR fun r_27 => ?_
          refine J_iload_n C 3 dX5_bring_80 rfl ?_
          refine J_aload_n C 0 dX5_bring_81 rfl ?_
          refine gf_6_2 C dX5_bring_82 q_65 ?_
          refine J_nmR fun r_28 => ?_
          refine J_iload C 4 dX5_bring_85 rfl ?_
          refine J_bind fun i_29 e_30 => ?_
          subst e_30
          refine J_g fun h_31 => ?_
          refine J_iald (t := 19) (N := 20) C (Nat.le_of_ble_eq_true rfl) rfl rfl h_31 dX5_bring_87 ?_
          refine J_bind fun i_32 e_33 => ?_
          subst e_33
          refine J_g fun h_34 => ?_
          refine J_iast (t := 19) (N := 20) C (Nat.le_of_ble_eq_true rfl) rfl rfl h_34 dX5_bring_88 fun s_35 => ?_
          refine J_iinc C 3 dX5_bring_89 (zi9 rfl rfl) (Nat.le_of_ble_eq_true rfl) rfl fun x_36 => ?_
          exact hj92 _ _
        · refine J_aload_n C 2 dX5_bring_25 rfl ?_
          refine J_bind fun i_37 e_38 => ?_
          subst e_38
          refine gf_4_0 C dX5_bring_26 q_37 ?_
          refine J_nmR fun r_39 => ?_
          refine J_aload_n C 0 dX5_bring_29 rfl ?_
          refine gf_6_0 C dX5_bring_30 q_63 ?_
          refine J_nmR fun r_40 => ?_
          refine J_iload C 4 dX5_bring_33 rfl ?_
          refine J_bind fun i_41 e_42 => ?_
          subst e_42
          refine J_g fun h_43 => ?_
          refine J_iald (t := 17) (N := 20) C (Nat.le_of_ble_eq_true rfl) rfl rfl h_43 dX5_bring_35 ?_
          refine J_dup2 C dX5_bring_36 ?_
          refine J_bind fun i_44 e_45 => ?_
          subst e_45
          refine J_g fun h_46 => ?_
          refine J_iald (t := 15) (N := 6) C (Nat.le_of_ble_eq_true rfl) rfl rfl h_46 dX5_bring_37 ?_
          refine J_aload_n C 0 dX5_bring_38 rfl ?_
          refine gf_6_1 C dX5_bring_39 q_64 ?_
          refine J_nmR fun r_47 => ?_
          refine J_iload C 4 dX5_bring_42 rfl ?_
          refine J_bind fun i_48 e_49 => ?_
          subst e_49
          refine J_g fun h_50 => ?_
          refine J_iald (t := 18) (N := 20) C (Nat.le_of_ble_eq_true rfl) rfl rfl h_50 dX5_bring_44 ?_
          refine J_iadd C dX5_bring_45 ?_
          refine J_g fun h_51 => ?_
          refine J_iast (t := 15) (N := 6) C (Nat.le_of_ble_eq_true rfl) rfl rfl h_51 dX5_bring_46 fun s_52 => ?_
          refine J_goto C 92 dX5_bring_47 rfl ?_
          exact hj92 _ _
set_option maxHeartbeats 4000000 in
set_option maxRecDepth 20000 in
theorem kX5_bring (nf : Nat) (s0 : zS) (i0 : Nat) (x1 : Int) (r2 : Option Nat) : zCt zw yX5_bring cX5_bring 5 none 0 0 0 0 eV [.inr (6, some i0), .inl x1, .inr (4, r2)] s0 (fX5_bring nf s0 i0 x1 r2) := by
  refine zCt_on (own := RX5) (nm := "bring") rfl rfl (by decide) (Nat.le_of_ble_eq_true rfl) fun K C => ?_
  show zJ zw 5 K _ 0 0 0 [(0, .inr (6, some i0)), (1, .inl x1), (2, .inr (4, r2))] [] s0 (fX5_bring nf s0 i0 x1 r2)
  unfold fX5_bring
  refine J_iconst C dX5_bring_0 (zi9 rfl rfl) ?_
  refine J_istore_n (L' := [(0, .inr (6, some i0)), (1, .inl x1), (2, .inr (4, r2)), (3, .inl 0)]) C dX5_bring_1 (Nat.le_of_ble_eq_true rfl) rfl ?_
  refine J_iconst C dX5_bring_2 (zi9 rfl rfl) ?_
  refine J_istore (L' := [(0, .inr (6, some i0)), (1, .inl x1), (2, .inr (4, r2)), (3, .inl 0), (4, .inl 0)]) C dX5_bring_3 (Nat.le_of_ble_eq_true rfl) rfl ?_
  exact kX5_bring_L5 C _ _ _ _ _ _ _
