def fX3_init (s0 : zS) (i0 : Nat) : Option (Unit × zS) :=
  up_ (sN s0 15) fun (s_1 : zS) => up_ (sR s_1 4 i0 0 (some (gN s0 15))) fun (s_2 : zS) => some ((), s_2)
set_option maxHeartbeats 4000000 in
set_option maxRecDepth 20000 in
theorem kX3_init (s0 : zS) (i0 : Nat) : zCt zw yX3_init cX3_init 1 none 1 12 1 6 eV [.inr (4, some i0)] s0 (fX3_init s0 i0) := by
  refine zCt_on (own := RX3) (nm := "<init>") rfl rfl (by decide) (Nat.le_of_ble_eq_true rfl) fun K C => ?_
  show zJ zw 1 K _ 0 0 0 [(0, .inr (4, some i0))] [] s0 (fX3_init s0 i0)
  unfold fX3_init
  refine J_aload_n C 0 dX3_init_0 rfl ?_
  refine J_objInit C dX3_init_1 q_35 q_22 q_23 (by decide) (Nat.le_of_ble_eq_true rfl) ?_
  refine J_aload_n C 0 dX3_init_4 rfl ?_
  refine J_bipush C dX3_init_5 (zi9 rfl rfl) (by decide) ?_
  refine J_newa (t := 15) (N := 6) C (Nat.le_of_ble_eq_true rfl) rfl rfl rfl (by decide) dX3_init_7 (by decide) q_42 (by decide) (by decide) fun s_1 => ?_
  refine pf_4_0 C ⟨rfl, rfl⟩ dX3_init_9 q_36 fun s_2 => ?_
  exact J_vret C dX3_init_12 (by decide) (by decide)
def fX1_init (s0 : zS) (i0 : Nat) : Option (Unit × zS) :=
  up_ (sN s0 15) fun (s_1 : zS) => up_ (sR s_1 2 i0 0 (some (gN s0 15))) fun (s_2 : zS) => up_ (sN s_2 15) fun (s_3 : zS) => up_ (sR s_3 2 i0 1 (some (gN s_2 15))) fun (s_4 : zS) => some ((), s_4)
set_option maxHeartbeats 4000000 in
set_option maxRecDepth 20000 in
theorem kX1_init (s0 : zS) (i0 : Nat) : zCt zw yX1_init cX1_init 1 none 1 12 2 12 eV [.inr (2, some i0)] s0 (fX1_init s0 i0) := by
  refine zCt_on (own := RX1) (nm := "<init>") rfl rfl (by decide) (Nat.le_of_ble_eq_true rfl) fun K C => ?_
  show zJ zw 1 K _ 0 0 0 [(0, .inr (2, some i0))] [] s0 (fX1_init s0 i0)
  unfold fX1_init
  refine J_aload_n C 0 dX1_init_0 rfl ?_
  refine J_objInit C dX1_init_1 q_48 q_22 q_23 (by decide) (Nat.le_of_ble_eq_true rfl) ?_
  refine J_aload_n C 0 dX1_init_4 rfl ?_
  refine J_bipush C dX1_init_5 (zi9 rfl rfl) (by decide) ?_
  refine J_newa (t := 15) (N := 6) C (Nat.le_of_ble_eq_true rfl) rfl rfl rfl (by decide) dX1_init_7 (by decide) q_42 (by decide) (by decide) fun s_1 => ?_
  refine pf_2_0 C ⟨rfl, rfl⟩ dX1_init_9 q_49 fun s_2 => ?_
  refine J_aload_n C 0 dX1_init_12 rfl ?_
  refine J_bipush C dX1_init_13 (zi9 rfl rfl) (by decide) ?_
  refine J_newa (t := 15) (N := 6) C (Nat.le_of_ble_eq_true rfl) rfl rfl rfl (by decide) dX1_init_15 (by decide) q_42 (by decide) (by decide) fun s_3 => ?_
  refine pf_2_1 C ⟨rfl, rfl⟩ dX1_init_17 q_51 fun s_4 => ?_
  exact J_vret C dX1_init_20 (by decide) (by decide)
def fX5_init (s0 : zS) (i0 : Nat) : Option (Unit × zS) :=
  up_ (sN s0 17) fun (s_1 : zS) => up_ (sR s_1 6 i0 0 (some (gN s0 17))) fun (s_2 : zS) => up_ (sN s_2 18) fun (s_3 : zS) => up_ (sR s_3 6 i0 1 (some (gN s_2 18))) fun (s_4 : zS) => up_ (sN s_4 19) fun (s_5 : zS) => up_ (sR s_5 6 i0 2 (some (gN s_4 19))) fun (s_6 : zS) => some ((), s_6)
set_option maxHeartbeats 4000000 in
set_option maxRecDepth 20000 in
theorem kX5_init (s0 : zS) (i0 : Nat) : zCt zw yX5_init cX5_init 1 none 1 12 3 60 eV [.inr (6, some i0)] s0 (fX5_init s0 i0) := by
  refine zCt_on (own := RX5) (nm := "<init>") rfl rfl (by decide) (Nat.le_of_ble_eq_true rfl) fun K C => ?_
  show zJ zw 1 K _ 0 0 0 [(0, .inr (6, some i0))] [] s0 (fX5_init s0 i0)
  unfold fX5_init
  refine J_aload_n C 0 dX5_init_0 rfl ?_
  refine J_objInit C dX5_init_1 q_62 q_22 q_23 (by decide) (Nat.le_of_ble_eq_true rfl) ?_
  refine J_aload_n C 0 dX5_init_4 rfl ?_
  refine J_bipush C dX5_init_5 (zi9 rfl rfl) (by decide) ?_
  refine J_newa (t := 17) (N := 20) C (Nat.le_of_ble_eq_true rfl) rfl rfl rfl (by decide) dX5_init_7 (by decide) q_42 (by decide) (by decide) fun s_1 => ?_
  refine pf_6_0 C ⟨rfl, rfl⟩ dX5_init_9 q_63 fun s_2 => ?_
  refine J_aload_n C 0 dX5_init_12 rfl ?_
  refine J_bipush C dX5_init_13 (zi9 rfl rfl) (by decide) ?_
  refine J_newa (t := 18) (N := 20) C (Nat.le_of_ble_eq_true rfl) rfl rfl rfl (by decide) dX5_init_15 (by decide) q_42 (by decide) (by decide) fun s_3 => ?_
  refine pf_6_1 C ⟨rfl, rfl⟩ dX5_init_17 q_64 fun s_4 => ?_
  refine J_aload_n C 0 dX5_init_20 rfl ?_
  refine J_bipush C dX5_init_21 (zi9 rfl rfl) (by decide) ?_
  refine J_newa (t := 19) (N := 20) C (Nat.le_of_ble_eq_true rfl) rfl rfl rfl (by decide) dX5_init_23 (by decide) q_42 (by decide) (by decide) fun s_5 => ?_
  refine pf_6_2 C ⟨rfl, rfl⟩ dX5_init_25 q_65 fun s_6 => ?_
  exact J_vret C dX5_init_28 (by decide) (by decide)
def fX0_init (s0 : zS) (i0 : Nat) : Option (Unit × zS) :=
  up_ (sN s0 20) fun (s_1 : zS) => up_ (sR s_1 1 i0 0 (some (gN s0 20))) fun (s_2 : zS) => up_ (sN s_2 21) fun (s_3 : zS) => up_ (sR s_3 1 i0 1 (some (gN s_2 21))) fun (s_4 : zS) => some ((), s_4)
set_option maxHeartbeats 4000000 in
set_option maxRecDepth 20000 in
theorem kX0_init (s0 : zS) (i0 : Nat) : zCt zw yX0_init cX0_init 1 none 1 12 2 600 eV [.inr (1, some i0)] s0 (fX0_init s0 i0) := by
  refine zCt_on (own := RX0) (nm := "<init>") rfl rfl (by decide) (Nat.le_of_ble_eq_true rfl) fun K C => ?_
  show zJ zw 1 K _ 0 0 0 [(0, .inr (1, some i0))] [] s0 (fX0_init s0 i0)
  unfold fX0_init
  refine J_aload_n C 0 dX0_init_0 rfl ?_
  refine J_objInit C dX0_init_1 q_82 q_22 q_23 (by decide) (Nat.le_of_ble_eq_true rfl) ?_
  refine J_aload_n C 0 dX0_init_4 rfl ?_
  refine J_sipush C dX0_init_5 (zi9 rfl rfl) (by decide) ?_
  refine J_newa (t := 20) (N := 300) C (Nat.le_of_ble_eq_true rfl) rfl rfl rfl (by decide) dX0_init_8 (by decide) q_42 (by decide) (by decide) fun s_1 => ?_
  refine pf_1_0 C ⟨rfl, rfl⟩ dX0_init_10 q_83 fun s_2 => ?_
  refine J_aload_n C 0 dX0_init_13 rfl ?_
  refine J_sipush C dX0_init_14 (zi9 rfl rfl) (by decide) ?_
  refine J_newa (t := 21) (N := 300) C (Nat.le_of_ble_eq_true rfl) rfl rfl rfl (by decide) dX0_init_17 (by decide) q_42 (by decide) (by decide) fun s_3 => ?_
  refine pf_1_1 C ⟨rfl, rfl⟩ dX0_init_19 q_84 fun s_4 => ?_
  exact J_vret C dX0_init_22 (by decide) (by decide)
def fX6_init (s0 : zS) (i0 : Nat) : Option (Unit × zS) :=
  up_ (sN s0 22) fun (s_1 : zS) => up_ (sR s_1 7 i0 0 (some (gN s0 22))) fun (s_2 : zS) => up_ (sN s_2 23) fun (s_3 : zS) => up_ (sR s_3 7 i0 1 (some (gN s_2 23))) fun (s_4 : zS) => up_ (sN s_4 24) fun (s_5 : zS) => up_ (sR s_5 7 i0 3 (some (gN s_4 24))) fun (s_6 : zS) => up_ (sN s_6 25) fun (s_7 : zS) => up_ (sR s_7 7 i0 5 (some (gN s_6 25))) fun (s_8 : zS) => up_ (sN s_8 28) fun (s_9 : zS) => up_ (sR s_9 7 i0 6 (some (gN s_8 28))) fun (s_10 : zS) => up_ (sN s_10 26) fun (s_11 : zS) => up_ (sR s_11 7 i0 7 (some (gN s_10 26))) fun (s_12 : zS) => up_ (sN s_12 27) fun (s_13 : zS) => up_ (sR s_13 7 i0 8 (some (gN s_12 27))) fun (s_14 : zS) => some ((), s_14)
set_option maxHeartbeats 4000000 in
set_option maxRecDepth 20000 in
theorem kX6_init (s0 : zS) (i0 : Nat) : zCt zw yX6_init cX6_init 1 none 1 12 7 38 eV [.inr (7, some i0)] s0 (fX6_init s0 i0) := by
  refine zCt_on (own := RX6) (nm := "<init>") rfl rfl (by decide) (Nat.le_of_ble_eq_true rfl) fun K C => ?_
  show zJ zw 1 K _ 0 0 0 [(0, .inr (7, some i0))] [] s0 (fX6_init s0 i0)
  unfold fX6_init
  refine J_aload_n C 0 dX6_init_0 rfl ?_
  refine J_objInit C dX6_init_1 q_102 q_22 q_23 (by decide) (Nat.le_of_ble_eq_true rfl) ?_
  refine J_aload_n C 0 dX6_init_4 rfl ?_
  refine J_iconst C dX6_init_5 (zi9 rfl rfl) ?_
  refine J_newa (t := 22) (N := 4) C (Nat.le_of_ble_eq_true rfl) rfl rfl rfl (by decide) dX6_init_6 (by decide) q_42 (by decide) (by decide) fun s_1 => ?_
  refine pf_7_0 C ⟨rfl, rfl⟩ dX6_init_8 q_103 fun s_2 => ?_
  refine J_aload_n C 0 dX6_init_11 rfl ?_
  refine J_iconst C dX6_init_12 (zi9 rfl rfl) ?_
  refine J_newa (t := 23) (N := 4) C (Nat.le_of_ble_eq_true rfl) rfl rfl rfl (by decide) dX6_init_13 (by decide) q_42 (by decide) (by decide) fun s_3 => ?_
  refine pf_7_1 C ⟨rfl, rfl⟩ dX6_init_15 q_104 fun s_4 => ?_
  refine J_aload_n C 0 dX6_init_18 rfl ?_
  refine J_bipush C dX6_init_19 (zi9 rfl rfl) (by decide) ?_
  refine J_newa (t := 24) (N := 6) C (Nat.le_of_ble_eq_true rfl) rfl rfl rfl (by decide) dX6_init_21 (by decide) q_42 (by decide) (by decide) fun s_5 => ?_
  refine pf_7_3 C ⟨rfl, rfl⟩ dX6_init_23 q_106 fun s_6 => ?_
  refine J_aload_n C 0 dX6_init_26 rfl ?_
  refine J_bipush C dX6_init_27 (zi9 rfl rfl) (by decide) ?_
  refine J_newa (t := 25) (N := 6) C (Nat.le_of_ble_eq_true rfl) rfl rfl rfl (by decide) dX6_init_29 (by decide) q_42 (by decide) (by decide) fun s_7 => ?_
  refine pf_7_5 C ⟨rfl, rfl⟩ dX6_init_31 q_108 fun s_8 => ?_
  refine J_aload_n C 0 dX6_init_34 rfl ?_
  refine J_bipush C dX6_init_35 (zi9 rfl rfl) (by decide) ?_
  refine J_newa (t := 28) (N := 6) C (Nat.le_of_ble_eq_true rfl) rfl rfl rfl (by decide) dX6_init_37 (by decide) q_134 (by decide) (by decide) fun s_9 => ?_
  refine pf_7_6 C ⟨rfl, rfl⟩ dX6_init_39 q_109 fun s_10 => ?_
  refine J_aload_n C 0 dX6_init_42 rfl ?_
  refine J_bipush C dX6_init_43 (zi9 rfl rfl) (by decide) ?_
  refine J_newa (t := 26) (N := 6) C (Nat.le_of_ble_eq_true rfl) rfl rfl rfl (by decide) dX6_init_45 (by decide) q_42 (by decide) (by decide) fun s_11 => ?_
  refine pf_7_7 C ⟨rfl, rfl⟩ dX6_init_47 q_110 fun s_12 => ?_
  refine J_aload_n C 0 dX6_init_50 rfl ?_
  refine J_bipush C dX6_init_51 (zi9 rfl rfl) (by decide) ?_
  refine J_newa (t := 27) (N := 6) C (Nat.le_of_ble_eq_true rfl) rfl rfl rfl (by decide) dX6_init_53 (by decide) q_42 (by decide) (by decide) fun s_13 => ?_
  refine pf_7_8 C ⟨rfl, rfl⟩ dX6_init_55 q_111 fun s_14 => ?_
  exact J_vret C dX6_init_58 (by decide) (by decide)
def fX9_init (s0 : zS) (i0 : Nat) : Option (Unit × zS) :=
  up_ (sI s0 10 i0 0 (-1000)) fun (s_1 : zS) => some ((), s_1)
set_option maxHeartbeats 4000000 in
set_option maxRecDepth 20000 in
theorem kX9_init (s0 : zS) (i0 : Nat) : zCt zw yX9_init cX9_init 1 none 1 12 0 0 eV [.inr (10, some i0)] s0 (fX9_init s0 i0) := by
  refine zCt_on (own := RX9) (nm := "<init>") rfl rfl (by decide) (Nat.le_of_ble_eq_true rfl) fun K C => ?_
  show zJ zw 1 K _ 0 0 0 [(0, .inr (10, some i0))] [] s0 (fX9_init s0 i0)
  unfold fX9_init
  refine J_aload_n C 0 dX9_init_0 rfl ?_
  refine J_objInit C dX9_init_1 q_145 q_22 q_23 (by decide) (Nat.le_of_ble_eq_true rfl) ?_
  refine J_aload_n C 0 dX9_init_4 rfl ?_
  refine J_sipush C dX9_init_5 (zi9 rfl rfl) (by decide) ?_
  refine pf_10_0 C dX9_init_8 q_146 fun s_1 => ?_
  exact J_vret C dX9_init_11 (by decide) (by decide)
def fX8_init (s0 : zS) (i0 : Nat) : Option (Unit × zS) :=
  up_ (sI s0 9 i0 2 (-9)) fun (s_1 : zS) => some ((), s_1)
set_option maxHeartbeats 4000000 in
set_option maxRecDepth 20000 in
theorem kX8_init (s0 : zS) (i0 : Nat) : zCt zw yX8_init cX8_init 1 none 1 12 0 0 eV [.inr (9, some i0)] s0 (fX8_init s0 i0) := by
  refine zCt_on (own := RX8) (nm := "<init>") rfl rfl (by decide) (Nat.le_of_ble_eq_true rfl) fun K C => ?_
  show zJ zw 1 K _ 0 0 0 [(0, .inr (9, some i0))] [] s0 (fX8_init s0 i0)
  unfold fX8_init
  refine J_aload_n C 0 dX8_init_0 rfl ?_
  refine J_objInit C dX8_init_1 q_171 q_22 q_23 (by decide) (Nat.le_of_ble_eq_true rfl) ?_
  refine J_aload_n C 0 dX8_init_4 rfl ?_
  refine J_bipush C dX8_init_5 (zi9 rfl rfl) (by decide) ?_
  refine pf_9_2 C dX8_init_7 q_176 fun s_1 => ?_
  exact J_vret C dX8_init_10 (by decide) (by decide)
def fX7_init (s0 : zS) (i0 : Nat) (x1 : Int) (r2 : Option Nat) (x3 : Int) : Option (Unit × zS) :=
  up_ (sI s0 8 i0 6 1) fun (s_1 : zS) => up_ (sN s_1 10) fun (s_2 : zS) => cl_ (fX9_init s_2 (gN s_1 10)) fun (_ : Unit) (s_3 : zS) => up_ (sR s_3 8 i0 7 (some (gN s_1 10))) fun (s_4 : zS) => up_ (sN s_4 10) fun (s_5 : zS) => cl_ (fX9_init s_5 (gN s_4 10)) fun (_ : Unit) (s_6 : zS) => up_ (sR s_6 8 i0 8 (some (gN s_4 10))) fun (s_7 : zS) => up_ (sI s_7 8 i0 9 0) fun (s_8 : zS) => up_ (sN s_8 16) fun (s_9 : zS) => up_ (sR s_9 8 i0 14 (some (gN s_8 16))) fun (s_10 : zS) => up_ (sN s_10 9) fun (s_11 : zS) => cl_ (fX8_init s_11 (gN s_10 9)) fun (_ : Unit) (s_12 : zS) => up_ (sR s_12 8 i0 15 (some (gN s_10 9))) fun (s_13 : zS) => up_ (sI s_13 8 i0 0 x1) fun (s_14 : zS) => up_ (sR s_14 8 i0 1 r2) fun (s_15 : zS) => up_ (sI s_15 8 i0 2 x3) fun (s_16 : zS) => some ((), s_16)
set_option maxHeartbeats 4000000 in
set_option maxRecDepth 20000 in
theorem kX7_init (s0 : zS) (i0 : Nat) (x1 : Int) (r2 : Option Nat) (x3 : Int) : zCt zw yX7_init cX7_init 4 none 2 32 4 21 eV [.inr (8, some i0), .inl x1, .inr (8, r2), .inl x3] s0 (fX7_init s0 i0 x1 r2 x3) := by
  refine zCt_on (own := RX7) (nm := "<init>") rfl rfl (by decide) (Nat.le_of_ble_eq_true rfl) fun K C => ?_
  show zJ zw 4 K _ 0 0 0 [(0, .inr (8, some i0)), (1, .inl x1), (2, .inr (8, r2)), (3, .inl x3)] [] s0 (fX7_init s0 i0 x1 r2 x3)
  unfold fX7_init
  refine J_aload_n C 0 dX7_init_0 rfl ?_
  refine J_objInit C dX7_init_1 q_139 q_22 q_23 (by decide) (Nat.le_of_ble_eq_true rfl) ?_
  refine J_aload_n C 0 dX7_init_4 rfl ?_
  refine J_iconst C dX7_init_5 (zi9 rfl rfl) ?_
  refine pf_8_6 C (by decide) dX7_init_6 q_205 fun s_1 => ?_
  refine J_aload_n C 0 dX7_init_9 rfl ?_
  refine J_new C zx10 dX7_init_10 q_140 q_141 q_8 (by decide) (by decide) (by decide) fun s_2 => ?_
  refine J_dup C dX7_init_13 ?_
  refine J_callNV (S := [.inr (10, some (gN s_1 10)), .inr (8, some i0)]) (avs := []) C yw_1 (kX9_init _ _) dX7_init_14 rfl (Nat.le_of_ble_eq_true rfl) (by decide) fun _ s_3 => ?_
  refine pf_8_7 C ⟨rfl, rfl⟩ dX7_init_17 q_207 fun s_4 => ?_
  refine J_aload_n C 0 dX7_init_20 rfl ?_
  refine J_new C zx10 dX7_init_21 q_140 q_141 q_8 (by decide) (by decide) (by decide) fun s_5 => ?_
  refine J_dup C dX7_init_24 ?_
  refine J_callNV (S := [.inr (10, some (gN s_4 10)), .inr (8, some i0)]) (avs := []) C yw_1 (kX9_init _ _) dX7_init_25 rfl (Nat.le_of_ble_eq_true rfl) (by decide) fun _ s_6 => ?_
  refine pf_8_8 C ⟨rfl, rfl⟩ dX7_init_28 q_209 fun s_7 => ?_
  refine J_aload_n C 0 dX7_init_31 rfl ?_
  refine J_iconst C dX7_init_32 (zi9 rfl rfl) ?_
  refine pf_8_9 C dX7_init_33 q_211 fun s_8 => ?_
  refine J_aload_n C 0 dX7_init_36 rfl ?_
  refine J_bipush C dX7_init_37 (zi9 rfl rfl) (by decide) ?_
  refine J_newa (t := 16) (N := 6) C (Nat.le_of_ble_eq_true rfl) rfl rfl rfl (by decide) dX7_init_39 (by decide) q_42 (by decide) (by decide) fun s_9 => ?_
  refine pf_8_14 C ⟨rfl, rfl⟩ dX7_init_41 q_219 fun s_10 => ?_
  refine J_aload_n C 0 dX7_init_44 rfl ?_
  refine J_new C zx9 dX7_init_45 q_166 q_167 q_9 (by decide) (by decide) (by decide) fun s_11 => ?_
  refine J_dup C dX7_init_48 ?_
  refine J_callNV (S := [.inr (9, some (gN s_10 9)), .inr (8, some i0)]) (avs := []) C yw_0 (kX8_init _ _) dX7_init_49 rfl (Nat.le_of_ble_eq_true rfl) (by decide) fun _ s_12 => ?_
  refine pf_8_15 C ⟨rfl, rfl⟩ dX7_init_52 q_221 fun s_13 => ?_
  refine J_aload_n C 0 dX7_init_55 rfl ?_
  refine J_iload_n C 1 dX7_init_56 rfl ?_
  refine pf_8_0 C ⟨rfl, rfl⟩ dX7_init_57 q_193 fun s_14 => ?_
  refine J_aload_n C 0 dX7_init_60 rfl ?_
  refine J_aload_n C 2 dX7_init_61 rfl ?_
  refine pf_8_1 C ⟨rfl, rfl⟩ dX7_init_62 q_196 fun s_15 => ?_
  refine J_aload_n C 0 dX7_init_65 rfl ?_
  refine J_iload_n C 3 dX7_init_66 rfl ?_
  refine pf_8_2 C ⟨rfl, rfl⟩ dX7_init_67 q_198 fun s_16 => ?_
  exact J_vret C dX7_init_70 (by decide) (by decide)
def fX10_init (s0 : zS) (i0 : Nat) : Option (Unit × zS) :=
  up_ (sN s0 11) fun (s_1 : zS) => up_ (sR s_1 0 i0 0 (some (gN s0 11))) fun (s_2 : zS) => up_ (sN s_2 12) fun (s_3 : zS) => up_ (sR s_3 0 i0 1 (some (gN s_2 12))) fun (s_4 : zS) => up_ (sN s_4 13) fun (s_5 : zS) => up_ (sR s_5 0 i0 2 (some (gN s_4 13))) fun (s_6 : zS) => up_ (sN s_6 14) fun (s_7 : zS) => up_ (sR s_7 0 i0 3 (some (gN s_6 14))) fun (s_8 : zS) => up_ (sN s_8 4) fun (s_9 : zS) => cl_ (fX3_init s_9 (gN s_8 4)) fun (_ : Unit) (s_10 : zS) => up_ (sR s_10 0 i0 4 (some (gN s_8 4))) fun (s_11 : zS) => up_ (sN s_11 2) fun (s_12 : zS) => cl_ (fX1_init s_12 (gN s_11 2)) fun (_ : Unit) (s_13 : zS) => up_ (sR s_13 0 i0 5 (some (gN s_11 2))) fun (s_14 : zS) => up_ (sN s_14 6) fun (s_15 : zS) => cl_ (fX5_init s_15 (gN s_14 6)) fun (_ : Unit) (s_16 : zS) => up_ (sR s_16 0 i0 6 (some (gN s_14 6))) fun (s_17 : zS) => up_ (sN s_17 1) fun (s_18 : zS) => cl_ (fX0_init s_18 (gN s_17 1)) fun (_ : Unit) (s_19 : zS) => up_ (sR s_19 0 i0 7 (some (gN s_17 1))) fun (s_20 : zS) => up_ (sN s_20 7) fun (s_21 : zS) => cl_ (fX6_init s_21 (gN s_20 7)) fun (_ : Unit) (s_22 : zS) => up_ (sR s_22 0 i0 8 (some (gN s_20 7))) fun (s_23 : zS) => up_ (sN s_23 8) fun (s_24 : zS) => cl_ (fX7_init s_24 (gN s_23 8) 0 none 0) fun (_ : Unit) (s_25 : zS) => up_ (sR s_25 0 i0 9 (some (gN s_23 8))) fun (s_26 : zS) => nm_ (gR s_26 0 i0 0) fun (r_27 : Option Nat) => nm_ (gR s_26 0 i0 9) fun (r_28 : Option Nat) => Option.bind r_28 fun i_29 => Option.bind r_27 fun i_31 => g_ ((0 : Int) ≤ 0 ∧ (0 : Int) < 16) (up_ (sR s_26 11 i_31 (Int.toNat (0)) (some i_29)) fun (s_34 : zS) => up_ (sI s_34 0 i0 10 1) fun (s_35 : zS) => some ((), s_35))
set_option maxHeartbeats 4000000 in
set_option maxRecDepth 20000 in
theorem kX10_init (s0 : zS) (i0 : Nat) : zCt zw yX10_init cX10_init 1 none 3 55 29 842 eV [.inr (0, some i0)] s0 (fX10_init s0 i0) := by
  refine zCt_on (own := RX10) (nm := "<init>") rfl rfl (by decide) (Nat.le_of_ble_eq_true rfl) fun K C => ?_
  show zJ zw 1 K _ 0 0 0 [(0, .inr (0, some i0))] [] s0 (fX10_init s0 i0)
  unfold fX10_init
  refine J_aload_n C 0 dX10_init_0 rfl ?_
  refine J_objInit C dX10_init_1 q_21 q_22 q_23 (by decide) (Nat.le_of_ble_eq_true rfl) ?_
  refine J_aload_n C 0 dX10_init_4 rfl ?_
  refine J_bipush C dX10_init_5 (zi9 rfl rfl) (by decide) ?_
  refine J_newq (t := 11) (a := 2) (N := 16) (u := 8) C (Nat.le_of_ble_eq_true rfl) rfl rfl rfl (by decide) dX10_init_7 (fun _ => rfl) q_24 qn_25 (by decide) (by decide) fun s_1 => ?_
  refine pf_0_0 C ⟨rfl, rfl⟩ dX10_init_10 q_256 fun s_2 => ?_
  refine J_aload_n C 0 dX10_init_13 rfl ?_
  refine J_bipush C dX10_init_14 (zi9 rfl rfl) (by decide) ?_
  refine J_newq (t := 12) (a := 3) (N := 24) (u := 5) C (Nat.le_of_ble_eq_true rfl) rfl rfl rfl (by decide) dX10_init_16 (fun _ => rfl) q_26 qn_27 (by decide) (by decide) fun s_3 => ?_
  refine pf_0_1 C ⟨rfl, rfl⟩ dX10_init_19 q_257 fun s_4 => ?_
  refine J_aload_n C 0 dX10_init_22 rfl ?_
  refine J_iconst C dX10_init_23 (zi9 rfl rfl) ?_
  refine J_newq (t := 13) (a := 4) (N := 4) (u := 3) C (Nat.le_of_ble_eq_true rfl) rfl rfl rfl (by decide) dX10_init_24 (fun _ => rfl) q_28 qn_29 (by decide) (by decide) fun s_5 => ?_
  refine pf_0_2 C ⟨rfl, rfl⟩ dX10_init_27 q_258 fun s_6 => ?_
  refine J_aload_n C 0 dX10_init_30 rfl ?_
  refine J_bipush C dX10_init_31 (zi9 rfl rfl) (by decide) ?_
  refine J_newq (t := 14) (a := 3) (N := 24) (u := 5) C (Nat.le_of_ble_eq_true rfl) rfl rfl rfl (by decide) dX10_init_33 (fun _ => rfl) q_26 qn_27 (by decide) (by decide) fun s_7 => ?_
  refine pf_0_3 C ⟨rfl, rfl⟩ dX10_init_36 q_259 fun s_8 => ?_
  refine J_aload_n C 0 dX10_init_39 rfl ?_
  refine J_new C zx4 dX10_init_40 q_30 q_31 q_2 (by decide) (by decide) (by decide) fun s_9 => ?_
  refine J_dup C dX10_init_43 ?_
  refine J_callNV (S := [.inr (4, some (gN s_8 4)), .inr (0, some i0)]) (avs := []) C yw_7 (kX3_init _ _) dX10_init_44 rfl (Nat.le_of_ble_eq_true rfl) (by decide) fun _ s_10 => ?_
  refine pf_0_4 C ⟨rfl, rfl⟩ dX10_init_47 q_260 fun s_11 => ?_
  refine J_aload_n C 0 dX10_init_50 rfl ?_
  refine J_new C zx2 dX10_init_51 q_43 q_44 q_3 (by decide) (by decide) (by decide) fun s_12 => ?_
  refine J_dup C dX10_init_54 ?_
  refine J_callNV (S := [.inr (2, some (gN s_11 2)), .inr (0, some i0)]) (avs := []) C yw_6 (kX1_init _ _) dX10_init_55 rfl (Nat.le_of_ble_eq_true rfl) (by decide) fun _ s_13 => ?_
  refine pf_0_5 C ⟨rfl, rfl⟩ dX10_init_58 q_261 fun s_14 => ?_
  refine J_aload_n C 0 dX10_init_61 rfl ?_
  refine J_new C zx6 dX10_init_62 q_57 q_58 q_4 (by decide) (by decide) (by decide) fun s_15 => ?_
  refine J_dup C dX10_init_65 ?_
  refine J_callNV (S := [.inr (6, some (gN s_14 6)), .inr (0, some i0)]) (avs := []) C yw_5 (kX5_init _ _) dX10_init_66 rfl (Nat.le_of_ble_eq_true rfl) (by decide) fun _ s_16 => ?_
  refine pf_0_6 C ⟨rfl, rfl⟩ dX10_init_69 q_262 fun s_17 => ?_
  refine J_aload_n C 0 dX10_init_72 rfl ?_
  refine J_new C zx1 dX10_init_73 q_77 q_78 q_5 (by decide) (by decide) (by decide) fun s_18 => ?_
  refine J_dup C dX10_init_76 ?_
  refine J_callNV (S := [.inr (1, some (gN s_17 1)), .inr (0, some i0)]) (avs := []) C yw_4 (kX0_init _ _) dX10_init_77 rfl (Nat.le_of_ble_eq_true rfl) (by decide) fun _ s_19 => ?_
  refine pf_0_7 C ⟨rfl, rfl⟩ dX10_init_80 q_263 fun s_20 => ?_
  refine J_aload_n C 0 dX10_init_83 rfl ?_
  refine J_new C zx7 dX10_init_84 q_97 q_98 q_6 (by decide) (by decide) (by decide) fun s_21 => ?_
  refine J_dup C dX10_init_87 ?_
  refine J_callNV (S := [.inr (7, some (gN s_20 7)), .inr (0, some i0)]) (avs := []) C yw_3 (kX6_init _ _) dX10_init_88 rfl (Nat.le_of_ble_eq_true rfl) (by decide) fun _ s_22 => ?_
  refine pf_0_8 C ⟨rfl, rfl⟩ dX10_init_91 q_264 fun s_23 => ?_
  refine J_aload_n C 0 dX10_init_94 rfl ?_
  refine J_new C zx8 dX10_init_95 q_24 q_135 q_7 (by decide) (by decide) (by decide) fun s_24 => ?_
  refine J_dup C dX10_init_98 ?_
  refine J_iconst C dX10_init_99 (zi9 rfl rfl) ?_
  refine J_null 8 C dX10_init_100 ?_
  refine J_iconst C dX10_init_101 (zi9 rfl rfl) ?_
  refine J_callIV (S := [.inr (8, some (gN s_23 8)), .inr (0, some i0)]) (avs := [.inl 0, .inr (8, none), .inl 0]) C yw_2 (kX7_init _ _ _ _ _) dX10_init_102 rfl (Nat.le_of_ble_eq_true rfl) (by decide) fun _ s_25 => ?_
  refine pf_0_9 C ⟨rfl, rfl⟩ dX10_init_105 q_265 fun s_26 => ?_
  refine J_aload_n C 0 dX10_init_108 rfl ?_
  refine gf_0_0 C dX10_init_109 q_256 ?_
  refine J_nmR fun r_27 => ?_
  refine J_iconst C dX10_init_112 (zi9 rfl rfl) ?_
  refine J_aload_n C 0 dX10_init_113 rfl ?_
  refine gf_0_9 C dX10_init_114 q_265 ?_
  refine J_nmR fun r_28 => ?_
  refine J_bind fun i_29 e_30 => ?_
  subst e_30
  refine J_bind fun i_31 e_32 => ?_
  subst e_32
  refine J_g fun h_33 => ?_
  refine J_aast (t := 11) (N := 16) (u := 8) (a := 2) C zx8 (Nat.le_of_ble_eq_true rfl) rfl rfl (fun _ => rfl) h_33 dX10_init_117 fun s_34 => ?_
  refine J_aload_n C 0 dX10_init_118 rfl ?_
  refine J_iconst C dX10_init_119 (zi9 rfl rfl) ?_
  refine pf_0_10 C dX10_init_120 q_266 fun s_35 => ?_
  exact J_vret C dX10_init_123 (by decide) (by decide)
def fX10_findPost (s0 : zS) (i0 : Nat) (x1 : Int) : Option (Option Nat × zS) :=
  if x1 < 0 then (some (none, s0)) else (if x1 < gI s0 0 i0 10 then (nm_ (gR s0 0 i0 0) fun (r_1 : Option Nat) => Option.bind r_1 fun i_2 => g_ ((0 : Int) ≤ x1 ∧ (x1 : Int) < 16) (nm_ (gR s0 11 i_2 (Int.toNat (x1))) fun (r_5 : Option Nat) => some (r_5, s0))) else (some (none, s0)))
set_option maxHeartbeats 4000000 in
set_option maxRecDepth 20000 in
theorem kX10_findPost (s0 : zS) (i0 : Nat) (x1 : Int) : zCt zw yX10_findPost cX10_findPost 2 (some (.object "FlyingChange$Post")) 0 0 0 0 (eR 8) [.inr (0, some i0), .inl x1] s0 (fX10_findPost s0 i0 x1) := by
  refine zCt_on (own := RX10) (nm := "findPost") rfl rfl (by decide) (Nat.le_of_ble_eq_true rfl) fun K C => ?_
  show zJ zw 2 K _ 0 0 0 [(0, .inr (0, some i0)), (1, .inl x1)] [] s0 (fX10_findPost s0 i0 x1)
  unfold fX10_findPost
  refine J_iload_n C 1 dX10_findPost_0 rfl ?_
  refine J_if_lt C 12 dX10_findPost_1 rfl (fun _ => ?_) (fun _ => ?_)
  · refine J_null 8 C dX10_findPost_12 ?_
    refine J_goto C 22 dX10_findPost_13 rfl ?_
    exact J_aret C rfl dX10_findPost_22 (by decide) (by decide)
  · refine J_iload_n C 1 dX10_findPost_4 rfl ?_
    refine J_aload_n C 0 dX10_findPost_5 rfl ?_
    refine gf_0_10 C dX10_findPost_6 q_266 ?_
    refine J_ic_lt C 16 dX10_findPost_9 rfl (fun _ => ?_) (fun _ => ?_)
    · refine J_aload_n C 0 dX10_findPost_16 rfl ?_
      refine gf_0_0 C dX10_findPost_17 q_256 ?_
      refine J_nmR fun r_1 => ?_
      refine J_iload_n C 1 dX10_findPost_20 rfl ?_
      refine J_bind fun i_2 e_3 => ?_
      subst e_3
      refine J_g fun h_4 => ?_
      refine J_aald (t := 11) (N := 16) (u := 8) (a := 2) C (Nat.le_of_ble_eq_true rfl) rfl rfl (fun _ => rfl) h_4 dX10_findPost_21 ?_
      refine J_nmR fun r_5 => ?_
      exact J_aret C rfl dX10_findPost_22 (by decide) (by decide)
    · refine J_null 8 C dX10_findPost_12 ?_
      refine J_goto C 22 dX10_findPost_13 rfl ?_
      exact J_aret C rfl dX10_findPost_22 (by decide) (by decide)
def fX10_within (s0 : zS) (x0 : Int) (x1 : Int) (x2 : Int) : Option (Int × zS) :=
  if x0 < x1 then (some (0, s0)) else (if x2 < x0 then (some (0, s0)) else (some (1, s0)))
set_option maxHeartbeats 4000000 in
set_option maxRecDepth 20000 in
theorem kX10_within (s0 : zS) (x0 : Int) (x1 : Int) (x2 : Int) : zCt zw yX10_within cX10_within 3 (some .boolean) 0 0 0 0 eI [.inl x0, .inl x1, .inl x2] s0 (fX10_within s0 x0 x1 x2) := by
  refine zCt_on (own := RX10) (nm := "within") rfl rfl (by decide) (Nat.le_of_ble_eq_true rfl) fun K C => ?_
  show zJ zw 3 K _ 0 0 0 [(0, .inl x0), (1, .inl x1), (2, .inl x2)] [] s0 (fX10_within s0 x0 x1 x2)
  unfold fX10_within
  refine J_iload_n C 0 dX10_within_0 rfl ?_
  refine J_iload_n C 1 dX10_within_1 rfl ?_
  refine J_ic_lt C 14 dX10_within_2 rfl (fun _ => ?_) (fun _ => ?_)
  · refine J_iconst C dX10_within_14 (zi9 rfl rfl) ?_
    exact J_zret C (by decide) dX10_within_15 (by decide) (by decide)
  · refine J_iload_n C 0 dX10_within_5 rfl ?_
    refine J_iload_n C 2 dX10_within_6 rfl ?_
    refine J_ic_gt C 14 dX10_within_7 rfl (fun _ => ?_) (fun _ => ?_)
    · refine J_iconst C dX10_within_14 (zi9 rfl rfl) ?_
      exact J_zret C (by decide) dX10_within_15 (by decide) (by decide)
    · refine J_iconst C dX10_within_10 (zi9 rfl rfl) ?_
      refine J_goto C 15 dX10_within_11 rfl ?_
      exact J_zret C (by decide) dX10_within_15 (by decide) (by decide)
def fX10_post (s0 : zS) (i0 : Nat) (x1 : Int) (x2 : Int) (x3 : Int) (x4 : Int) (x5 : Int) : Option (Int × zS) :=
  cl_ (fX10_findPost s0 i0 x1) fun (r_2 : Option Nat) (s_1 : zS) => Option.elim r_2 (some ((-1), s_1)) fun i_3 => cl_ (fX10_within s_1 x3 1 20) fun (x_6 : Int) (s_5 : zS) => if x_6 = 0 then (some ((-2), s_5)) else (cl_ (fX10_within s_5 x4 1 10) fun (x_8 : Int) (s_7 : zS) => if x_8 = 0 then (some ((-2), s_7)) else (if gI s_7 8 i_3 2 = 2 then (some ((-3), s_7)) else (if gI s_7 0 i0 10 < 16 then (up_ (sN s_7 8) fun (s_9 : zS) => nm_ (fun (s_10 : zS) (u_11 : Int) => cl_ (fX7_init s_10 (gN s_7 8) (gI s_9 0 i0 10) (some i_3) u_11) fun (_ : Unit) (s_12 : zS) => up_ (sI s_12 8 (gN s_7 8) 3 x3) fun (s_13 : zS) => up_ (sI s_13 8 (gN s_7 8) 4 x4) fun (s_14 : zS) => g_ (x5 = 0 ∨ x5 = 1) (up_ (sI s_14 8 (gN s_7 8) 5 x5) fun (s_15 : zS) => nm_ (gR s_15 0 i0 0) fun (r_16 : Option Nat) => Option.bind r_16 fun i_17 => g_ ((0 : Int) ≤ gI s_15 0 i0 10 ∧ (gI s_15 0 i0 10 : Int) < 16) (up_ (sR s_15 11 i_17 (Int.toNat (gI s_15 0 i0 10)) (some (gN s_7 8))) fun (s_20 : zS) => up_ (sI s_20 0 i0 10 (wr ((gI s_20 0 i0 10) + 1))) fun (s_21 : zS) => some (gI s_21 8 (gN s_7 8) 0, s_21)))) fun (j81 : zS → Int → Option (Int × zS)) => if x2 = 0 then (j81 s_9 1) else (j81 s_9 2)) else (some ((-4), s_7)))))
set_option maxHeartbeats 4000000 in
set_option maxRecDepth 20000 in
theorem kX10_post (s0 : zS) (i0 : Nat) (x1 : Int) (x2 : Int) (x3 : Int) (x4 : Int) (x5 : Int) : zCt zw yX10_post cX10_post 8 (some .int) 3 55 5 37 eI [.inr (0, some i0), .inl x1, .inl x2, .inl x3, .inl x4, .inl x5] s0 (fX10_post s0 i0 x1 x2 x3 x4 x5) := by
  refine zCt_on (own := RX10) (nm := "post") rfl rfl (by decide) (Nat.le_of_ble_eq_true rfl) fun K C => ?_
  show zJ zw 8 K _ 0 0 0 [(0, .inr (0, some i0)), (1, .inl x1), (2, .inl x2), (3, .inl x3), (4, .inl x4), (5, .inl x5)] [] s0 (fX10_post s0 i0 x1 x2 x3 x4 x5)
  unfold fX10_post
  refine J_aload_n C 0 dX10_post_0 rfl ?_
  refine J_iload_n C 1 dX10_post_1 rfl ?_
  refine J_callVR (S := []) (avs := [.inl x1]) C zx0 yw_9 rfl (kX10_findPost _ _ _) dX10_post_2 rfl (Nat.le_of_ble_eq_true rfl) (by decide) fun r_2 s_1 => ?_
  refine J_astore (L' := [(0, .inr (0, some i0)), (1, .inl x1), (2, .inl x2), (3, .inl x3), (4, .inl x4), (5, .inl x5), (6, .inr (8, r_2))]) C dX10_post_5 (Nat.le_of_ble_eq_true rfl) rfl ?_
  refine J_aload C 6 dX10_post_7 rfl ?_
  refine J_elim (fun e_4 => ?_) (fun i_3 e_4 => ?_)
  · subst e_4
    refine J_nonnull_n C dX10_post_9 ?_
    refine J_iconst C dX10_post_12 (zi9 rfl rfl) ?_
    exact J_iret C dX10_post_13 (by decide) (by decide)
  · subst e_4
    refine J_nonnull_s C 14 dX10_post_9 rfl ?_
    refine J_iload_n C 3 dX10_post_14 rfl ?_
    refine J_iconst C dX10_post_15 (zi9 rfl rfl) ?_
    refine J_bipush C dX10_post_16 (zi9 rfl rfl) (by decide) ?_
    refine J_callSI (S := []) (avs := [.inl x3, .inl 1, .inl 20]) C yw_8 (kX10_within _ _ _ _) dX10_post_18 rfl (Nat.le_of_ble_eq_true rfl) (by decide) fun x_6 s_5 => ?_
    refine J_if_eq C 35 dX10_post_21 rfl (fun _ => ?_) (fun _ => ?_)
    · refine J_bipush C dX10_post_35 (zi9 rfl rfl) (by decide) ?_
      exact J_iret C dX10_post_37 (by decide) (by decide)
    · refine J_iload C 4 dX10_post_24 rfl ?_
      refine J_iconst C dX10_post_26 (zi9 rfl rfl) ?_
      refine J_bipush C dX10_post_27 (zi9 rfl rfl) (by decide) ?_
      refine J_callSI (S := []) (avs := [.inl x4, .inl 1, .inl 10]) C yw_8 (kX10_within _ _ _ _) dX10_post_29 rfl (Nat.le_of_ble_eq_true rfl) (by decide) fun x_8 s_7 => ?_
      refine J_if_ne C 38 dX10_post_32 rfl (fun _ => ?_) (fun _ => ?_)
      · refine J_aload C 6 dX10_post_38 rfl ?_
        refine gf_8_2 C dX10_post_40 q_199 ?_
        refine J_iconst C dX10_post_43 (zi9 rfl rfl) ?_
        refine J_ic_ne C 50 dX10_post_44 rfl (fun _ => ?_) (fun _ => ?_)
        · refine J_aload_n C 0 dX10_post_50 rfl ?_
          refine gf_0_10 C dX10_post_51 q_266 ?_
          refine J_bipush C dX10_post_54 (zi9 rfl rfl) (by decide) ?_
          refine J_ic_lt C 62 dX10_post_56 rfl (fun _ => ?_) (fun _ => ?_)
          · refine J_new C zx8 dX10_post_62 q_24 q_135 q_7 (by decide) (by decide) (by decide) fun s_9 => ?_
            refine J_dup C dX10_post_65 ?_
            refine J_aload_n C 0 dX10_post_66 rfl ?_
            refine gf_0_10 C dX10_post_67 q_266 ?_
            refine J_aload C 6 dX10_post_70 rfl ?_
            refine J_iload_n C 2 dX10_post_72 rfl ?_
            refine J_join (fun j81 => ∀ (s_10 : zS) (u_11 : Int), zJ zw 8 K (zQm zw eI 5 37 K) 1 16 81 [(0, .inr (0, some i0)), (3, .inl x3), (4, .inl x4), (5, .inl x5)] [.inl u_11, .inr (8, some i_3), .inl (gI s_9 0 i0 10), .inr (8, some (gN s_7 8)), .inr (8, some (gN s_7 8))] s_10 (j81 s_10 u_11)) ?_ fun j81 hj81 => ?_
            · intro s_10 u_11
              refine J_callIV (S := [.inr (8, some (gN s_7 8))]) (avs := [.inl (gI s_9 0 i0 10), .inr (8, some i_3), .inl u_11]) C yw_2 (kX7_init _ _ _ _ _) dX10_post_81 rfl (Nat.le_of_ble_eq_true rfl) (by decide) fun _ s_12 => ?_
              refine J_astore (L' := [(0, .inr (0, some i0)), (3, .inl x3), (4, .inl x4), (5, .inl x5), (7, .inr (8, some (gN s_7 8)))]) C dX10_post_84 (Nat.le_of_ble_eq_true rfl) rfl ?_
              refine J_aload C 4 dX10_post_86 rfl ?_
              refine J_iload_n C 1 dX10_post_88 rfl ?_
              refine pf_8_3 C dX10_post_89 q_200 fun s_13 => ?_
              refine J_aload C 4 dX10_post_92 rfl ?_
              refine J_iload C 2 dX10_post_94 rfl ?_
              refine pf_8_4 C dX10_post_96 q_202 fun s_14 => ?_
              refine J_aload C 4 dX10_post_99 rfl ?_
              refine J_iload C 3 dX10_post_101 rfl ?_
              refine J_g fun h_22 => ?_
              refine pf_8_5 C h_22 dX10_post_103 q_204 fun s_15 => ?_
              refine J_aload_n C 0 dX10_post_106 rfl ?_
              refine gf_0_0 C dX10_post_107 q_256 ?_
              refine J_nmR fun r_16 => ?_
              refine J_aload_n C 0 dX10_post_110 rfl ?_
              refine gf_0_10 C dX10_post_111 q_266 ?_
              refine J_aload C 4 dX10_post_114 rfl ?_
              refine J_bind fun i_17 e_18 => ?_
              subst e_18
              refine J_g fun h_19 => ?_
              refine J_aast (t := 11) (N := 16) (u := 8) (a := 2) C zx8 (Nat.le_of_ble_eq_true rfl) rfl rfl (fun _ => rfl) h_19 dX10_post_116 fun s_20 => ?_
              refine J_aload_n C 0 dX10_post_117 rfl ?_
              refine J_dup C dX10_post_118 ?_
              refine gf_0_10 C dX10_post_119 q_266 ?_
              refine J_iconst C dX10_post_122 (zi9 rfl rfl) ?_
              refine J_iadd C dX10_post_123 ?_
              refine pf_0_10 C dX10_post_124 q_266 fun s_21 => ?_
              refine J_aload C 4 dX10_post_127 rfl ?_
              refine gf_8_0 C dX10_post_129 q_194 ?_
              exact J_iret C dX10_post_132 (by decide) (by decide)
            · refine J_if_eq C 80 dX10_post_73 rfl (fun _ => ?_) (fun _ => ?_)
              · refine J_iconst C dX10_post_80 (zi9 rfl rfl) ?_
                refine J_loc (L' := [(0, .inr (0, some i0)), (3, .inl x3), (4, .inl x4), (5, .inl x5)]) [0, 3, 4, 5] rfl ?_
                exact hj81 _ _
              · refine J_iconst C dX10_post_76 (zi9 rfl rfl) ?_
                refine J_goto C 81 dX10_post_77 rfl ?_
                refine J_loc (L' := [(0, .inr (0, some i0)), (3, .inl x3), (4, .inl x4), (5, .inl x5)]) [0, 3, 4, 5] rfl ?_
                exact hj81 _ _
          · refine J_bipush C dX10_post_59 (zi9 rfl rfl) (by decide) ?_
            exact J_iret C dX10_post_61 (by decide) (by decide)
        · refine J_bipush C dX10_post_47 (zi9 rfl rfl) (by decide) ?_
          exact J_iret C dX10_post_49 (by decide) (by decide)
      · refine J_bipush C dX10_post_35 (zi9 rfl rfl) (by decide) ?_
        exact J_iret C dX10_post_37 (by decide) (by decide)
def fX10_fitsJoint (s0 : zS) (x0 : Int) (x1 : Int) : Option (Int × zS) :=
  if x0 = 0 then (cl_ (fX10_within s0 x1 0 2) fun (x_3 : Int) (s_2 : zS) => g_ (x_3 = 0 ∨ x_3 = 1) (some (x_3, s_2))) else (if x0 = 1 then (if x1 = 0 then (some (1, s0)) else (cl_ (fX10_within s0 x1 2 9) fun (x_7 : Int) (s_6 : zS) => if x_7 = 0 then (some (0, s_6)) else (some (1, s_6)))) else (if x0 = 2 then (cl_ (fX10_within s0 x1 0 1) fun (x_10 : Int) (s_9 : zS) => g_ (x_10 = 0 ∨ x_10 = 1) (some (x_10, s_9))) else (some (0, s0))))
set_option maxHeartbeats 4000000 in
set_option maxRecDepth 20000 in
theorem kX10_fitsJoint (s0 : zS) (x0 : Int) (x1 : Int) : zCt zw yX10_fitsJoint cX10_fitsJoint 2 (some .boolean) 1 22 0 0 eI [.inl x0, .inl x1] s0 (fX10_fitsJoint s0 x0 x1) := by
  refine zCt_on (own := RX10) (nm := "fitsJoint") rfl rfl (by decide) (Nat.le_of_ble_eq_true rfl) fun K C => ?_
  show zJ zw 2 K _ 0 0 0 [(0, .inl x0), (1, .inl x1)] [] s0 (fX10_fitsJoint s0 x0 x1)
  unfold fX10_fitsJoint
  refine J_iload_n C 0 dX10_fitsJoint_0 rfl ?_
  refine J_if (fun h_1 => ?_) (fun h_1 => ?_)
  · refine J_swIn C 28 dX10_fitsJoint_1 (by omega) (by omega) (by rw [h_1]; rfl) rfl ?_
    refine J_iload_n C 1 dX10_fitsJoint_28 rfl ?_
    refine J_iconst C dX10_fitsJoint_29 (zi9 rfl rfl) ?_
    refine J_iconst C dX10_fitsJoint_30 (zi9 rfl rfl) ?_
    refine J_callSI (S := []) (avs := [.inl x1, .inl 0, .inl 2]) C yw_8 (kX10_within _ _ _ _) dX10_fitsJoint_31 rfl (Nat.le_of_ble_eq_true rfl) (by decide) fun x_3 s_2 => ?_
    refine J_g fun h_4 => ?_
    exact J_zret C h_4 dX10_fitsJoint_34 (by decide) (by decide)
  · refine J_if (fun h_5 => ?_) (fun h_5 => ?_)
    · refine J_swIn C 35 dX10_fitsJoint_1 (by omega) (by omega) (by rw [h_5]; rfl) rfl ?_
      refine J_iload_n C 1 dX10_fitsJoint_35 rfl ?_
      refine J_if_eq C 49 dX10_fitsJoint_36 rfl (fun _ => ?_) (fun _ => ?_)
      · refine J_iconst C dX10_fitsJoint_49 (zi9 rfl rfl) ?_
        refine J_goto C 54 dX10_fitsJoint_50 rfl ?_
        exact J_zret C (by decide) dX10_fitsJoint_54 (by decide) (by decide)
      · refine J_iload_n C 1 dX10_fitsJoint_39 rfl ?_
        refine J_iconst C dX10_fitsJoint_40 (zi9 rfl rfl) ?_
        refine J_bipush C dX10_fitsJoint_41 (zi9 rfl rfl) (by decide) ?_
        refine J_callSI (S := []) (avs := [.inl x1, .inl 2, .inl 9]) C yw_8 (kX10_within _ _ _ _) dX10_fitsJoint_43 rfl (Nat.le_of_ble_eq_true rfl) (by decide) fun x_7 s_6 => ?_
        refine J_if_eq C 53 dX10_fitsJoint_46 rfl (fun _ => ?_) (fun _ => ?_)
        · refine J_iconst C dX10_fitsJoint_53 (zi9 rfl rfl) ?_
          exact J_zret C (by decide) dX10_fitsJoint_54 (by decide) (by decide)
        · refine J_iconst C dX10_fitsJoint_49 (zi9 rfl rfl) ?_
          refine J_goto C 54 dX10_fitsJoint_50 rfl ?_
          exact J_zret C (by decide) dX10_fitsJoint_54 (by decide) (by decide)
    · refine J_if (fun h_8 => ?_) (fun h_8 => ?_)
      · refine J_swIn C 55 dX10_fitsJoint_1 (by omega) (by omega) (by rw [h_8]; rfl) rfl ?_
        refine J_iload_n C 1 dX10_fitsJoint_55 rfl ?_
        refine J_iconst C dX10_fitsJoint_56 (zi9 rfl rfl) ?_
        refine J_iconst C dX10_fitsJoint_57 (zi9 rfl rfl) ?_
        refine J_callSI (S := []) (avs := [.inl x1, .inl 0, .inl 1]) C yw_8 (kX10_within _ _ _ _) dX10_fitsJoint_58 rfl (Nat.le_of_ble_eq_true rfl) (by decide) fun x_10 s_9 => ?_
        refine J_g fun h_11 => ?_
        exact J_zret C h_11 dX10_fitsJoint_61 (by decide) (by decide)
      · refine J_swOut C 62 dX10_fitsJoint_1 (by omega) rfl ?_
        refine J_iconst C dX10_fitsJoint_62 (zi9 rfl rfl) ?_
        exact J_zret C (by decide) dX10_fitsJoint_63 (by decide) (by decide)
def fX7_wearBy (s0 : zS) (i0 : Nat) (x1 : Int) : Option (Unit × zS) :=
  up_ (sI s0 8 i0 11 x1) fun (s_1 : zS) => up_ (sI s_1 8 i0 12 0) fun (s_2 : zS) => some ((), s_2)
set_option maxHeartbeats 4000000 in
set_option maxRecDepth 20000 in
theorem kX7_wearBy (s0 : zS) (i0 : Nat) (x1 : Int) : zCt zw yX7_wearBy cX7_wearBy 2 none 0 0 0 0 eV [.inr (8, some i0), .inl x1] s0 (fX7_wearBy s0 i0 x1) := by
  refine zCt_on (own := RX7) (nm := "wearBy") rfl rfl (by decide) (Nat.le_of_ble_eq_true rfl) fun K C => ?_
  show zJ zw 2 K _ 0 0 0 [(0, .inr (8, some i0)), (1, .inl x1)] [] s0 (fX7_wearBy s0 i0 x1)
  unfold fX7_wearBy
  refine J_aload_n C 0 dX7_wearBy_0 rfl ?_
  refine J_iload_n C 1 dX7_wearBy_1 rfl ?_
  refine pf_8_11 C dX7_wearBy_2 q_215 fun s_1 => ?_
  refine J_aload_n C 0 dX7_wearBy_5 rfl ?_
  refine J_iconst C dX7_wearBy_6 (zi9 rfl rfl) ?_
  refine pf_8_12 C dX7_wearBy_7 q_217 fun s_2 => ?_
  exact J_vret C dX7_wearBy_10 (by decide) (by decide)
def fX10_joint (s0 : zS) (i0 : Nat) (x1 : Int) (x2 : Int) (x3 : Int) : Option (Int × zS) :=
  cl_ (fX10_findPost s0 i0 x1) fun (r_2 : Option Nat) (s_1 : zS) => Option.elim r_2 (some ((-1), s_1)) fun i_3 => if gI s_1 8 i_3 2 = 1 then (cl_ (fX10_fitsJoint s_1 x2 x3) fun (x_6 : Int) (s_5 : zS) => if x_6 = 0 then (some ((-2), s_5)) else (if x2 = 0 then (nm_ (gI s_5 8 i_3 9) fun (x_13 : Int) => up_ (sI s_5 8 i_3 9 x3) fun (s_14 : zS) => some (x_13, s_14)) else (if x2 = 1 then (nm_ (gI s_5 8 i_3 11) fun (x_11 : Int) => cl_ (fX7_wearBy s_5 i_3 x3) fun (_ : Unit) (s_12 : zS) => some (x_11, s_12)) else (if gI s_5 8 i_3 13 = 0 then (if x3 = 1 then (up_ (sI s_5 8 i_3 13 1) fun (s_8 : zS) => some (0, s_8)) else (up_ (sI s_5 8 i_3 13 0) fun (s_7 : zS) => some (0, s_7))) else (if x3 = 1 then (up_ (sI s_5 8 i_3 13 1) fun (s_10 : zS) => some (1, s_10)) else (up_ (sI s_5 8 i_3 13 0) fun (s_9 : zS) => some (1, s_9))))))) else (some ((-3), s_1))
set_option maxHeartbeats 4000000 in
set_option maxRecDepth 20000 in
theorem kX10_joint (s0 : zS) (i0 : Nat) (x1 : Int) (x2 : Int) (x3 : Int) : zCt zw yX10_joint cX10_joint 6 (some .int) 2 43 0 0 eI [.inr (0, some i0), .inl x1, .inl x2, .inl x3] s0 (fX10_joint s0 i0 x1 x2 x3) := by
  refine zCt_on (own := RX10) (nm := "joint") rfl rfl (by decide) (Nat.le_of_ble_eq_true rfl) fun K C => ?_
  show zJ zw 6 K _ 0 0 0 [(0, .inr (0, some i0)), (1, .inl x1), (2, .inl x2), (3, .inl x3)] [] s0 (fX10_joint s0 i0 x1 x2 x3)
  unfold fX10_joint
  refine J_aload_n C 0 dX10_joint_0 rfl ?_
  refine J_iload_n C 1 dX10_joint_1 rfl ?_
  refine J_callVR (S := []) (avs := [.inl x1]) C zx0 yw_9 rfl (kX10_findPost _ _ _) dX10_joint_2 rfl (Nat.le_of_ble_eq_true rfl) (by decide) fun r_2 s_1 => ?_
  refine J_astore (L' := [(0, .inr (0, some i0)), (1, .inl x1), (2, .inl x2), (3, .inl x3), (4, .inr (8, r_2))]) C dX10_joint_5 (Nat.le_of_ble_eq_true rfl) rfl ?_
  refine J_aload C 4 dX10_joint_7 rfl ?_
  refine J_elim (fun e_4 => ?_) (fun i_3 e_4 => ?_)
  · subst e_4
    refine J_nonnull_n C dX10_joint_9 ?_
    refine J_iconst C dX10_joint_12 (zi9 rfl rfl) ?_
    exact J_iret C dX10_joint_13 (by decide) (by decide)
  · subst e_4
    refine J_nonnull_s C 14 dX10_joint_9 rfl ?_
    refine J_aload C 4 dX10_joint_14 rfl ?_
    refine gf_8_2 C dX10_joint_16 q_199 ?_
    refine J_iconst C dX10_joint_19 (zi9 rfl rfl) ?_
    refine J_ic_eq C 26 dX10_joint_20 rfl (fun _ => ?_) (fun _ => ?_)
    · refine J_iload_n C 2 dX10_joint_26 rfl ?_
      refine J_iload_n C 3 dX10_joint_27 rfl ?_
      refine J_callSI (S := []) (avs := [.inl x2, .inl x3]) C yw_11 (kX10_fitsJoint _ _ _) dX10_joint_28 rfl (Nat.le_of_ble_eq_true rfl) (by decide) fun x_6 s_5 => ?_
      refine J_if_ne C 37 dX10_joint_31 rfl (fun _ => ?_) (fun _ => ?_)
      · refine J_iload_n C 2 dX10_joint_37 rfl ?_
        refine J_if_ne C 57 dX10_joint_38 rfl (fun _ => ?_) (fun _ => ?_)
        · refine J_iload_n C 2 dX10_joint_57 rfl ?_
          refine J_iconst C dX10_joint_58 (zi9 rfl rfl) ?_
          refine J_ic_ne C 78 dX10_joint_59 rfl (fun _ => ?_) (fun _ => ?_)
          · refine J_aload C 4 dX10_joint_78 rfl ?_
            refine gf_8_13 C dX10_joint_80 q_218 ?_
            refine J_if_eq C 90 dX10_joint_83 rfl (fun _ => ?_) (fun _ => ?_)
            · refine J_iconst C dX10_joint_90 (zi9 rfl rfl) ?_
              refine J_istore (L' := [(0, .inr (0, some i0)), (1, .inl x1), (2, .inl x2), (3, .inl x3), (4, .inr (8, some i_3)), (5, .inl 0)]) C dX10_joint_91 (Nat.le_of_ble_eq_true rfl) rfl ?_
              refine J_aload C 4 dX10_joint_93 rfl ?_
              refine J_iload_n C 3 dX10_joint_95 rfl ?_
              refine J_iconst C dX10_joint_96 (zi9 rfl rfl) ?_
              refine J_ic_ne C 104 dX10_joint_97 rfl (fun _ => ?_) (fun _ => ?_)
              · refine J_iconst C dX10_joint_104 (zi9 rfl rfl) ?_
                refine pf_8_13 C (by decide) dX10_joint_105 q_218 fun s_7 => ?_
                refine J_iload C 5 dX10_joint_108 rfl ?_
                exact J_iret C dX10_joint_110 (by decide) (by decide)
              · refine J_iconst C dX10_joint_100 (zi9 rfl rfl) ?_
                refine J_goto C 105 dX10_joint_101 rfl ?_
                refine pf_8_13 C (by decide) dX10_joint_105 q_218 fun s_8 => ?_
                refine J_iload C 5 dX10_joint_108 rfl ?_
                exact J_iret C dX10_joint_110 (by decide) (by decide)
            · refine J_iconst C dX10_joint_86 (zi9 rfl rfl) ?_
              refine J_goto C 91 dX10_joint_87 rfl ?_
              refine J_istore (L' := [(0, .inr (0, some i0)), (1, .inl x1), (2, .inl x2), (3, .inl x3), (4, .inr (8, some i_3)), (5, .inl 1)]) C dX10_joint_91 (Nat.le_of_ble_eq_true rfl) rfl ?_
              refine J_aload C 4 dX10_joint_93 rfl ?_
              refine J_iload_n C 3 dX10_joint_95 rfl ?_
              refine J_iconst C dX10_joint_96 (zi9 rfl rfl) ?_
              refine J_ic_ne C 104 dX10_joint_97 rfl (fun _ => ?_) (fun _ => ?_)
              · refine J_iconst C dX10_joint_104 (zi9 rfl rfl) ?_
                refine pf_8_13 C (by decide) dX10_joint_105 q_218 fun s_9 => ?_
                refine J_iload C 5 dX10_joint_108 rfl ?_
                exact J_iret C dX10_joint_110 (by decide) (by decide)
              · refine J_iconst C dX10_joint_100 (zi9 rfl rfl) ?_
                refine J_goto C 105 dX10_joint_101 rfl ?_
                refine pf_8_13 C (by decide) dX10_joint_105 q_218 fun s_10 => ?_
                refine J_iload C 5 dX10_joint_108 rfl ?_
                exact J_iret C dX10_joint_110 (by decide) (by decide)
          · refine J_aload C 4 dX10_joint_62 rfl ?_
            refine gf_8_11 C dX10_joint_64 q_216 ?_
            refine J_nm fun x_11 => ?_
            refine J_istore (L' := [(0, .inr (0, some i0)), (1, .inl x1), (2, .inl x2), (3, .inl x3), (4, .inr (8, some i_3)), (5, .inl x_11)]) C dX10_joint_67 (Nat.le_of_ble_eq_true rfl) rfl ?_
            refine J_aload C 4 dX10_joint_69 rfl ?_
            refine J_iload_n C 3 dX10_joint_71 rfl ?_
            refine J_callVV (S := []) (avs := [.inl x3]) C zx8 yw_10 rfl (kX7_wearBy _ _ _) dX10_joint_72 rfl (Nat.le_of_ble_eq_true rfl) (by decide) fun _ s_12 => ?_
            refine J_goto C 108 dX10_joint_75 rfl ?_
            refine J_iload C 5 dX10_joint_108 rfl ?_
            exact J_iret C dX10_joint_110 (by decide) (by decide)
        · refine J_aload C 4 dX10_joint_41 rfl ?_
          refine gf_8_9 C dX10_joint_43 q_212 ?_
          refine J_nm fun x_13 => ?_
          refine J_istore (L' := [(0, .inr (0, some i0)), (1, .inl x1), (2, .inl x2), (3, .inl x3), (4, .inr (8, some i_3)), (5, .inl x_13)]) C dX10_joint_46 (Nat.le_of_ble_eq_true rfl) rfl ?_
          refine J_aload C 4 dX10_joint_48 rfl ?_
          refine J_iload_n C 3 dX10_joint_50 rfl ?_
          refine pf_8_9 C dX10_joint_51 q_212 fun s_14 => ?_
          refine J_goto C 108 dX10_joint_54 rfl ?_
          refine J_iload C 5 dX10_joint_108 rfl ?_
          exact J_iret C dX10_joint_110 (by decide) (by decide)
      · refine J_bipush C dX10_joint_34 (zi9 rfl rfl) (by decide) ?_
        exact J_iret C dX10_joint_36 (by decide) (by decide)
    · refine J_bipush C dX10_joint_23 (zi9 rfl rfl) (by decide) ?_
      exact J_iret C dX10_joint_25 (by decide) (by decide)
def fX10_about (s0 : zS) (i0 : Nat) (x1 : Int) (x2 : Int) : Option (Int × zS) :=
  cl_ (fX10_findPost s0 i0 x1) fun (r_2 : Option Nat) (s_1 : zS) => Option.elim r_2 (some ((-1), s_1)) fun i_3 => cl_ (fX10_within s_1 x2 0 5) fun (x_6 : Int) (s_5 : zS) => if x_6 = 0 then (some ((-2), s_5)) else (if x2 = 1 then (some (gI s_5 8 i_3 2, s_5)) else (nm_ (gR s_5 8 i_3 1) fun (r_7 : Option Nat) => Option.elim r_7 (some ((-9), s_5)) fun i_8 => if x2 = 0 then (nm_ (gR s_5 8 i_3 1) fun (r_11 : Option Nat) => Option.bind r_11 fun i_12 => some (gI s_5 8 i_12 0, s_5)) else (if x2 = 1 then (if gI s_5 8 i_3 6 = 0 then (some (0, s_5)) else (some (1, s_5))) else (if x2 = 2 then (some (gI s_5 8 i_3 3, s_5)) else (if x2 = 3 then (some (gI s_5 8 i_3 4, s_5)) else (if x2 = 4 then (if gI s_5 8 i_3 5 = 0 then (some (0, s_5)) else (some (1, s_5))) else (if gI s_5 8 i_3 6 = 0 then (some (0, s_5)) else (some (1, s_5)))))))))
set_option maxHeartbeats 4000000 in
set_option maxRecDepth 20000 in
theorem kX10_about (s0 : zS) (i0 : Nat) (x1 : Int) (x2 : Int) : zCt zw yX10_about cX10_about 4 (some .int) 1 22 0 0 eI [.inr (0, some i0), .inl x1, .inl x2] s0 (fX10_about s0 i0 x1 x2) := by
  refine zCt_on (own := RX10) (nm := "about") rfl rfl (by decide) (Nat.le_of_ble_eq_true rfl) fun K C => ?_
  show zJ zw 4 K _ 0 0 0 [(0, .inr (0, some i0)), (1, .inl x1), (2, .inl x2)] [] s0 (fX10_about s0 i0 x1 x2)
  unfold fX10_about
  refine J_aload_n C 0 dX10_about_0 rfl ?_
  refine J_iload_n C 1 dX10_about_1 rfl ?_
  refine J_callVR (S := []) (avs := [.inl x1]) C zx0 yw_9 rfl (kX10_findPost _ _ _) dX10_about_2 rfl (Nat.le_of_ble_eq_true rfl) (by decide) fun r_2 s_1 => ?_
  refine J_astore_n (L' := [(0, .inr (0, some i0)), (1, .inl x1), (2, .inl x2), (3, .inr (8, r_2))]) C dX10_about_5 (Nat.le_of_ble_eq_true rfl) rfl ?_
  refine J_aload_n C 3 dX10_about_6 rfl ?_
  refine J_elim (fun e_4 => ?_) (fun i_3 e_4 => ?_)
  · subst e_4
    refine J_nonnull_n C dX10_about_7 ?_
    refine J_iconst C dX10_about_10 (zi9 rfl rfl) ?_
    exact J_iret C dX10_about_11 (by decide) (by decide)
  · subst e_4
    refine J_nonnull_s C 12 dX10_about_7 rfl ?_
    refine J_iload_n C 2 dX10_about_12 rfl ?_
    refine J_iconst C dX10_about_13 (zi9 rfl rfl) ?_
    refine J_iconst C dX10_about_14 (zi9 rfl rfl) ?_
    refine J_callSI (S := []) (avs := [.inl x2, .inl 0, .inl 5]) C yw_8 (kX10_within _ _ _ _) dX10_about_15 rfl (Nat.le_of_ble_eq_true rfl) (by decide) fun x_6 s_5 => ?_
    refine J_if_ne C 24 dX10_about_18 rfl (fun _ => ?_) (fun _ => ?_)
    · refine J_iload_n C 2 dX10_about_24 rfl ?_
      refine J_iconst C dX10_about_25 (zi9 rfl rfl) ?_
      refine J_ic_ne C 34 dX10_about_26 rfl (fun _ => ?_) (fun _ => ?_)
      · refine J_aload_n C 3 dX10_about_34 rfl ?_
        refine gf_8_1 C dX10_about_35 q_197 ?_
        refine J_nmR fun r_7 => ?_
        refine J_elim (fun e_9 => ?_) (fun i_8 e_9 => ?_)
        · subst e_9
          refine J_nonnull_n C dX10_about_38 ?_
          refine J_bipush C dX10_about_41 (zi9 rfl rfl) (by decide) ?_
          exact J_iret C dX10_about_43 (by decide) (by decide)
        · subst e_9
          refine J_nonnull_s C 44 dX10_about_38 rfl ?_
          refine J_iload_n C 2 dX10_about_44 rfl ?_
          refine J_if (fun h_10 => ?_) (fun h_10 => ?_)
          · refine J_swIn C 80 dX10_about_45 (by omega) (by omega) (by rw [h_10]; rfl) rfl ?_
            refine J_aload_n C 3 dX10_about_80 rfl ?_
            refine gf_8_1 C dX10_about_81 q_197 ?_
            refine J_nmR fun r_11 => ?_
            refine J_bind fun i_12 e_13 => ?_
            subst e_13
            refine gf_8_0 C dX10_about_84 q_194 ?_
            exact J_iret C dX10_about_87 (by decide) (by decide)
          · refine J_if (fun h_14 => ?_) (fun h_14 => ?_)
            · refine J_swIn C 111 dX10_about_45 (by omega) (by omega) (by rw [h_14]; rfl) rfl ?_
              refine J_aload_n C 3 dX10_about_111 rfl ?_
              refine gf_8_6 C dX10_about_112 q_206 ?_
              refine J_if_eq C 122 dX10_about_115 rfl (fun _ => ?_) (fun _ => ?_)
              · refine J_iconst C dX10_about_122 (zi9 rfl rfl) ?_
                exact J_iret C dX10_about_123 (by decide) (by decide)
              · refine J_iconst C dX10_about_118 (zi9 rfl rfl) ?_
                refine J_goto C 123 dX10_about_119 rfl ?_
                exact J_iret C dX10_about_123 (by decide) (by decide)
            · refine J_if (fun h_15 => ?_) (fun h_15 => ?_)
              · refine J_swIn C 88 dX10_about_45 (by omega) (by omega) (by rw [h_15]; rfl) rfl ?_
                refine J_aload_n C 3 dX10_about_88 rfl ?_
                refine gf_8_3 C dX10_about_89 q_200 ?_
                exact J_iret C dX10_about_92 (by decide) (by decide)
              · refine J_if (fun h_16 => ?_) (fun h_16 => ?_)
                · refine J_swIn C 93 dX10_about_45 (by omega) (by omega) (by rw [h_16]; rfl) rfl ?_
                  refine J_aload_n C 3 dX10_about_93 rfl ?_
                  refine gf_8_4 C dX10_about_94 q_202 ?_
                  exact J_iret C dX10_about_97 (by decide) (by decide)
                · refine J_if (fun h_17 => ?_) (fun h_17 => ?_)
                  · refine J_swIn C 98 dX10_about_45 (by omega) (by omega) (by rw [h_17]; rfl) rfl ?_
                    refine J_aload_n C 3 dX10_about_98 rfl ?_
                    refine gf_8_5 C dX10_about_99 q_204 ?_
                    refine J_if_eq C 109 dX10_about_102 rfl (fun _ => ?_) (fun _ => ?_)
                    · refine J_iconst C dX10_about_109 (zi9 rfl rfl) ?_
                      exact J_iret C dX10_about_110 (by decide) (by decide)
                    · refine J_iconst C dX10_about_105 (zi9 rfl rfl) ?_
                      refine J_goto C 110 dX10_about_106 rfl ?_
                      exact J_iret C dX10_about_110 (by decide) (by decide)
                  · refine J_swOut C 111 dX10_about_45 (by omega) rfl ?_
                    refine J_aload_n C 3 dX10_about_111 rfl ?_
                    refine gf_8_6 C dX10_about_112 q_206 ?_
                    refine J_if_eq C 122 dX10_about_115 rfl (fun _ => ?_) (fun _ => ?_)
                    · refine J_iconst C dX10_about_122 (zi9 rfl rfl) ?_
                      exact J_iret C dX10_about_123 (by decide) (by decide)
                    · refine J_iconst C dX10_about_118 (zi9 rfl rfl) ?_
                      refine J_goto C 123 dX10_about_119 rfl ?_
                      exact J_iret C dX10_about_123 (by decide) (by decide)
      · refine J_aload_n C 3 dX10_about_29 rfl ?_
        refine gf_8_2 C dX10_about_30 q_199 ?_
        exact J_iret C dX10_about_33 (by decide) (by decide)
    · refine J_bipush C dX10_about_21 (zi9 rfl rfl) (by decide) ?_
      exact J_iret C dX10_about_23 (by decide) (by decide)
def fX10_findWire (s0 : zS) (i0 : Nat) (x1 : Int) : Option (Option Nat × zS) :=
  if x1 < 1 then (some (none, s0)) else (if x1 < gI s0 0 i0 10 then (nm_ (gR s0 0 i0 0) fun (r_1 : Option Nat) => Option.bind r_1 fun i_2 => g_ ((0 : Int) ≤ x1 ∧ (x1 : Int) < 16) (nm_ (gR s0 11 i_2 (Int.toNat (x1))) fun (r_5 : Option Nat) => some (r_5, s0))) else (some (none, s0)))
set_option maxHeartbeats 4000000 in
set_option maxRecDepth 20000 in
theorem kX10_findWire (s0 : zS) (i0 : Nat) (x1 : Int) : zCt zw yX10_findWire cX10_findWire 2 (some (.object "FlyingChange$Post")) 0 0 0 0 (eR 8) [.inr (0, some i0), .inl x1] s0 (fX10_findWire s0 i0 x1) := by
  refine zCt_on (own := RX10) (nm := "findWire") rfl rfl (by decide) (Nat.le_of_ble_eq_true rfl) fun K C => ?_
  show zJ zw 2 K _ 0 0 0 [(0, .inr (0, some i0)), (1, .inl x1)] [] s0 (fX10_findWire s0 i0 x1)
  unfold fX10_findWire
  refine J_iload_n C 1 dX10_findWire_0 rfl ?_
  refine J_iconst C dX10_findWire_1 (zi9 rfl rfl) ?_
  refine J_ic_lt C 13 dX10_findWire_2 rfl (fun _ => ?_) (fun _ => ?_)
  · refine J_null 8 C dX10_findWire_13 ?_
    refine J_goto C 23 dX10_findWire_14 rfl ?_
    exact J_aret C rfl dX10_findWire_23 (by decide) (by decide)
  · refine J_iload_n C 1 dX10_findWire_5 rfl ?_
    refine J_aload_n C 0 dX10_findWire_6 rfl ?_
    refine gf_0_10 C dX10_findWire_7 q_266 ?_
    refine J_ic_lt C 17 dX10_findWire_10 rfl (fun _ => ?_) (fun _ => ?_)
    · refine J_aload_n C 0 dX10_findWire_17 rfl ?_
      refine gf_0_0 C dX10_findWire_18 q_256 ?_
      refine J_nmR fun r_1 => ?_
      refine J_iload_n C 1 dX10_findWire_21 rfl ?_
      refine J_bind fun i_2 e_3 => ?_
      subst e_3
      refine J_g fun h_4 => ?_
      refine J_aald (t := 11) (N := 16) (u := 8) (a := 2) C (Nat.le_of_ble_eq_true rfl) rfl rfl (fun _ => rfl) h_4 dX10_findWire_22 ?_
      refine J_nmR fun r_5 => ?_
      exact J_aret C rfl dX10_findWire_23 (by decide) (by decide)
    · refine J_null 8 C dX10_findWire_13 ?_
      refine J_goto C 23 dX10_findWire_14 rfl ?_
      exact J_aret C rfl dX10_findWire_23 (by decide) (by decide)
def fX10_cord (s0 : zS) (i0 : Nat) (x1 : Int) (x2 : Int) : Option (Int × zS) :=
  cl_ (fX10_findWire s0 i0 x1) fun (r_2 : Option Nat) (s_1 : zS) => Option.elim r_2 (some ((-1), s_1)) fun i_3 => if gI s_1 8 i_3 6 = 0 then (g_ (x2 = 0 ∨ x2 = 1) (up_ (sI s_1 8 i_3 6 x2) fun (s_5 : zS) => some (0, s_5))) else (g_ (x2 = 0 ∨ x2 = 1) (up_ (sI s_1 8 i_3 6 x2) fun (s_7 : zS) => some (1, s_7)))
set_option maxHeartbeats 4000000 in
set_option maxRecDepth 20000 in
theorem kX10_cord (s0 : zS) (i0 : Nat) (x1 : Int) (x2 : Int) : zCt zw yX10_cord cX10_cord 5 (some .int) 1 21 0 0 eI [.inr (0, some i0), .inl x1, .inl x2] s0 (fX10_cord s0 i0 x1 x2) := by
  refine zCt_on (own := RX10) (nm := "cord") rfl rfl (by decide) (Nat.le_of_ble_eq_true rfl) fun K C => ?_
  show zJ zw 5 K _ 0 0 0 [(0, .inr (0, some i0)), (1, .inl x1), (2, .inl x2)] [] s0 (fX10_cord s0 i0 x1 x2)
  unfold fX10_cord
  refine J_aload_n C 0 dX10_cord_0 rfl ?_
  refine J_iload_n C 1 dX10_cord_1 rfl ?_
  refine J_callVR (S := []) (avs := [.inl x1]) C zx0 yw_12 rfl (kX10_findWire _ _ _) dX10_cord_2 rfl (Nat.le_of_ble_eq_true rfl) (by decide) fun r_2 s_1 => ?_
  refine J_astore_n (L' := [(0, .inr (0, some i0)), (1, .inl x1), (2, .inl x2), (3, .inr (8, r_2))]) C dX10_cord_5 (Nat.le_of_ble_eq_true rfl) rfl ?_
  refine J_aload_n C 3 dX10_cord_6 rfl ?_
  refine J_elim (fun e_4 => ?_) (fun i_3 e_4 => ?_)
  · subst e_4
    refine J_nonnull_n C dX10_cord_7 ?_
    refine J_iconst C dX10_cord_10 (zi9 rfl rfl) ?_
    exact J_iret C dX10_cord_11 (by decide) (by decide)
  · subst e_4
    refine J_nonnull_s C 12 dX10_cord_7 rfl ?_
    refine J_aload_n C 3 dX10_cord_12 rfl ?_
    refine gf_8_6 C dX10_cord_13 q_206 ?_
    refine J_if_eq C 23 dX10_cord_16 rfl (fun _ => ?_) (fun _ => ?_)
    · refine J_iconst C dX10_cord_23 (zi9 rfl rfl) ?_
      refine J_istore (L' := [(0, .inr (0, some i0)), (1, .inl x1), (2, .inl x2), (3, .inr (8, some i_3)), (4, .inl 0)]) C dX10_cord_24 (Nat.le_of_ble_eq_true rfl) rfl ?_
      refine J_aload_n C 3 dX10_cord_26 rfl ?_
      refine J_iload_n C 2 dX10_cord_27 rfl ?_
      refine J_g fun h_6 => ?_
      refine pf_8_6 C h_6 dX10_cord_28 q_206 fun s_5 => ?_
      refine J_iload C 4 dX10_cord_31 rfl ?_
      exact J_iret C dX10_cord_33 (by decide) (by decide)
    · refine J_iconst C dX10_cord_19 (zi9 rfl rfl) ?_
      refine J_goto C 24 dX10_cord_20 rfl ?_
      refine J_istore (L' := [(0, .inr (0, some i0)), (1, .inl x1), (2, .inl x2), (3, .inr (8, some i_3)), (4, .inl 1)]) C dX10_cord_24 (Nat.le_of_ble_eq_true rfl) rfl ?_
      refine J_aload_n C 3 dX10_cord_26 rfl ?_
      refine J_iload_n C 2 dX10_cord_27 rfl ?_
      refine J_g fun h_8 => ?_
      refine pf_8_6 C h_8 dX10_cord_28 q_206 fun s_7 => ?_
      refine J_iload C 4 dX10_cord_31 rfl ?_
      exact J_iret C dX10_cord_33 (by decide) (by decide)
def fX4_init (s0 : zS) (i0 : Nat) (x1 : Int) (r2 : Option Nat) : Option (Unit × zS) :=
  up_ (sN s0 4) fun (s_1 : zS) => cl_ (fX3_init s_1 (gN s0 4)) fun (_ : Unit) (s_2 : zS) => up_ (sR s_2 5 i0 2 (some (gN s0 4))) fun (s_3 : zS) => up_ (sI s_3 5 i0 3 0) fun (s_4 : zS) => up_ (sI s_4 5 i0 12 0) fun (s_5 : zS) => up_ (sI s_5 5 i0 0 x1) fun (s_6 : zS) => up_ (sR s_6 5 i0 1 r2) fun (s_7 : zS) => up_ (sR s_7 5 i0 4 r2) fun (s_8 : zS) => some ((), s_8)
set_option maxHeartbeats 4000000 in
set_option maxRecDepth 20000 in
theorem kX4_init (s0 : zS) (i0 : Nat) (x1 : Int) (r2 : Option Nat) : zCt zw yX4_init cX4_init 3 none 2 32 2 7 eV [.inr (5, some i0), .inl x1, .inr (8, r2)] s0 (fX4_init s0 i0 x1 r2) := by
  refine zCt_on (own := RX4) (nm := "<init>") rfl rfl (by decide) (Nat.le_of_ble_eq_true rfl) fun K C => ?_
  show zJ zw 3 K _ 0 0 0 [(0, .inr (5, some i0)), (1, .inl x1), (2, .inr (8, r2))] [] s0 (fX4_init s0 i0 x1 r2)
  unfold fX4_init
  refine J_aload_n C 0 dX4_init_0 rfl ?_
  refine J_objInit C dX4_init_1 q_350 q_22 q_23 (by decide) (Nat.le_of_ble_eq_true rfl) ?_
  refine J_aload_n C 0 dX4_init_4 rfl ?_
  refine J_new C zx4 dX4_init_5 q_351 q_31 q_2 (by decide) (by decide) (by decide) fun s_1 => ?_
  refine J_dup C dX4_init_8 ?_
  refine J_callNV (S := [.inr (4, some (gN s0 4)), .inr (5, some i0)]) (avs := []) C yw_13 (kX3_init _ _) dX4_init_9 rfl (Nat.le_of_ble_eq_true rfl) (by decide) fun _ s_2 => ?_
  refine pf_5_2 C ⟨rfl, rfl⟩ dX4_init_12 q_357 fun s_3 => ?_
  refine J_aload_n C 0 dX4_init_15 rfl ?_
  refine J_iconst C dX4_init_16 (zi9 rfl rfl) ?_
  refine pf_5_3 C dX4_init_17 q_359 fun s_4 => ?_
  refine J_aload_n C 0 dX4_init_20 rfl ?_
  refine J_iconst C dX4_init_21 (zi9 rfl rfl) ?_
  refine pf_5_12 C dX4_init_22 q_378 fun s_5 => ?_
  refine J_aload_n C 0 dX4_init_25 rfl ?_
  refine J_iload_n C 1 dX4_init_26 rfl ?_
  refine pf_5_0 C ⟨rfl, rfl⟩ dX4_init_27 q_353 fun s_6 => ?_
  refine J_aload_n C 0 dX4_init_30 rfl ?_
  refine J_aload_n C 2 dX4_init_31 rfl ?_
  refine pf_5_1 C ⟨rfl, rfl⟩ dX4_init_32 q_355 fun s_7 => ?_
  refine J_aload_n C 0 dX4_init_35 rfl ?_
  refine J_aload_n C 2 dX4_init_36 rfl ?_
  refine pf_5_4 C dX4_init_37 q_361 fun s_8 => ?_
  exact J_vret C dX4_init_40 (by decide) (by decide)
def fX10_cup (s0 : zS) (i0 : Nat) (x1 : Int) : Option (Int × zS) :=
  cl_ (fX10_findPost s0 i0 x1) fun (r_2 : Option Nat) (s_1 : zS) => Option.elim r_2 (some ((-1), s_1)) fun i_3 => if gI s_1 8 i_3 2 = 2 then (if gI s_1 0 i0 11 < 24 then (up_ (sN s_1 5) fun (s_5 : zS) => cl_ (fX4_init s_5 (gN s_1 5) (gI s_5 0 i0 11) (some i_3)) fun (_ : Unit) (s_6 : zS) => nm_ (gR s_6 0 i0 1) fun (r_7 : Option Nat) => Option.bind r_7 fun i_8 => g_ ((0 : Int) ≤ gI s_6 0 i0 11 ∧ (gI s_6 0 i0 11 : Int) < 24) (up_ (sR s_6 12 i_8 (Int.toNat (gI s_6 0 i0 11)) (some (gN s_1 5))) fun (s_11 : zS) => up_ (sI s_11 0 i0 11 (wr ((gI s_11 0 i0 11) + 1))) fun (s_12 : zS) => some (gI s_12 5 (gN s_1 5) 0, s_12))) else (some ((-4), s_1))) else (some ((-3), s_1))
set_option maxHeartbeats 4000000 in
set_option maxRecDepth 20000 in
theorem kX10_cup (s0 : zS) (i0 : Nat) (x1 : Int) : zCt zw yX10_cup cX10_cup 4 (some .int) 3 54 3 22 eI [.inr (0, some i0), .inl x1] s0 (fX10_cup s0 i0 x1) := by
  refine zCt_on (own := RX10) (nm := "cup") rfl rfl (by decide) (Nat.le_of_ble_eq_true rfl) fun K C => ?_
  show zJ zw 4 K _ 0 0 0 [(0, .inr (0, some i0)), (1, .inl x1)] [] s0 (fX10_cup s0 i0 x1)
  unfold fX10_cup
  refine J_aload_n C 0 dX10_cup_0 rfl ?_
  refine J_iload_n C 1 dX10_cup_1 rfl ?_
  refine J_callVR (S := []) (avs := [.inl x1]) C zx0 yw_9 rfl (kX10_findPost _ _ _) dX10_cup_2 rfl (Nat.le_of_ble_eq_true rfl) (by decide) fun r_2 s_1 => ?_
  refine J_astore_n (L' := [(0, .inr (0, some i0)), (1, .inl x1), (2, .inr (8, r_2))]) C dX10_cup_5 (Nat.le_of_ble_eq_true rfl) rfl ?_
  refine J_aload_n C 2 dX10_cup_6 rfl ?_
  refine J_elim (fun e_4 => ?_) (fun i_3 e_4 => ?_)
  · subst e_4
    refine J_nonnull_n C dX10_cup_7 ?_
    refine J_iconst C dX10_cup_10 (zi9 rfl rfl) ?_
    exact J_iret C dX10_cup_11 (by decide) (by decide)
  · subst e_4
    refine J_nonnull_s C 12 dX10_cup_7 rfl ?_
    refine J_aload_n C 2 dX10_cup_12 rfl ?_
    refine gf_8_2 C dX10_cup_13 q_199 ?_
    refine J_iconst C dX10_cup_16 (zi9 rfl rfl) ?_
    refine J_ic_eq C 23 dX10_cup_17 rfl (fun _ => ?_) (fun _ => ?_)
    · refine J_aload_n C 0 dX10_cup_23 rfl ?_
      refine gf_0_11 C dX10_cup_24 q_267 ?_
      refine J_bipush C dX10_cup_27 (zi9 rfl rfl) (by decide) ?_
      refine J_ic_lt C 35 dX10_cup_29 rfl (fun _ => ?_) (fun _ => ?_)
      · refine J_new C zx5 dX10_cup_35 q_26 q_346 q_11 (by decide) (by decide) (by decide) fun s_5 => ?_
        refine J_dup C dX10_cup_38 ?_
        refine J_aload_n C 0 dX10_cup_39 rfl ?_
        refine gf_0_11 C dX10_cup_40 q_267 ?_
        refine J_aload_n C 2 dX10_cup_43 rfl ?_
        refine J_callIV (S := [.inr (5, some (gN s_1 5))]) (avs := [.inl (gI s_5 0 i0 11), .inr (8, some i_3)]) C yw_14 (kX4_init _ _ _ _) dX10_cup_44 rfl (Nat.le_of_ble_eq_true rfl) (by decide) fun _ s_6 => ?_
        refine J_astore_n (L' := [(0, .inr (0, some i0)), (1, .inl x1), (2, .inr (8, some i_3)), (3, .inr (5, some (gN s_1 5)))]) C dX10_cup_47 (Nat.le_of_ble_eq_true rfl) rfl ?_
        refine J_aload_n C 0 dX10_cup_48 rfl ?_
        refine gf_0_1 C dX10_cup_49 q_257 ?_
        refine J_nmR fun r_7 => ?_
        refine J_aload_n C 0 dX10_cup_52 rfl ?_
        refine gf_0_11 C dX10_cup_53 q_267 ?_
        refine J_aload_n C 3 dX10_cup_56 rfl ?_
        refine J_bind fun i_8 e_9 => ?_
        subst e_9
        refine J_g fun h_10 => ?_
        refine J_aast (t := 12) (N := 24) (u := 5) (a := 3) C zx5 (Nat.le_of_ble_eq_true rfl) rfl rfl (fun _ => rfl) h_10 dX10_cup_57 fun s_11 => ?_
        refine J_aload_n C 0 dX10_cup_58 rfl ?_
        refine J_dup C dX10_cup_59 ?_
        refine gf_0_11 C dX10_cup_60 q_267 ?_
        refine J_iconst C dX10_cup_63 (zi9 rfl rfl) ?_
        refine J_iadd C dX10_cup_64 ?_
        refine pf_0_11 C dX10_cup_65 q_267 fun s_12 => ?_
        refine J_aload_n C 3 dX10_cup_68 rfl ?_
        refine gf_5_0 C dX10_cup_69 q_354 ?_
        exact J_iret C dX10_cup_72 (by decide) (by decide)
      · refine J_bipush C dX10_cup_32 (zi9 rfl rfl) (by decide) ?_
        exact J_iret C dX10_cup_34 (by decide) (by decide)
    · refine J_bipush C dX10_cup_20 (zi9 rfl rfl) (by decide) ?_
      exact J_iret C dX10_cup_22 (by decide) (by decide)
def fX2_init (s0 : zS) (i0 : Nat) (x1 : Int) (x2 : Int) : Option (Unit × zS) :=
  up_ (sI s0 3 i0 0 x1) fun (s_1 : zS) => up_ (sI s_1 3 i0 1 x2) fun (s_2 : zS) => some ((), s_2)
set_option maxHeartbeats 4000000 in
set_option maxRecDepth 20000 in
theorem kX2_init (s0 : zS) (i0 : Nat) (x1 : Int) (x2 : Int) : zCt zw yX2_init cX2_init 3 none 1 12 0 0 eV [.inr (3, some i0), .inl x1, .inl x2] s0 (fX2_init s0 i0 x1 x2) := by
  refine zCt_on (own := RX2) (nm := "<init>") rfl rfl (by decide) (Nat.le_of_ble_eq_true rfl) fun K C => ?_
  show zJ zw 3 K _ 0 0 0 [(0, .inr (3, some i0)), (1, .inl x1), (2, .inl x2)] [] s0 (fX2_init s0 i0 x1 x2)
  unfold fX2_init
  refine J_aload_n C 0 dX2_init_0 rfl ?_
  refine J_objInit C dX2_init_1 q_422 q_22 q_23 (by decide) (Nat.le_of_ble_eq_true rfl) ?_
  refine J_aload_n C 0 dX2_init_4 rfl ?_
  refine J_iload_n C 1 dX2_init_5 rfl ?_
  refine pf_3_0 C ⟨rfl, rfl⟩ dX2_init_6 q_423 fun s_1 => ?_
  refine J_aload_n C 0 dX2_init_9 rfl ?_
  refine J_iload_n C 2 dX2_init_10 rfl ?_
  refine pf_3_1 C ⟨rfl, rfl⟩ dX2_init_11 q_426 fun s_2 => ?_
  exact J_vret C dX2_init_14 (by decide) (by decide)
def fX10_clerk (s0 : zS) (i0 : Nat) (x1 : Int) : Option (Int × zS) :=
  cl_ (fX10_within s0 x1 1 30) fun (x_2 : Int) (s_1 : zS) => if x_2 = 0 then (some ((-2), s_1)) else (if gI s_1 0 i0 12 < 4 then (up_ (sN s_1 3) fun (s_3 : zS) => cl_ (fX2_init s_3 (gN s_1 3) (gI s_3 0 i0 12) x1) fun (_ : Unit) (s_4 : zS) => nm_ (gR s_4 0 i0 2) fun (r_5 : Option Nat) => Option.bind r_5 fun i_6 => g_ ((0 : Int) ≤ gI s_4 0 i0 12 ∧ (gI s_4 0 i0 12 : Int) < 4) (up_ (sR s_4 13 i_6 (Int.toNat (gI s_4 0 i0 12)) (some (gN s_1 3))) fun (s_9 : zS) => up_ (sI s_9 0 i0 12 (wr ((gI s_9 0 i0 12) + 1))) fun (s_10 : zS) => some (gI s_10 3 (gN s_1 3) 0, s_10))) else (some ((-4), s_1)))
set_option maxHeartbeats 4000000 in
set_option maxRecDepth 20000 in
theorem kX10_clerk (s0 : zS) (i0 : Nat) (x1 : Int) : zCt zw yX10_clerk cX10_clerk 3 (some .int) 2 34 1 4 eI [.inr (0, some i0), .inl x1] s0 (fX10_clerk s0 i0 x1) := by
  refine zCt_on (own := RX10) (nm := "clerk") rfl rfl (by decide) (Nat.le_of_ble_eq_true rfl) fun K C => ?_
  show zJ zw 3 K _ 0 0 0 [(0, .inr (0, some i0)), (1, .inl x1)] [] s0 (fX10_clerk s0 i0 x1)
  unfold fX10_clerk
  refine J_iload_n C 1 dX10_clerk_0 rfl ?_
  refine J_iconst C dX10_clerk_1 (zi9 rfl rfl) ?_
  refine J_bipush C dX10_clerk_2 (zi9 rfl rfl) (by decide) ?_
  refine J_callSI (S := []) (avs := [.inl x1, .inl 1, .inl 30]) C yw_8 (kX10_within _ _ _ _) dX10_clerk_4 rfl (Nat.le_of_ble_eq_true rfl) (by decide) fun x_2 s_1 => ?_
  refine J_if_ne C 13 dX10_clerk_7 rfl (fun _ => ?_) (fun _ => ?_)
  · refine J_aload_n C 0 dX10_clerk_13 rfl ?_
    refine gf_0_12 C dX10_clerk_14 q_268 ?_
    refine J_iconst C dX10_clerk_17 (zi9 rfl rfl) ?_
    refine J_ic_lt C 24 dX10_clerk_18 rfl (fun _ => ?_) (fun _ => ?_)
    · refine J_new C zx3 dX10_clerk_24 q_28 q_418 q_12 (by decide) (by decide) (by decide) fun s_3 => ?_
      refine J_dup C dX10_clerk_27 ?_
      refine J_aload_n C 0 dX10_clerk_28 rfl ?_
      refine gf_0_12 C dX10_clerk_29 q_268 ?_
      refine J_iload_n C 1 dX10_clerk_32 rfl ?_
      refine J_callIV (S := [.inr (3, some (gN s_1 3))]) (avs := [.inl (gI s_3 0 i0 12), .inl x1]) C yw_15 (kX2_init _ _ _ _) dX10_clerk_33 rfl (Nat.le_of_ble_eq_true rfl) (by decide) fun _ s_4 => ?_
      refine J_astore_n (L' := [(0, .inr (0, some i0)), (1, .inl x1), (2, .inr (3, some (gN s_1 3)))]) C dX10_clerk_36 (Nat.le_of_ble_eq_true rfl) rfl ?_
      refine J_aload_n C 0 dX10_clerk_37 rfl ?_
      refine gf_0_2 C dX10_clerk_38 q_258 ?_
      refine J_nmR fun r_5 => ?_
      refine J_aload_n C 0 dX10_clerk_41 rfl ?_
      refine gf_0_12 C dX10_clerk_42 q_268 ?_
      refine J_aload_n C 2 dX10_clerk_45 rfl ?_
      refine J_bind fun i_6 e_7 => ?_
      subst e_7
      refine J_g fun h_8 => ?_
      refine J_aast (t := 13) (N := 4) (u := 3) (a := 4) C zx3 (Nat.le_of_ble_eq_true rfl) rfl rfl (fun _ => rfl) h_8 dX10_clerk_46 fun s_9 => ?_
      refine J_aload_n C 0 dX10_clerk_47 rfl ?_
      refine J_dup C dX10_clerk_48 ?_
      refine gf_0_12 C dX10_clerk_49 q_268 ?_
      refine J_iconst C dX10_clerk_52 (zi9 rfl rfl) ?_
      refine J_iadd C dX10_clerk_53 ?_
      refine pf_0_12 C dX10_clerk_54 q_268 fun s_10 => ?_
      refine J_aload_n C 2 dX10_clerk_57 rfl ?_
      refine gf_3_0 C dX10_clerk_58 q_425 ?_
      exact J_iret C dX10_clerk_61 (by decide) (by decide)
    · refine J_bipush C dX10_clerk_21 (zi9 rfl rfl) (by decide) ?_
      exact J_iret C dX10_clerk_23 (by decide) (by decide)
  · refine J_bipush C dX10_clerk_10 (zi9 rfl rfl) (by decide) ?_
    exact J_iret C dX10_clerk_12 (by decide) (by decide)
def fX10_order (s0 : zS) (i0 : Nat) (x1 : Int) : Option (Int × zS) :=
  cl_ (fX10_within s0 x1 0 2) fun (x_2 : Int) (s_1 : zS) => if x_2 = 0 then (some ((-2), s_1)) else (nm_ (gI s_1 0 i0 14) fun (x_3 : Int) => up_ (sI s_1 0 i0 14 x1) fun (s_4 : zS) => some (x_3, s_4))
set_option maxHeartbeats 4000000 in
set_option maxRecDepth 20000 in
theorem kX10_order (s0 : zS) (i0 : Nat) (x1 : Int) : zCt zw yX10_order cX10_order 3 (some .int) 1 22 0 0 eI [.inr (0, some i0), .inl x1] s0 (fX10_order s0 i0 x1) := by
  refine zCt_on (own := RX10) (nm := "order") rfl rfl (by decide) (Nat.le_of_ble_eq_true rfl) fun K C => ?_
  show zJ zw 3 K _ 0 0 0 [(0, .inr (0, some i0)), (1, .inl x1)] [] s0 (fX10_order s0 i0 x1)
  unfold fX10_order
  refine J_iload_n C 1 dX10_order_0 rfl ?_
  refine J_iconst C dX10_order_1 (zi9 rfl rfl) ?_
  refine J_iconst C dX10_order_2 (zi9 rfl rfl) ?_
  refine J_callSI (S := []) (avs := [.inl x1, .inl 0, .inl 2]) C yw_8 (kX10_within _ _ _ _) dX10_order_3 rfl (Nat.le_of_ble_eq_true rfl) (by decide) fun x_2 s_1 => ?_
  refine J_if_ne C 12 dX10_order_6 rfl (fun _ => ?_) (fun _ => ?_)
  · refine J_aload_n C 0 dX10_order_12 rfl ?_
    refine gf_0_14 C dX10_order_13 q_270 ?_
    refine J_nm fun x_3 => ?_
    refine J_istore_n (L' := [(0, .inr (0, some i0)), (1, .inl x1), (2, .inl x_3)]) C dX10_order_16 (Nat.le_of_ble_eq_true rfl) rfl ?_
    refine J_aload_n C 0 dX10_order_17 rfl ?_
    refine J_iload_n C 1 dX10_order_18 rfl ?_
    refine pf_0_14 C dX10_order_19 q_270 fun s_4 => ?_
    refine J_iload_n C 2 dX10_order_22 rfl ?_
    exact J_iret C dX10_order_23 (by decide) (by decide)
  · refine J_bipush C dX10_order_9 (zi9 rfl rfl) (by decide) ?_
    exact J_iret C dX10_order_11 (by decide) (by decide)
def fX10_drawer (s0 : zS) (i0 : Nat) (x1 : Int) (x2 : Int) : Option (Int × zS) :=
  cl_ (fX10_within s0 x1 0 5) fun (x_2 : Int) (s_1 : zS) => if x_2 = 0 then (some ((-2), s_1)) else (cl_ (fX10_within s_1 x2 0 1000) fun (x_4 : Int) (s_3 : zS) => if x_4 = 0 then (some ((-2), s_3)) else (nm_ (gR s_3 0 i0 4) fun (r_5 : Option Nat) => Option.bind r_5 fun i_6 => nm_ (gR s_3 4 i_6 0) fun (r_8 : Option Nat) => Option.bind r_8 fun i_9 => g_ ((0 : Int) ≤ x1 ∧ (x1 : Int) < 6) (nm_ (gI s_3 15 i_9 (Int.toNat (x1))) fun (x_12 : Int) => nm_ (gR s_3 0 i0 4) fun (r_13 : Option Nat) => Option.bind r_13 fun i_14 => nm_ (gR s_3 4 i_14 0) fun (r_16 : Option Nat) => Option.bind r_16 fun i_17 => g_ ((0 : Int) ≤ x1 ∧ (x1 : Int) < 6) (up_ (sI s_3 15 i_17 (Int.toNat (x1)) x2) fun (s_20 : zS) => some (x_12, s_20)))))
set_option maxHeartbeats 4000000 in
set_option maxRecDepth 20000 in
theorem kX10_drawer (s0 : zS) (i0 : Nat) (x1 : Int) (x2 : Int) : zCt zw yX10_drawer cX10_drawer 4 (some .int) 1 22 0 0 eI [.inr (0, some i0), .inl x1, .inl x2] s0 (fX10_drawer s0 i0 x1 x2) := by
  refine zCt_on (own := RX10) (nm := "drawer") rfl rfl (by decide) (Nat.le_of_ble_eq_true rfl) fun K C => ?_
  show zJ zw 4 K _ 0 0 0 [(0, .inr (0, some i0)), (1, .inl x1), (2, .inl x2)] [] s0 (fX10_drawer s0 i0 x1 x2)
  unfold fX10_drawer
  refine J_iload_n C 1 dX10_drawer_0 rfl ?_
  refine J_iconst C dX10_drawer_1 (zi9 rfl rfl) ?_
  refine J_iconst C dX10_drawer_2 (zi9 rfl rfl) ?_
  refine J_callSI (S := []) (avs := [.inl x1, .inl 0, .inl 5]) C yw_8 (kX10_within _ _ _ _) dX10_drawer_3 rfl (Nat.le_of_ble_eq_true rfl) (by decide) fun x_2 s_1 => ?_
  refine J_if_eq C 20 dX10_drawer_6 rfl (fun _ => ?_) (fun _ => ?_)
  · refine J_bipush C dX10_drawer_20 (zi9 rfl rfl) (by decide) ?_
    exact J_iret C dX10_drawer_22 (by decide) (by decide)
  · refine J_iload_n C 2 dX10_drawer_9 rfl ?_
    refine J_iconst C dX10_drawer_10 (zi9 rfl rfl) ?_
    refine J_sipush C dX10_drawer_11 (zi9 rfl rfl) (by decide) ?_
    refine J_callSI (S := []) (avs := [.inl x2, .inl 0, .inl 1000]) C yw_8 (kX10_within _ _ _ _) dX10_drawer_14 rfl (Nat.le_of_ble_eq_true rfl) (by decide) fun x_4 s_3 => ?_
    refine J_if_ne C 23 dX10_drawer_17 rfl (fun _ => ?_) (fun _ => ?_)
    · refine J_aload_n C 0 dX10_drawer_23 rfl ?_
      refine gf_0_4 C dX10_drawer_24 q_260 ?_
      refine J_nmR fun r_5 => ?_
      refine J_bind fun i_6 e_7 => ?_
      subst e_7
      refine gf_4_0 C dX10_drawer_27 q_38 ?_
      refine J_nmR fun r_8 => ?_
      refine J_iload_n C 1 dX10_drawer_30 rfl ?_
      refine J_bind fun i_9 e_10 => ?_
      subst e_10
      refine J_g fun h_11 => ?_
      refine J_iald (t := 15) (N := 6) C (Nat.le_of_ble_eq_true rfl) rfl rfl h_11 dX10_drawer_31 ?_
      refine J_nm fun x_12 => ?_
      refine J_istore_n (L' := [(0, .inr (0, some i0)), (1, .inl x1), (2, .inl x2), (3, .inl x_12)]) C dX10_drawer_32 (Nat.le_of_ble_eq_true rfl) rfl ?_
      refine J_aload_n C 0 dX10_drawer_33 rfl ?_
      refine gf_0_4 C dX10_drawer_34 q_260 ?_
      refine J_nmR fun r_13 => ?_
      refine J_bind fun i_14 e_15 => ?_
      subst e_15
      refine gf_4_0 C dX10_drawer_37 q_38 ?_
      refine J_nmR fun r_16 => ?_
      refine J_iload_n C 1 dX10_drawer_40 rfl ?_
      refine J_iload_n C 2 dX10_drawer_41 rfl ?_
      refine J_bind fun i_17 e_18 => ?_
      subst e_18
      refine J_g fun h_19 => ?_
      refine J_iast (t := 15) (N := 6) C (Nat.le_of_ble_eq_true rfl) rfl rfl h_19 dX10_drawer_42 fun s_20 => ?_
      refine J_iload_n C 3 dX10_drawer_43 rfl ?_
      exact J_iret C dX10_drawer_44 (by decide) (by decide)
    · refine J_bipush C dX10_drawer_20 (zi9 rfl rfl) (by decide) ?_
      exact J_iret C dX10_drawer_22 (by decide) (by decide)
def fX5_add (s0 : zS) (i0 : Nat) (x1 : Int) (x2 : Int) (x3 : Int) : Option (Unit × zS) :=
  if gI s0 6 i0 3 < 20 then (nm_ (gR s0 6 i0 0) fun (r_1 : Option Nat) => Option.bind r_1 fun i_2 => g_ ((0 : Int) ≤ gI s0 6 i0 3 ∧ (gI s0 6 i0 3 : Int) < 20) (up_ (sI s0 17 i_2 (Int.toNat (gI s0 6 i0 3)) x1) fun (s_5 : zS) => nm_ (gR s_5 6 i0 1) fun (r_6 : Option Nat) => Option.bind r_6 fun i_7 => g_ ((0 : Int) ≤ gI s_5 6 i0 3 ∧ (gI s_5 6 i0 3 : Int) < 20) (up_ (sI s_5 18 i_7 (Int.toNat (gI s_5 6 i0 3)) x2) fun (s_10 : zS) => nm_ (gR s_10 6 i0 2) fun (r_11 : Option Nat) => Option.bind r_11 fun i_12 => g_ ((0 : Int) ≤ gI s_10 6 i0 3 ∧ (gI s_10 6 i0 3 : Int) < 20) (up_ (sI s_10 19 i_12 (Int.toNat (gI s_10 6 i0 3)) x3) fun (s_15 : zS) => up_ (sI s_15 6 i0 3 (wr ((gI s_15 6 i0 3) + 1))) fun (s_16 : zS) => some ((), s_16))))) else (some ((), s0))
set_option maxHeartbeats 4000000 in
set_option maxRecDepth 20000 in
theorem kX5_add (s0 : zS) (i0 : Nat) (x1 : Int) (x2 : Int) (x3 : Int) : zCt zw yX5_add cX5_add 4 none 0 0 0 0 eV [.inr (6, some i0), .inl x1, .inl x2, .inl x3] s0 (fX5_add s0 i0 x1 x2 x3) := by
  refine zCt_on (own := RX5) (nm := "add") rfl rfl (by decide) (Nat.le_of_ble_eq_true rfl) fun K C => ?_
  show zJ zw 4 K _ 0 0 0 [(0, .inr (6, some i0)), (1, .inl x1), (2, .inl x2), (3, .inl x3)] [] s0 (fX5_add s0 i0 x1 x2 x3)
  unfold fX5_add
  refine J_aload_n C 0 dX5_add_0 rfl ?_
  refine gf_6_3 C dX5_add_1 q_66 ?_
  refine J_bipush C dX5_add_4 (zi9 rfl rfl) (by decide) ?_
  refine J_ic_ge C 49 dX5_add_6 rfl (fun _ => ?_) (fun _ => ?_)
  · exact J_vret C dX5_add_49 (by decide) (by decide)
  · refine J_aload_n C 0 dX5_add_9 rfl ?_
    refine gf_6_0 C dX5_add_10 q_63 ?_
    refine J_nmR fun r_1 => ?_
    refine J_aload_n C 0 dX5_add_13 rfl ?_
    refine gf_6_3 C dX5_add_14 q_66 ?_
    refine J_iload_n C 1 dX5_add_17 rfl ?_
    refine J_bind fun i_2 e_3 => ?_
    subst e_3
    refine J_g fun h_4 => ?_
    refine J_iast (t := 17) (N := 20) C (Nat.le_of_ble_eq_true rfl) rfl rfl h_4 dX5_add_18 fun s_5 => ?_
    refine J_aload_n C 0 dX5_add_19 rfl ?_
    refine gf_6_1 C dX5_add_20 q_64 ?_
    refine J_nmR fun r_6 => ?_
    refine J_aload_n C 0 dX5_add_23 rfl ?_
    refine gf_6_3 C dX5_add_24 q_66 ?_
    refine J_iload_n C 2 dX5_add_27 rfl ?_
    refine J_bind fun i_7 e_8 => ?_
    subst e_8
    refine J_g fun h_9 => ?_
    refine J_iast (t := 18) (N := 20) C (Nat.le_of_ble_eq_true rfl) rfl rfl h_9 dX5_add_28 fun s_10 => ?_
    refine J_aload_n C 0 dX5_add_29 rfl ?_
    refine gf_6_2 C dX5_add_30 q_65 ?_
    refine J_nmR fun r_11 => ?_
    refine J_aload_n C 0 dX5_add_33 rfl ?_
    refine gf_6_3 C dX5_add_34 q_66 ?_
    refine J_iload_n C 3 dX5_add_37 rfl ?_
    refine J_bind fun i_12 e_13 => ?_
    subst e_13
    refine J_g fun h_14 => ?_
    refine J_iast (t := 19) (N := 20) C (Nat.le_of_ble_eq_true rfl) rfl rfl h_14 dX5_add_38 fun s_15 => ?_
    refine J_aload_n C 0 dX5_add_39 rfl ?_
    refine J_dup C dX5_add_40 ?_
    refine gf_6_3 C dX5_add_41 q_66 ?_
    refine J_iconst C dX5_add_44 (zi9 rfl rfl) ?_
    refine J_iadd C dX5_add_45 ?_
    refine pf_6_3 C dX5_add_46 q_66 fun s_16 => ?_
    exact J_vret C dX5_add_49 (by decide) (by decide)
def fX10_fetch (s0 : zS) (i0 : Nat) (x1 : Int) (x2 : Int) (x3 : Int) : Option (Int × zS) :=
  cl_ (fX10_within s0 x1 0 5) fun (x_2 : Int) (s_1 : zS) => if x_2 = 0 then (some ((-2), s_1)) else (cl_ (fX10_within s_1 x2 1 100) fun (x_4 : Int) (s_3 : zS) => if x_4 = 0 then (some ((-2), s_3)) else (cl_ (fX10_within s_3 x3 1 200) fun (x_6 : Int) (s_5 : zS) => if x_6 = 0 then (some ((-2), s_5)) else (nm_ (gR s_5 0 i0 6) fun (r_7 : Option Nat) => Option.bind r_7 fun i_8 => if gI s_5 6 i_8 3 < 20 then (nm_ (gR s_5 0 i0 6) fun (r_10 : Option Nat) => Option.bind r_10 fun i_11 => cl_ (fX5_add s_5 i_11 x1 x2 (wr ((gI s_5 0 i0 13) + x3))) fun (_ : Unit) (s_13 : zS) => some (wr ((gI s_13 0 i0 13) + x3), s_13)) else (some ((-4), s_5)))))
set_option maxHeartbeats 4000000 in
set_option maxRecDepth 20000 in
theorem kX10_fetch (s0 : zS) (i0 : Nat) (x1 : Int) (x2 : Int) (x3 : Int) : zCt zw yX10_fetch cX10_fetch 4 (some .int) 1 23 0 0 eI [.inr (0, some i0), .inl x1, .inl x2, .inl x3] s0 (fX10_fetch s0 i0 x1 x2 x3) := by
  refine zCt_on (own := RX10) (nm := "fetch") rfl rfl (by decide) (Nat.le_of_ble_eq_true rfl) fun K C => ?_
  show zJ zw 4 K _ 0 0 0 [(0, .inr (0, some i0)), (1, .inl x1), (2, .inl x2), (3, .inl x3)] [] s0 (fX10_fetch s0 i0 x1 x2 x3)
  unfold fX10_fetch
  refine J_iload_n C 1 dX10_fetch_0 rfl ?_
  refine J_iconst C dX10_fetch_1 (zi9 rfl rfl) ?_
  refine J_iconst C dX10_fetch_2 (zi9 rfl rfl) ?_
  refine J_callSI (S := []) (avs := [.inl x1, .inl 0, .inl 5]) C yw_8 (kX10_within _ _ _ _) dX10_fetch_3 rfl (Nat.le_of_ble_eq_true rfl) (by decide) fun x_2 s_1 => ?_
  refine J_if_eq C 30 dX10_fetch_6 rfl (fun _ => ?_) (fun _ => ?_)
  · refine J_bipush C dX10_fetch_30 (zi9 rfl rfl) (by decide) ?_
    exact J_iret C dX10_fetch_32 (by decide) (by decide)
  · refine J_iload_n C 2 dX10_fetch_9 rfl ?_
    refine J_iconst C dX10_fetch_10 (zi9 rfl rfl) ?_
    refine J_bipush C dX10_fetch_11 (zi9 rfl rfl) (by decide) ?_
    refine J_callSI (S := []) (avs := [.inl x2, .inl 1, .inl 100]) C yw_8 (kX10_within _ _ _ _) dX10_fetch_13 rfl (Nat.le_of_ble_eq_true rfl) (by decide) fun x_4 s_3 => ?_
    refine J_if_eq C 30 dX10_fetch_16 rfl (fun _ => ?_) (fun _ => ?_)
    · refine J_bipush C dX10_fetch_30 (zi9 rfl rfl) (by decide) ?_
      exact J_iret C dX10_fetch_32 (by decide) (by decide)
    · refine J_iload_n C 3 dX10_fetch_19 rfl ?_
      refine J_iconst C dX10_fetch_20 (zi9 rfl rfl) ?_
      refine J_sipush C dX10_fetch_21 (zi9 rfl rfl) (by decide) ?_
      refine J_callSI (S := []) (avs := [.inl x3, .inl 1, .inl 200]) C yw_8 (kX10_within _ _ _ _) dX10_fetch_24 rfl (Nat.le_of_ble_eq_true rfl) (by decide) fun x_6 s_5 => ?_
      refine J_if_ne C 33 dX10_fetch_27 rfl (fun _ => ?_) (fun _ => ?_)
      · refine J_aload_n C 0 dX10_fetch_33 rfl ?_
        refine gf_0_6 C dX10_fetch_34 q_262 ?_
        refine J_nmR fun r_7 => ?_
        refine J_bind fun i_8 e_9 => ?_
        subst e_9
        refine gf_6_3 C dX10_fetch_37 q_67 ?_
        refine J_bipush C dX10_fetch_40 (zi9 rfl rfl) (by decide) ?_
        refine J_ic_lt C 48 dX10_fetch_42 rfl (fun _ => ?_) (fun _ => ?_)
        · refine J_aload_n C 0 dX10_fetch_48 rfl ?_
          refine gf_0_6 C dX10_fetch_49 q_262 ?_
          refine J_nmR fun r_10 => ?_
          refine J_iload_n C 1 dX10_fetch_52 rfl ?_
          refine J_iload_n C 2 dX10_fetch_53 rfl ?_
          refine J_aload_n C 0 dX10_fetch_54 rfl ?_
          refine gf_0_13 C dX10_fetch_55 q_269 ?_
          refine J_iload_n C 3 dX10_fetch_58 rfl ?_
          refine J_iadd C dX10_fetch_59 ?_
          refine J_bind fun i_11 e_12 => ?_
          subst e_12
          refine J_callVV (S := []) (avs := [.inl x1, .inl x2, .inl (wr ((gI s_5 0 i0 13) + x3))]) C zx6 yw_16 rfl (kX5_add _ _ _ _ _) dX10_fetch_60 rfl (Nat.le_of_ble_eq_true rfl) (by decide) fun _ s_13 => ?_
          refine J_aload_n C 0 dX10_fetch_63 rfl ?_
          refine gf_0_13 C dX10_fetch_64 q_269 ?_
          refine J_iload_n C 3 dX10_fetch_67 rfl ?_
          refine J_iadd C dX10_fetch_68 ?_
          exact J_iret C dX10_fetch_69 (by decide) (by decide)
        · refine J_bipush C dX10_fetch_45 (zi9 rfl rfl) (by decide) ?_
          exact J_iret C dX10_fetch_47 (by decide) (by decide)
      · refine J_bipush C dX10_fetch_30 (zi9 rfl rfl) (by decide) ?_
        exact J_iret C dX10_fetch_32 (by decide) (by decide)
def fX10_findCup (s0 : zS) (i0 : Nat) (x1 : Int) : Option (Option Nat × zS) :=
  if x1 < 0 then (some (none, s0)) else (if x1 < gI s0 0 i0 11 then (nm_ (gR s0 0 i0 1) fun (r_1 : Option Nat) => Option.bind r_1 fun i_2 => g_ ((0 : Int) ≤ x1 ∧ (x1 : Int) < 24) (nm_ (gR s0 12 i_2 (Int.toNat (x1))) fun (r_5 : Option Nat) => some (r_5, s0))) else (some (none, s0)))
set_option maxHeartbeats 4000000 in
set_option maxRecDepth 20000 in
theorem kX10_findCup (s0 : zS) (i0 : Nat) (x1 : Int) : zCt zw yX10_findCup cX10_findCup 2 (some (.object "FlyingChange$Cup")) 0 0 0 0 (eR 5) [.inr (0, some i0), .inl x1] s0 (fX10_findCup s0 i0 x1) := by
  refine zCt_on (own := RX10) (nm := "findCup") rfl rfl (by decide) (Nat.le_of_ble_eq_true rfl) fun K C => ?_
  show zJ zw 2 K _ 0 0 0 [(0, .inr (0, some i0)), (1, .inl x1)] [] s0 (fX10_findCup s0 i0 x1)
  unfold fX10_findCup
  refine J_iload_n C 1 dX10_findCup_0 rfl ?_
  refine J_if_lt C 12 dX10_findCup_1 rfl (fun _ => ?_) (fun _ => ?_)
  · refine J_null 5 C dX10_findCup_12 ?_
    refine J_goto C 22 dX10_findCup_13 rfl ?_
    exact J_aret C rfl dX10_findCup_22 (by decide) (by decide)
  · refine J_iload_n C 1 dX10_findCup_4 rfl ?_
    refine J_aload_n C 0 dX10_findCup_5 rfl ?_
    refine gf_0_11 C dX10_findCup_6 q_267 ?_
    refine J_ic_lt C 16 dX10_findCup_9 rfl (fun _ => ?_) (fun _ => ?_)
    · refine J_aload_n C 0 dX10_findCup_16 rfl ?_
      refine gf_0_1 C dX10_findCup_17 q_257 ?_
      refine J_nmR fun r_1 => ?_
      refine J_iload_n C 1 dX10_findCup_20 rfl ?_
      refine J_bind fun i_2 e_3 => ?_
      subst e_3
      refine J_g fun h_4 => ?_
      refine J_aald (t := 12) (N := 24) (u := 5) (a := 3) C (Nat.le_of_ble_eq_true rfl) rfl rfl (fun _ => rfl) h_4 dX10_findCup_21 ?_
      refine J_nmR fun r_5 => ?_
      exact J_aret C rfl dX10_findCup_22 (by decide) (by decide)
    · refine J_null 5 C dX10_findCup_12 ?_
      refine J_goto C 22 dX10_findCup_13 rfl ?_
      exact J_aret C rfl dX10_findCup_22 (by decide) (by decide)
def fX4_leaveFor (s0 : zS) (i0 : Nat) (x1 : Int) : Option (Unit × zS) :=
  up_ (sI s0 5 i0 3 x1) fun (s_1 : zS) => up_ (sR s_1 5 i0 4 none) fun (s_2 : zS) => up_ (sR s_2 5 i0 6 none) fun (s_3 : zS) => up_ (sR s_3 5 i0 7 none) fun (s_4 : zS) => up_ (sR s_4 5 i0 8 none) fun (s_5 : zS) => some ((), s_5)
set_option maxHeartbeats 4000000 in
set_option maxRecDepth 20000 in
theorem kX4_leaveFor (s0 : zS) (i0 : Nat) (x1 : Int) : zCt zw yX4_leaveFor cX4_leaveFor 2 none 0 0 0 0 eV [.inr (5, some i0), .inl x1] s0 (fX4_leaveFor s0 i0 x1) := by
  refine zCt_on (own := RX4) (nm := "leaveFor") rfl rfl (by decide) (Nat.le_of_ble_eq_true rfl) fun K C => ?_
  show zJ zw 2 K _ 0 0 0 [(0, .inr (5, some i0)), (1, .inl x1)] [] s0 (fX4_leaveFor s0 i0 x1)
  unfold fX4_leaveFor
  refine J_aload_n C 0 dX4_leaveFor_0 rfl ?_
  refine J_iload_n C 1 dX4_leaveFor_1 rfl ?_
  refine pf_5_3 C dX4_leaveFor_2 q_359 fun s_1 => ?_
  refine J_aload_n C 0 dX4_leaveFor_5 rfl ?_
  refine J_null 8 C dX4_leaveFor_6 ?_
  refine pf_5_4 C dX4_leaveFor_7 q_361 fun s_2 => ?_
  refine J_aload_n C 0 dX4_leaveFor_10 rfl ?_
  refine J_null 8 C dX4_leaveFor_11 ?_
  refine pf_5_6 C dX4_leaveFor_12 q_365 fun s_3 => ?_
  refine J_aload_n C 0 dX4_leaveFor_15 rfl ?_
  refine J_null 8 C dX4_leaveFor_16 ?_
  refine pf_5_7 C dX4_leaveFor_17 q_367 fun s_4 => ?_
  refine J_aload_n C 0 dX4_leaveFor_20 rfl ?_
  refine J_null 3 C dX4_leaveFor_21 ?_
  refine pf_5_8 C dX4_leaveFor_22 q_369 fun s_5 => ?_
  exact J_vret C dX4_leaveFor_25 (by decide) (by decide)
def fX4_waitToGoUp (s0 : zS) (i0 : Nat) (r1 : Option Nat) (x2 : Int) : Option (Unit × zS) :=
  cl_ (fX4_leaveFor s0 i0 1) fun (_ : Unit) (s_1 : zS) => up_ (sR s_1 5 i0 4 r1) fun (s_2 : zS) => up_ (sI s_2 5 i0 5 1) fun (s_3 : zS) => up_ (sI s_3 5 i0 10 x2) fun (s_4 : zS) => some ((), s_4)
set_option maxHeartbeats 4000000 in
set_option maxRecDepth 20000 in
theorem kX4_waitToGoUp (s0 : zS) (i0 : Nat) (r1 : Option Nat) (x2 : Int) : zCt zw yX4_waitToGoUp cX4_waitToGoUp 3 none 1 21 0 0 eV [.inr (5, some i0), .inr (8, r1), .inl x2] s0 (fX4_waitToGoUp s0 i0 r1 x2) := by
  refine zCt_on (own := RX4) (nm := "waitToGoUp") rfl rfl (by decide) (Nat.le_of_ble_eq_true rfl) fun K C => ?_
  show zJ zw 3 K _ 0 0 0 [(0, .inr (5, some i0)), (1, .inr (8, r1)), (2, .inl x2)] [] s0 (fX4_waitToGoUp s0 i0 r1 x2)
  unfold fX4_waitToGoUp
  refine J_aload_n C 0 dX4_waitToGoUp_0 rfl ?_
  refine J_iconst C dX4_waitToGoUp_1 (zi9 rfl rfl) ?_
  refine J_callVV (S := []) (avs := [.inl 1]) C zx5 yw_17 rfl (kX4_leaveFor _ _ _) dX4_waitToGoUp_2 rfl (Nat.le_of_ble_eq_true rfl) (by decide) fun _ s_1 => ?_
  refine J_aload_n C 0 dX4_waitToGoUp_5 rfl ?_
  refine J_aload_n C 1 dX4_waitToGoUp_6 rfl ?_
  refine pf_5_4 C dX4_waitToGoUp_7 q_361 fun s_2 => ?_
  refine J_aload_n C 0 dX4_waitToGoUp_10 rfl ?_
  refine J_iconst C dX4_waitToGoUp_11 (zi9 rfl rfl) ?_
  refine pf_5_5 C (by decide) dX4_waitToGoUp_12 q_363 fun s_3 => ?_
  refine J_aload_n C 0 dX4_waitToGoUp_15 rfl ?_
  refine J_iload_n C 2 dX4_waitToGoUp_16 rfl ?_
  refine pf_5_10 C dX4_waitToGoUp_17 q_373 fun s_4 => ?_
  exact J_vret C dX4_waitToGoUp_20 (by decide) (by decide)
def fX10_send (s0 : zS) (i0 : Nat) (x1 : Int) (x2 : Int) (x3 : Int) (x4 : Int) : Option (Int × zS) :=
  cl_ (fX10_findCup s0 i0 x1) fun (r_2 : Option Nat) (s_1 : zS) => Option.elim r_2 (some ((-1), s_1)) fun i_3 => cl_ (fX10_within s_1 x2 1 3000) fun (x_6 : Int) (s_5 : zS) => if x_6 = 0 then (some ((-2), s_5)) else (cl_ (fX10_within s_5 x3 0 5) fun (x_8 : Int) (s_7 : zS) => if x_8 = 0 then (some ((-2), s_7)) else (cl_ (fX10_within s_7 x4 1 50) fun (x_10 : Int) (s_9 : zS) => if x_10 = 0 then (some ((-2), s_9)) else (g_ ((0 : Int) ≤ x3 ∧ (x3 : Int) < 6) (nm_ (wr (x4 * (zWt (Int.toNat (x3))))) fun (x_12 : Int) => if gI s_9 5 i_3 3 = 0 then (if x_12 < x2 then (some ((-3), s_9)) else (nm_ (gR s_9 5 i_3 2) fun (r_13 : Option Nat) => Option.bind r_13 fun i_14 => nm_ (gR s_9 4 i_14 0) fun (r_16 : Option Nat) => Option.bind r_16 fun i_17 => g_ ((0 : Int) ≤ x3 ∧ (x3 : Int) < 6) (up_ (sI s_9 15 i_17 (Int.toNat (x3)) x4) fun (s_20 : zS) => up_ (sI s_20 5 i_3 12 1) fun (s_21 : zS) => up_ (sI s_21 5 i_3 13 x2) fun (s_22 : zS) => up_ (sI s_22 5 i_3 14 (gI s_22 0 i0 13)) fun (s_23 : zS) => up_ (sI s_23 0 i0 15 (wr ((gI s_23 0 i0 15) + x_12))) fun (s_24 : zS) => nm_ (gR s_24 5 i_3 1) fun (r_25 : Option Nat) => cl_ (fX4_waitToGoUp s_24 i_3 r_25 (gI s_24 0 i0 13)) fun (_ : Unit) (s_26 : zS) => some (wr (x_12 - x2), s_26)))) else (some ((-3), s_9))))))
set_option maxHeartbeats 4000000 in
set_option maxRecDepth 20000 in
theorem kX10_send (s0 : zS) (i0 : Nat) (x1 : Int) (x2 : Int) (x3 : Int) (x4 : Int) : zCt zw yX10_send cX10_send 7 (some .int) 2 43 0 0 eI [.inr (0, some i0), .inl x1, .inl x2, .inl x3, .inl x4] s0 (fX10_send s0 i0 x1 x2 x3 x4) := by
  refine zCt_on (own := RX10) (nm := "send") rfl rfl (by decide) (Nat.le_of_ble_eq_true rfl) fun K C => ?_
  show zJ zw 7 K _ 0 0 0 [(0, .inr (0, some i0)), (1, .inl x1), (2, .inl x2), (3, .inl x3), (4, .inl x4)] [] s0 (fX10_send s0 i0 x1 x2 x3 x4)
  unfold fX10_send
  refine J_aload_n C 0 dX10_send_0 rfl ?_
  refine J_iload_n C 1 dX10_send_1 rfl ?_
  refine J_callVR (S := []) (avs := [.inl x1]) C zx0 yw_19 rfl (kX10_findCup _ _ _) dX10_send_2 rfl (Nat.le_of_ble_eq_true rfl) (by decide) fun r_2 s_1 => ?_
  refine J_astore (L' := [(0, .inr (0, some i0)), (1, .inl x1), (2, .inl x2), (3, .inl x3), (4, .inl x4), (5, .inr (5, r_2))]) C dX10_send_5 (Nat.le_of_ble_eq_true rfl) rfl ?_
  refine J_aload C 5 dX10_send_7 rfl ?_
  refine J_elim (fun e_4 => ?_) (fun i_3 e_4 => ?_)
  · subst e_4
    refine J_nonnull_n C dX10_send_9 ?_
    refine J_iconst C dX10_send_12 (zi9 rfl rfl) ?_
    exact J_iret C dX10_send_13 (by decide) (by decide)
  · subst e_4
    refine J_nonnull_s C 14 dX10_send_9 rfl ?_
    refine J_iload_n C 2 dX10_send_14 rfl ?_
    refine J_iconst C dX10_send_15 (zi9 rfl rfl) ?_
    refine J_sipush C dX10_send_16 (zi9 rfl rfl) (by decide) ?_
    refine J_callSI (S := []) (avs := [.inl x2, .inl 1, .inl 3000]) C yw_8 (kX10_within _ _ _ _) dX10_send_19 rfl (Nat.le_of_ble_eq_true rfl) (by decide) fun x_6 s_5 => ?_
    refine J_if_eq C 45 dX10_send_22 rfl (fun _ => ?_) (fun _ => ?_)
    · refine J_bipush C dX10_send_45 (zi9 rfl rfl) (by decide) ?_
      exact J_iret C dX10_send_47 (by decide) (by decide)
    · refine J_iload_n C 3 dX10_send_25 rfl ?_
      refine J_iconst C dX10_send_26 (zi9 rfl rfl) ?_
      refine J_iconst C dX10_send_27 (zi9 rfl rfl) ?_
      refine J_callSI (S := []) (avs := [.inl x3, .inl 0, .inl 5]) C yw_8 (kX10_within _ _ _ _) dX10_send_28 rfl (Nat.le_of_ble_eq_true rfl) (by decide) fun x_8 s_7 => ?_
      refine J_if_eq C 45 dX10_send_31 rfl (fun _ => ?_) (fun _ => ?_)
      · refine J_bipush C dX10_send_45 (zi9 rfl rfl) (by decide) ?_
        exact J_iret C dX10_send_47 (by decide) (by decide)
      · refine J_iload C 4 dX10_send_34 rfl ?_
        refine J_iconst C dX10_send_36 (zi9 rfl rfl) ?_
        refine J_bipush C dX10_send_37 (zi9 rfl rfl) (by decide) ?_
        refine J_callSI (S := []) (avs := [.inl x4, .inl 1, .inl 50]) C yw_8 (kX10_within _ _ _ _) dX10_send_39 rfl (Nat.le_of_ble_eq_true rfl) (by decide) fun x_10 s_9 => ?_
        refine J_if_ne C 48 dX10_send_42 rfl (fun _ => ?_) (fun _ => ?_)
        · refine J_iload C 4 dX10_send_48 rfl ?_
          refine J_gets C dX10_send_50 q_464 ?_
          refine J_iload_n C 3 dX10_send_53 rfl ?_
          refine J_g fun h_11 => ?_
          refine J_wald C h_11 dX10_send_54 ?_
          refine J_imul C dX10_send_55 ?_
          refine J_nm fun x_12 => ?_
          refine J_istore (L' := [(0, .inr (0, some i0)), (1, .inl x1), (2, .inl x2), (3, .inl x3), (4, .inl x4), (5, .inr (5, some i_3)), (6, .inl x_12)]) C dX10_send_56 (Nat.le_of_ble_eq_true rfl) rfl ?_
          refine J_aload C 5 dX10_send_58 rfl ?_
          refine gf_5_3 C dX10_send_60 q_360 ?_
          refine J_if_ne C 72 dX10_send_63 rfl (fun _ => ?_) (fun _ => ?_)
          · refine J_bipush C dX10_send_72 (zi9 rfl rfl) (by decide) ?_
            exact J_iret C dX10_send_74 (by decide) (by decide)
          · refine J_iload C 6 dX10_send_66 rfl ?_
            refine J_iload_n C 2 dX10_send_68 rfl ?_
            refine J_ic_ge C 75 dX10_send_69 rfl (fun _ => ?_) (fun _ => ?_)
            · refine J_aload C 5 dX10_send_75 rfl ?_
              refine gf_5_2 C dX10_send_77 q_358 ?_
              refine J_nmR fun r_13 => ?_
              refine J_bind fun i_14 e_15 => ?_
              subst e_15
              refine gf_4_0 C dX10_send_80 q_38 ?_
              refine J_nmR fun r_16 => ?_
              refine J_iload_n C 3 dX10_send_83 rfl ?_
              refine J_iload C 4 dX10_send_84 rfl ?_
              refine J_bind fun i_17 e_18 => ?_
              subst e_18
              refine J_g fun h_19 => ?_
              refine J_iast (t := 15) (N := 6) C (Nat.le_of_ble_eq_true rfl) rfl rfl h_19 dX10_send_86 fun s_20 => ?_
              refine J_aload C 5 dX10_send_87 rfl ?_
              refine J_iconst C dX10_send_89 (zi9 rfl rfl) ?_
              refine pf_5_12 C dX10_send_90 q_379 fun s_21 => ?_
              refine J_aload C 5 dX10_send_93 rfl ?_
              refine J_iload_n C 2 dX10_send_95 rfl ?_
              refine pf_5_13 C dX10_send_96 q_380 fun s_22 => ?_
              refine J_aload C 5 dX10_send_99 rfl ?_
              refine J_aload_n C 0 dX10_send_101 rfl ?_
              refine gf_0_13 C dX10_send_102 q_269 ?_
              refine pf_5_14 C dX10_send_105 q_382 fun s_23 => ?_
              refine J_aload_n C 0 dX10_send_108 rfl ?_
              refine J_dup C dX10_send_109 ?_
              refine gf_0_15 C dX10_send_110 q_271 ?_
              refine J_iload C 6 dX10_send_113 rfl ?_
              refine J_iadd C dX10_send_115 ?_
              refine pf_0_15 C dX10_send_116 q_271 fun s_24 => ?_
              refine J_aload C 5 dX10_send_119 rfl ?_
              refine J_aload C 5 dX10_send_121 rfl ?_
              refine gf_5_1 C dX10_send_123 q_356 ?_
              refine J_nmR fun r_25 => ?_
              refine J_aload_n C 0 dX10_send_126 rfl ?_
              refine gf_0_13 C dX10_send_127 q_269 ?_
              refine J_callVV (S := []) (avs := [.inr (8, r_25), .inl (gI s_24 0 i0 13)]) C zx5 yw_18 rfl (kX4_waitToGoUp _ _ _ _) dX10_send_130 rfl (Nat.le_of_ble_eq_true rfl) (by decide) fun _ s_26 => ?_
              refine J_iload C 6 dX10_send_133 rfl ?_
              refine J_iload_n C 2 dX10_send_135 rfl ?_
              refine J_isub C dX10_send_136 ?_
              exact J_iret C dX10_send_137 (by decide) (by decide)
            · refine J_bipush C dX10_send_72 (zi9 rfl rfl) (by decide) ?_
              exact J_iret C dX10_send_74 (by decide) (by decide)
        · refine J_bipush C dX10_send_45 (zi9 rfl rfl) (by decide) ?_
          exact J_iret C dX10_send_47 (by decide) (by decide)
def fX10_resend (s0 : zS) (i0 : Nat) (x1 : Int) : Option (Int × zS) :=
  cl_ (fX10_findCup s0 i0 x1) fun (r_2 : Option Nat) (s_1 : zS) => Option.elim r_2 (some ((-1), s_1)) fun i_3 => if gI s_1 5 i_3 3 = 5 then (nm_ (gR s_1 5 i_3 4) fun (r_5 : Option Nat) => Option.elim r_5 (some ((-3), s_1)) fun i_6 => nm_ (gR s_1 5 i_3 4) fun (r_8 : Option Nat) => cl_ (fX4_waitToGoUp s_1 i_3 r_8 (gI s_1 0 i0 13)) fun (_ : Unit) (s_9 : zS) => nm_ (gR s_9 5 i_3 4) fun (r_10 : Option Nat) => Option.bind r_10 fun i_11 => some (gI s_9 8 i_11 0, s_9)) else (some ((-3), s_1))
set_option maxHeartbeats 4000000 in
set_option maxRecDepth 20000 in
theorem kX10_resend (s0 : zS) (i0 : Nat) (x1 : Int) : zCt zw yX10_resend cX10_resend 3 (some .int) 2 43 0 0 eI [.inr (0, some i0), .inl x1] s0 (fX10_resend s0 i0 x1) := by
  refine zCt_on (own := RX10) (nm := "resend") rfl rfl (by decide) (Nat.le_of_ble_eq_true rfl) fun K C => ?_
  show zJ zw 3 K _ 0 0 0 [(0, .inr (0, some i0)), (1, .inl x1)] [] s0 (fX10_resend s0 i0 x1)
  unfold fX10_resend
  refine J_aload_n C 0 dX10_resend_0 rfl ?_
  refine J_iload_n C 1 dX10_resend_1 rfl ?_
  refine J_callVR (S := []) (avs := [.inl x1]) C zx0 yw_19 rfl (kX10_findCup _ _ _) dX10_resend_2 rfl (Nat.le_of_ble_eq_true rfl) (by decide) fun r_2 s_1 => ?_
  refine J_astore_n (L' := [(0, .inr (0, some i0)), (1, .inl x1), (2, .inr (5, r_2))]) C dX10_resend_5 (Nat.le_of_ble_eq_true rfl) rfl ?_
  refine J_aload_n C 2 dX10_resend_6 rfl ?_
  refine J_elim (fun e_4 => ?_) (fun i_3 e_4 => ?_)
  · subst e_4
    refine J_nonnull_n C dX10_resend_7 ?_
    refine J_iconst C dX10_resend_10 (zi9 rfl rfl) ?_
    exact J_iret C dX10_resend_11 (by decide) (by decide)
  · subst e_4
    refine J_nonnull_s C 12 dX10_resend_7 rfl ?_
    refine J_aload_n C 2 dX10_resend_12 rfl ?_
    refine gf_5_3 C dX10_resend_13 q_360 ?_
    refine J_iconst C dX10_resend_16 (zi9 rfl rfl) ?_
    refine J_ic_ne C 27 dX10_resend_17 rfl (fun _ => ?_) (fun _ => ?_)
    · refine J_bipush C dX10_resend_27 (zi9 rfl rfl) (by decide) ?_
      exact J_iret C dX10_resend_29 (by decide) (by decide)
    · refine J_aload_n C 2 dX10_resend_20 rfl ?_
      refine gf_5_4 C dX10_resend_21 q_362 ?_
      refine J_nmR fun r_5 => ?_
      refine J_elim (fun e_7 => ?_) (fun i_6 e_7 => ?_)
      · subst e_7
        refine J_nonnull_n C dX10_resend_24 ?_
        refine J_bipush C dX10_resend_27 (zi9 rfl rfl) (by decide) ?_
        exact J_iret C dX10_resend_29 (by decide) (by decide)
      · subst e_7
        refine J_nonnull_s C 30 dX10_resend_24 rfl ?_
        refine J_aload_n C 2 dX10_resend_30 rfl ?_
        refine J_aload_n C 2 dX10_resend_31 rfl ?_
        refine gf_5_4 C dX10_resend_32 q_362 ?_
        refine J_nmR fun r_8 => ?_
        refine J_aload_n C 0 dX10_resend_35 rfl ?_
        refine gf_0_13 C dX10_resend_36 q_269 ?_
        refine J_callVV (S := []) (avs := [.inr (8, r_8), .inl (gI s_1 0 i0 13)]) C zx5 yw_18 rfl (kX4_waitToGoUp _ _ _ _) dX10_resend_39 rfl (Nat.le_of_ble_eq_true rfl) (by decide) fun _ s_9 => ?_
        refine J_aload_n C 2 dX10_resend_42 rfl ?_
        refine gf_5_4 C dX10_resend_43 q_362 ?_
        refine J_nmR fun r_10 => ?_
        refine J_bind fun i_11 e_12 => ?_
        subst e_12
        refine gf_8_0 C dX10_resend_46 q_194 ?_
        exact J_iret C dX10_resend_49 (by decide) (by decide)
def fX10_porterMayTake (s0 : zS) (r0 : Option Nat) : Option (Int × zS) :=
  Option.bind r0 fun i_1 => nm_ (gR s0 5 i_1 4) fun (r_3 : Option Nat) => Option.elim r_3 (some (0, s0)) fun i_4 => if gI s0 5 i_1 3 = 1 then (if gI s0 5 i_1 5 = 0 then (nm_ (gR s0 5 i_1 7) fun (r_7 : Option Nat) => Option.elim r_7 (some (1, s0)) fun i_8 => some (0, s0)) else (some (0, s0))) else (if gI s0 5 i_1 3 = 2 then (nm_ (gR s0 5 i_1 4) fun (r_11 : Option Nat) => Option.bind r_11 fun i_12 => if gI s0 8 i_12 6 = 0 then (some (1, s0)) else (some (0, s0))) else (if gI s0 5 i_1 3 = 3 then (some (0, s0)) else (if gI s0 5 i_1 3 = 4 then (some (0, s0)) else (if gI s0 5 i_1 3 = 5 then (some (1, s0)) else (some (0, s0))))))
set_option maxHeartbeats 4000000 in
set_option maxRecDepth 20000 in
theorem kX10_porterMayTake (s0 : zS) (r0 : Option Nat) : zCt zw yX10_porterMayTake cX10_porterMayTake 1 (some .boolean) 0 0 0 0 eI [.inr (5, r0)] s0 (fX10_porterMayTake s0 r0) := by
  refine zCt_on (own := RX10) (nm := "porterMayTake") rfl rfl (by decide) (Nat.le_of_ble_eq_true rfl) fun K C => ?_
  show zJ zw 1 K _ 0 0 0 [(0, .inr (5, r0))] [] s0 (fX10_porterMayTake s0 r0)
  unfold fX10_porterMayTake
  refine J_aload_n C 0 dX10_porterMayTake_0 rfl ?_
  refine J_bind fun i_1 e_2 => ?_
  subst e_2
  refine gf_5_4 C dX10_porterMayTake_1 q_362 ?_
  refine J_nmR fun r_3 => ?_
  refine J_elim (fun e_5 => ?_) (fun i_4 e_5 => ?_)
  · subst e_5
    refine J_nonnull_n C dX10_porterMayTake_4 ?_
    refine J_iconst C dX10_porterMayTake_7 (zi9 rfl rfl) ?_
    exact J_zret C (by decide) dX10_porterMayTake_8 (by decide) (by decide)
  · subst e_5
    refine J_nonnull_s C 9 dX10_porterMayTake_4 rfl ?_
    refine J_aload_n C 0 dX10_porterMayTake_9 rfl ?_
    refine gf_5_3 C dX10_porterMayTake_10 q_360 ?_
    refine J_if (fun h_6 => ?_) (fun h_6 => ?_)
    · refine J_swIn C 66 dX10_porterMayTake_13 (by omega) (by omega) (by rw [h_6]; rfl) rfl ?_
      refine J_aload_n C 0 dX10_porterMayTake_66 rfl ?_
      refine gf_5_5 C dX10_porterMayTake_67 q_364 ?_
      refine J_if_ne C 84 dX10_porterMayTake_70 rfl (fun _ => ?_) (fun _ => ?_)
      · refine J_iconst C dX10_porterMayTake_84 (zi9 rfl rfl) ?_
        exact J_zret C (by decide) dX10_porterMayTake_85 (by decide) (by decide)
      · refine J_aload_n C 0 dX10_porterMayTake_73 rfl ?_
        refine gf_5_7 C dX10_porterMayTake_74 q_368 ?_
        refine J_nmR fun r_7 => ?_
        refine J_elim (fun e_9 => ?_) (fun i_8 e_9 => ?_)
        · subst e_9
          refine J_nonnull_n C dX10_porterMayTake_77 ?_
          refine J_iconst C dX10_porterMayTake_80 (zi9 rfl rfl) ?_
          refine J_goto C 85 dX10_porterMayTake_81 rfl ?_
          exact J_zret C (by decide) dX10_porterMayTake_85 (by decide) (by decide)
        · subst e_9
          refine J_nonnull_s C 84 dX10_porterMayTake_77 rfl ?_
          refine J_iconst C dX10_porterMayTake_84 (zi9 rfl rfl) ?_
          exact J_zret C (by decide) dX10_porterMayTake_85 (by decide) (by decide)
    · refine J_if (fun h_10 => ?_) (fun h_10 => ?_)
      · refine J_swIn C 48 dX10_porterMayTake_13 (by omega) (by omega) (by rw [h_10]; rfl) rfl ?_
        refine J_aload_n C 0 dX10_porterMayTake_48 rfl ?_
        refine gf_5_4 C dX10_porterMayTake_49 q_362 ?_
        refine J_nmR fun r_11 => ?_
        refine J_bind fun i_12 e_13 => ?_
        subst e_13
        refine gf_8_6 C dX10_porterMayTake_52 q_206 ?_
        refine J_if_ne C 62 dX10_porterMayTake_55 rfl (fun _ => ?_) (fun _ => ?_)
        · refine J_iconst C dX10_porterMayTake_62 (zi9 rfl rfl) ?_
          exact J_zret C (by decide) dX10_porterMayTake_63 (by decide) (by decide)
        · refine J_iconst C dX10_porterMayTake_58 (zi9 rfl rfl) ?_
          refine J_goto C 63 dX10_porterMayTake_59 rfl ?_
          exact J_zret C (by decide) dX10_porterMayTake_63 (by decide) (by decide)
      · refine J_if (fun h_14 => ?_) (fun h_14 => ?_)
        · refine J_swIn C 86 dX10_porterMayTake_13 (by omega) (by omega) (by rw [h_14]; rfl) rfl ?_
          refine J_iconst C dX10_porterMayTake_86 (zi9 rfl rfl) ?_
          exact J_zret C (by decide) dX10_porterMayTake_87 (by decide) (by decide)
        · refine J_if (fun h_15 => ?_) (fun h_15 => ?_)
          · refine J_swIn C 86 dX10_porterMayTake_13 (by omega) (by omega) (by rw [h_15]; rfl) rfl ?_
            refine J_iconst C dX10_porterMayTake_86 (zi9 rfl rfl) ?_
            exact J_zret C (by decide) dX10_porterMayTake_87 (by decide) (by decide)
          · refine J_if (fun h_16 => ?_) (fun h_16 => ?_)
            · refine J_swIn C 64 dX10_porterMayTake_13 (by omega) (by omega) (by rw [h_16]; rfl) rfl ?_
              refine J_iconst C dX10_porterMayTake_64 (zi9 rfl rfl) ?_
              exact J_zret C (by decide) dX10_porterMayTake_65 (by decide) (by decide)
            · refine J_swOut C 86 dX10_porterMayTake_13 (by omega) rfl ?_
              refine J_iconst C dX10_porterMayTake_86 (zi9 rfl rfl) ?_
              exact J_zret C (by decide) dX10_porterMayTake_87 (by decide) (by decide)
def fX10_way_L7 : Nat → zS → Int → Option Nat → Option Nat → Option (Int × zS)
  | 0, _, _, _, _ => none
  | n + 1, s0, x2, r3, r4 =>
    Option.elim r3 (some (x2, s0)) fun i_1 => Option.elim r4 (some (x2, s0)) fun i_3 => if some i_1 = some i_3 then (some (x2, s0)) else (if gI s0 8 i_3 0 < gI s0 8 i_1 0 then (nm_ (wr (x2 + (gI s0 8 i_1 3))) fun (x_7 : Int) => nm_ (gR s0 8 i_1 1) fun (r_8 : Option Nat) => fX10_way_L7 n s0 x_7 r_8 (some i_3)) else (nm_ (wr (x2 + (gI s0 8 i_3 3))) fun (x_5 : Int) => nm_ (gR s0 8 i_3 1) fun (r_6 : Option Nat) => fX10_way_L7 n s0 x_5 (some i_1) r_6))
def fX10_way (nf : Nat) (s0 : zS) (r0 : Option Nat) (r1 : Option Nat) : Option (Int × zS) :=
  fX10_way_L7 nf s0 0 r0 r1
set_option maxHeartbeats 4000000 in
set_option maxRecDepth 20000 in
theorem kX10_way_L7 {K : zKx} (C : zC zw 5 K RX10 cX10_way "way" (some .int) 0 0 0 0)  : ∀ (n : Nat) (s0 : zS) (x2 : Int) (r3 : Option Nat) (r4 : Option Nat), zJ zw 5 K (zQm zw eI 0 0 K) 0 0 7 [(2, .inl x2), (3, .inr (8, r3)), (4, .inr (8, r4))] [] s0 (fX10_way_L7 n s0 x2 r3 r4) := by
  intro n
  induction n with
  | zero => intro s0 x2 r3 r4; exact J_none
  | succ n ih =>
    intro s0 x2 r3 r4
    rw [fX10_way_L7]
    refine J_aload_n C 1 dX10_way_7 rfl ?_
    refine J_elim (fun e_2 => ?_) (fun i_1 e_2 => ?_)
    · subst e_2
      refine J_null_n C 67 dX10_way_8 rfl ?_
      refine J_iload_n C 0 dX10_way_67 rfl ?_
      exact J_iret C dX10_way_68 (by decide) (by decide)
    · subst e_2
      refine J_null_s C dX10_way_8 ?_
      refine J_aload C 2 dX10_way_11 rfl ?_
      refine J_elim (fun e_4 => ?_) (fun i_3 e_4 => ?_)
      · subst e_4
        refine J_null_n C 67 dX10_way_13 rfl ?_
        refine J_iload_n C 0 dX10_way_67 rfl ?_
        exact J_iret C dX10_way_68 (by decide) (by decide)
      · subst e_4
        refine J_null_s C dX10_way_13 ?_
        refine J_aload_n C 1 dX10_way_16 rfl ?_
        refine J_aload C 2 dX10_way_17 rfl ?_
        refine J_acmp_eq C 67 (Nat.le_of_ble_eq_true rfl) dX10_way_19 rfl (fun _ => ?_) (fun _ => ?_)
        · refine J_iload_n C 0 dX10_way_67 rfl ?_
          exact J_iret C dX10_way_68 (by decide) (by decide)
        · refine J_aload_n C 1 dX10_way_22 rfl ?_
          refine gf_8_0 C dX10_way_23 q_194 ?_
          refine J_aload C 2 dX10_way_26 rfl ?_
          refine gf_8_0 C dX10_way_28 q_194 ?_
          refine J_ic_le C 49 dX10_way_31 rfl (fun _ => ?_) (fun _ => ?_)
          · refine J_iload_n C 0 dX10_way_49 rfl ?_
            refine J_aload C 2 dX10_way_50 rfl ?_
            refine gf_8_3 C dX10_way_52 q_200 ?_
            refine J_iadd C dX10_way_55 ?_
            refine J_nm fun x_5 => ?_
            refine J_istore_n (L' := [(2, .inl x_5), (3, .inr (8, some i_1)), (4, .inr (8, some i_3))]) C dX10_way_56 (Nat.le_of_ble_eq_true rfl) rfl ?_
            refine J_aload C 2 dX10_way_57 rfl ?_
            refine gf_8_1 C dX10_way_59 q_197 ?_
            refine J_nmR fun r_6 => ?_
            refine J_astore (L' := [(2, .inl x_5), (3, .inr (8, some i_1)), (4, .inr (8, r_6))]) C dX10_way_62 (Nat.le_of_ble_eq_true rfl) rfl ?_
            refine J_goto C 7 dX10_way_64 rfl ?_
            exact ih _ _ _ _
          · refine J_iload_n C 0 dX10_way_34 rfl ?_
            refine J_aload_n C 1 dX10_way_35 rfl ?_
            refine gf_8_3 C dX10_way_36 q_200 ?_
            refine J_iadd C dX10_way_39 ?_
            refine J_nm fun x_7 => ?_
            refine J_istore_n (L' := [(2, .inl x_7), (3, .inr (8, some i_1)), (4, .inr (8, some i_3))]) C dX10_way_40 (Nat.le_of_ble_eq_true rfl) rfl ?_
            refine J_aload_n C 1 dX10_way_41 rfl ?_
            refine gf_8_1 C dX10_way_42 q_197 ?_
            refine J_nmR fun r_8 => ?_
            refine J_astore_n (L' := [(2, .inl x_7), (3, .inr (8, r_8)), (4, .inr (8, some i_3))]) C dX10_way_45 (Nat.le_of_ble_eq_true rfl) rfl ?_
            refine J_goto C 7 dX10_way_46 rfl ?_
            exact ih _ _ _ _
set_option maxHeartbeats 4000000 in
set_option maxRecDepth 20000 in
theorem kX10_way (nf : Nat) (s0 : zS) (r0 : Option Nat) (r1 : Option Nat) : zCt zw yX10_way cX10_way 5 (some .int) 0 0 0 0 eI [.inr (8, r0), .inr (8, r1)] s0 (fX10_way nf s0 r0 r1) := by
  refine zCt_on (own := RX10) (nm := "way") rfl rfl (by decide) (Nat.le_of_ble_eq_true rfl) fun K C => ?_
  show zJ zw 5 K _ 0 0 0 [(0, .inr (8, r0)), (1, .inr (8, r1))] [] s0 (fX10_way nf s0 r0 r1)
  unfold fX10_way
  refine J_iconst C dX10_way_0 (zi9 rfl rfl) ?_
  refine J_istore_n (L' := [(0, .inr (8, r0)), (1, .inr (8, r1)), (2, .inl 0)]) C dX10_way_1 (Nat.le_of_ble_eq_true rfl) rfl ?_
  refine J_aload_n C 0 dX10_way_2 rfl ?_
  refine J_astore_n (L' := [(0, .inr (8, r0)), (1, .inr (8, r1)), (2, .inl 0), (3, .inr (8, r0))]) C dX10_way_3 (Nat.le_of_ble_eq_true rfl) rfl ?_
  refine J_aload_n C 1 dX10_way_4 rfl ?_
  refine J_astore (L' := [(0, .inr (8, r0)), (1, .inr (8, r1)), (2, .inl 0), (3, .inr (8, r0)), (4, .inr (8, r1))]) C dX10_way_5 (Nat.le_of_ble_eq_true rfl) rfl ?_
  refine J_loc (L' := [(2, .inl 0), (3, .inr (8, r0)), (4, .inr (8, r1))]) [2, 3, 4] rfl ?_
  exact kX10_way_L7 C _ _ _ _ _
def fX10_porter (nf : Nat) (s0 : zS) (i0 : Nat) (x1 : Int) : Option (Int × zS) :=
  cl_ (fX10_findCup s0 i0 x1) fun (r_2 : Option Nat) (s_1 : zS) => Option.elim r_2 (some ((-1), s_1)) fun i_3 => cl_ (fX10_porterMayTake s_1 (some i_3)) fun (x_6 : Int) (s_5 : zS) => if x_6 = 0 then (some ((-3), s_5)) else (nm_ (gR s_5 5 i_3 4) fun (r_7 : Option Nat) => nm_ (gR s_5 5 i_3 1) fun (r_8 : Option Nat) => cl_ (fX10_way nf s_5 r_7 r_8) fun (x_10 : Int) (s_9 : zS) => up_ (sI s_9 5 i_3 11 (wr ((gI s_5 0 i0 13) + (imax 1 (wr (3 * x_10)))))) fun (s_11 : zS) => cl_ (fX4_leaveFor s_11 i_3 6) fun (_ : Unit) (s_12 : zS) => some (gI s_12 5 i_3 11, s_12))
set_option maxHeartbeats 4000000 in
set_option maxRecDepth 20000 in
theorem kX10_porter (nf : Nat) (s0 : zS) (i0 : Nat) (x1 : Int) : zCt zw yX10_porter cX10_porter 3 (some .int) 1 24 0 0 eI [.inr (0, some i0), .inl x1] s0 (fX10_porter nf s0 i0 x1) := by
  refine zCt_on (own := RX10) (nm := "porter") rfl rfl (by decide) (Nat.le_of_ble_eq_true rfl) fun K C => ?_
  show zJ zw 3 K _ 0 0 0 [(0, .inr (0, some i0)), (1, .inl x1)] [] s0 (fX10_porter nf s0 i0 x1)
  unfold fX10_porter
  refine J_aload_n C 0 dX10_porter_0 rfl ?_
  refine J_iload_n C 1 dX10_porter_1 rfl ?_
  refine J_callVR (S := []) (avs := [.inl x1]) C zx0 yw_19 rfl (kX10_findCup _ _ _) dX10_porter_2 rfl (Nat.le_of_ble_eq_true rfl) (by decide) fun r_2 s_1 => ?_
  refine J_astore_n (L' := [(0, .inr (0, some i0)), (1, .inl x1), (2, .inr (5, r_2))]) C dX10_porter_5 (Nat.le_of_ble_eq_true rfl) rfl ?_
  refine J_aload_n C 2 dX10_porter_6 rfl ?_
  refine J_elim (fun e_4 => ?_) (fun i_3 e_4 => ?_)
  · subst e_4
    refine J_nonnull_n C dX10_porter_7 ?_
    refine J_iconst C dX10_porter_10 (zi9 rfl rfl) ?_
    exact J_iret C dX10_porter_11 (by decide) (by decide)
  · subst e_4
    refine J_nonnull_s C 12 dX10_porter_7 rfl ?_
    refine J_aload_n C 2 dX10_porter_12 rfl ?_
    refine J_callSI (S := []) (avs := [.inr (5, some i_3)]) C yw_22 (kX10_porterMayTake _ _) dX10_porter_13 rfl (Nat.le_of_ble_eq_true rfl) (by decide) fun x_6 s_5 => ?_
    refine J_if_ne C 22 dX10_porter_16 rfl (fun _ => ?_) (fun _ => ?_)
    · refine J_aload_n C 2 dX10_porter_22 rfl ?_
      refine J_aload_n C 0 dX10_porter_23 rfl ?_
      refine gf_0_13 C dX10_porter_24 q_269 ?_
      refine J_iconst C dX10_porter_27 (zi9 rfl rfl) ?_
      refine J_iconst C dX10_porter_28 (zi9 rfl rfl) ?_
      refine J_aload_n C 2 dX10_porter_29 rfl ?_
      refine gf_5_4 C dX10_porter_30 q_362 ?_
      refine J_nmR fun r_7 => ?_
      refine J_aload_n C 2 dX10_porter_33 rfl ?_
      refine gf_5_1 C dX10_porter_34 q_356 ?_
      refine J_nmR fun r_8 => ?_
      refine J_callSI (S := [.inl 3, .inl 1, .inl (gI s_5 0 i0 13), .inr (5, some i_3)]) (avs := [.inr (8, r_7), .inr (8, r_8)]) C yw_21 (kX10_way _ _ _ _) dX10_porter_37 rfl (Nat.le_of_ble_eq_true rfl) (by decide) fun x_10 s_9 => ?_
      refine J_imul C dX10_porter_40 ?_
      refine J_mmax (S := [.inl (gI s_5 0 i0 13), .inr (5, some i_3)]) C dX10_porter_41 q_488 q_489 q_13 q_490 (by decide) (Nat.le_of_ble_eq_true rfl) (by decide) (by decide) ?_
      refine J_iadd C dX10_porter_44 ?_
      refine pf_5_11 C dX10_porter_45 q_377 fun s_11 => ?_
      refine J_aload_n C 2 dX10_porter_48 rfl ?_
      refine J_bipush C dX10_porter_49 (zi9 rfl rfl) (by decide) ?_
      refine J_callVV (S := []) (avs := [.inl 6]) C zx5 yw_20 rfl (kX4_leaveFor _ _ _) dX10_porter_51 rfl (Nat.le_of_ble_eq_true rfl) (by decide) fun _ s_12 => ?_
      refine J_aload_n C 2 dX10_porter_54 rfl ?_
      refine gf_5_11 C dX10_porter_55 q_377 ?_
      exact J_iret C dX10_porter_58 (by decide) (by decide)
    · refine J_bipush C dX10_porter_19 (zi9 rfl rfl) (by decide) ?_
      exact J_iret C dX10_porter_21 (by decide) (by decide)
def fX4_holder (s0 : zS) (i0 : Nat) : Option (Int × zS) :=
  nm_ (gR s0 5 i0 8) fun (r_1 : Option Nat) => Option.elim r_1 (nm_ (gR s0 5 i0 4) fun (r_2 : Option Nat) => Option.elim r_2 (some ((-9), s0)) fun i_3 => nm_ (gR s0 5 i0 4) fun (r_5 : Option Nat) => Option.bind r_5 fun i_6 => some (gI s0 8 i_6 0, s0)) fun i_8 => nm_ (gR s0 5 i0 8) fun (r_10 : Option Nat) => Option.bind r_10 fun i_11 => some (gI s0 3 i_11 0, s0)
set_option maxHeartbeats 4000000 in
set_option maxRecDepth 20000 in
theorem kX4_holder (s0 : zS) (i0 : Nat) : zCt zw yX4_holder cX4_holder 1 (some .int) 0 0 0 0 eI [.inr (5, some i0)] s0 (fX4_holder s0 i0) := by
  refine zCt_on (own := RX4) (nm := "holder") rfl rfl (by decide) (Nat.le_of_ble_eq_true rfl) fun K C => ?_
  show zJ zw 1 K _ 0 0 0 [(0, .inr (5, some i0))] [] s0 (fX4_holder s0 i0)
  unfold fX4_holder
  refine J_aload_n C 0 dX4_holder_0 rfl ?_
  refine gf_5_8 C dX4_holder_1 q_369 ?_
  refine J_nmR fun r_1 => ?_
  refine J_elim (fun e_9 => ?_) (fun i_8 e_9 => ?_)
  · subst e_9
    refine J_null_n C 15 dX4_holder_4 rfl ?_
    refine J_aload_n C 0 dX4_holder_15 rfl ?_
    refine gf_5_4 C dX4_holder_16 q_361 ?_
    refine J_nmR fun r_2 => ?_
    refine J_elim (fun e_4 => ?_) (fun i_3 e_4 => ?_)
    · subst e_4
      refine J_nonnull_n C dX4_holder_19 ?_
      refine J_bipush C dX4_holder_22 (zi9 rfl rfl) (by decide) ?_
      refine J_goto C 34 dX4_holder_24 rfl ?_
      exact J_iret C dX4_holder_34 (by decide) (by decide)
    · subst e_4
      refine J_nonnull_s C 27 dX4_holder_19 rfl ?_
      refine J_aload_n C 0 dX4_holder_27 rfl ?_
      refine gf_5_4 C dX4_holder_28 q_361 ?_
      refine J_nmR fun r_5 => ?_
      refine J_bind fun i_6 e_7 => ?_
      subst e_7
      refine gf_8_0 C dX4_holder_31 q_195 ?_
      exact J_iret C dX4_holder_34 (by decide) (by decide)
  · subst e_9
    refine J_null_s C dX4_holder_4 ?_
    refine J_aload_n C 0 dX4_holder_7 rfl ?_
    refine gf_5_8 C dX4_holder_8 q_369 ?_
    refine J_nmR fun r_10 => ?_
    refine J_bind fun i_11 e_12 => ?_
    subst e_12
    refine gf_3_0 C dX4_holder_11 q_424 ?_
    exact J_iret C dX4_holder_14 (by decide) (by decide)
def fX4_measure (s0 : zS) (i0 : Nat) : Option (Int × zS) :=
  if gI s0 5 i0 3 = 1 then (some (gI s0 5 i0 10, s0)) else (if gI s0 5 i0 3 = 2 then (some (gI s0 5 i0 9, s0)) else (if gI s0 5 i0 3 = 3 then (some (gI s0 5 i0 10, s0)) else (if gI s0 5 i0 3 = 4 then (nm_ (gR s0 5 i0 8) fun (r_5 : Option Nat) => Option.elim r_5 (some ((-9), s0)) fun i_6 => nm_ (gR s0 5 i0 8) fun (r_8 : Option Nat) => Option.bind r_8 fun i_9 => some (gI s0 3 i_9 3, s0)) else (if gI s0 5 i0 3 = 5 then (some ((-9), s0)) else (if gI s0 5 i0 3 = 6 then (some (gI s0 5 i0 11, s0)) else (some ((-9), s0)))))))
set_option maxHeartbeats 4000000 in
set_option maxRecDepth 20000 in
theorem kX4_measure (s0 : zS) (i0 : Nat) : zCt zw yX4_measure cX4_measure 1 (some .int) 0 0 0 0 eI [.inr (5, some i0)] s0 (fX4_measure s0 i0) := by
  refine zCt_on (own := RX4) (nm := "measure") rfl rfl (by decide) (Nat.le_of_ble_eq_true rfl) fun K C => ?_
  show zJ zw 1 K _ 0 0 0 [(0, .inr (5, some i0))] [] s0 (fX4_measure s0 i0)
  unfold fX4_measure
  refine J_aload_n C 0 dX4_measure_0 rfl ?_
  refine gf_5_3 C dX4_measure_1 q_359 ?_
  refine J_if (fun h_1 => ?_) (fun h_1 => ?_)
  · refine J_swIn C 44 dX4_measure_4 (by omega) (by omega) (by rw [h_1]; rfl) rfl ?_
    refine J_aload_n C 0 dX4_measure_44 rfl ?_
    refine gf_5_10 C dX4_measure_45 q_373 ?_
    exact J_iret C dX4_measure_48 (by decide) (by decide)
  · refine J_if (fun h_2 => ?_) (fun h_2 => ?_)
    · refine J_swIn C 49 dX4_measure_4 (by omega) (by omega) (by rw [h_2]; rfl) rfl ?_
      refine J_aload_n C 0 dX4_measure_49 rfl ?_
      refine gf_5_9 C dX4_measure_50 q_371 ?_
      exact J_iret C dX4_measure_53 (by decide) (by decide)
    · refine J_if (fun h_3 => ?_) (fun h_3 => ?_)
      · refine J_swIn C 44 dX4_measure_4 (by omega) (by omega) (by rw [h_3]; rfl) rfl ?_
        refine J_aload_n C 0 dX4_measure_44 rfl ?_
        refine gf_5_10 C dX4_measure_45 q_373 ?_
        exact J_iret C dX4_measure_48 (by decide) (by decide)
      · refine J_if (fun h_4 => ?_) (fun h_4 => ?_)
        · refine J_swIn C 54 dX4_measure_4 (by omega) (by omega) (by rw [h_4]; rfl) rfl ?_
          refine J_aload_n C 0 dX4_measure_54 rfl ?_
          refine gf_5_8 C dX4_measure_55 q_369 ?_
          refine J_nmR fun r_5 => ?_
          refine J_elim (fun e_7 => ?_) (fun i_6 e_7 => ?_)
          · subst e_7
            refine J_nonnull_n C dX4_measure_58 ?_
            refine J_bipush C dX4_measure_61 (zi9 rfl rfl) (by decide) ?_
            refine J_goto C 73 dX4_measure_63 rfl ?_
            exact J_iret C dX4_measure_73 (by decide) (by decide)
          · subst e_7
            refine J_nonnull_s C 66 dX4_measure_58 rfl ?_
            refine J_aload_n C 0 dX4_measure_66 rfl ?_
            refine gf_5_8 C dX4_measure_67 q_369 ?_
            refine J_nmR fun r_8 => ?_
            refine J_bind fun i_9 e_10 => ?_
            subst e_10
            refine gf_3_3 C dX4_measure_70 q_429 ?_
            exact J_iret C dX4_measure_73 (by decide) (by decide)
        · refine J_if (fun h_11 => ?_) (fun h_11 => ?_)
          · refine J_swIn C 79 dX4_measure_4 (by omega) (by omega) (by rw [h_11]; rfl) rfl ?_
            refine J_bipush C dX4_measure_79 (zi9 rfl rfl) (by decide) ?_
            exact J_iret C dX4_measure_81 (by decide) (by decide)
          · refine J_if (fun h_12 => ?_) (fun h_12 => ?_)
            · refine J_swIn C 74 dX4_measure_4 (by omega) (by omega) (by rw [h_12]; rfl) rfl ?_
              refine J_aload_n C 0 dX4_measure_74 rfl ?_
              refine gf_5_11 C dX4_measure_75 q_376 ?_
              exact J_iret C dX4_measure_78 (by decide) (by decide)
            · refine J_swOut C 79 dX4_measure_4 (by omega) rfl ?_
              refine J_bipush C dX4_measure_79 (zi9 rfl rfl) (by decide) ?_
              exact J_iret C dX4_measure_81 (by decide) (by decide)
def fX10_cupAt (s0 : zS) (i0 : Nat) (x1 : Int) (x2 : Int) : Option (Int × zS) :=
  cl_ (fX10_findCup s0 i0 x1) fun (r_2 : Option Nat) (s_1 : zS) => Option.elim r_2 (some ((-1), s_1)) fun i_3 => if x2 = 0 then (some (gI s_1 5 i_3 3, s_1)) else (if x2 = 1 then (cl_ (fX4_holder s_1 i_3) fun (x_8 : Int) (s_7 : zS) => some (x_8, s_7)) else (if x2 = 2 then (cl_ (fX4_measure s_1 i_3) fun (x_11 : Int) (s_10 : zS) => some (x_11, s_10)) else (if x2 = 3 then (if gI s_1 5 i_3 3 = 1 then (if gI s_1 5 i_3 5 = 0 then (some (0, s_1)) else (some (1, s_1))) else (if gI s_1 5 i_3 3 = 2 then (if gI s_1 5 i_3 5 = 0 then (some (0, s_1)) else (some (1, s_1))) else (some ((-9), s_1)))) else (if x2 = 4 then (nm_ (gR s_1 5 i_3 7) fun (r_14 : Option Nat) => Option.elim r_14 (some ((-9), s_1)) fun i_15 => nm_ (gR s_1 5 i_3 7) fun (r_17 : Option Nat) => Option.bind r_17 fun i_18 => some (gI s_1 8 i_18 0, s_1)) else (if x2 = 5 then (nm_ (gR s_1 5 i_3 1) fun (r_21 : Option Nat) => Option.bind r_21 fun i_22 => some (gI s_1 8 i_22 0, s_1)) else (if x2 = 6 then (some (gI s_1 5 i_3 12, s_1)) else (if x2 = 7 then (if gI s_1 5 i_3 12 = 0 then (some ((-9), s_1)) else (some (gI s_1 5 i_3 13, s_1))) else (if x2 = 8 then (if gI s_1 5 i_3 12 = 0 then (some ((-9), s_1)) else (some (gI s_1 5 i_3 14, s_1))) else (some ((-2), s_1))))))))))
set_option maxHeartbeats 4000000 in
set_option maxRecDepth 20000 in
theorem kX10_cupAt (s0 : zS) (i0 : Nat) (x1 : Int) (x2 : Int) : zCt zw yX10_cupAt cX10_cupAt 4 (some .int) 1 21 0 0 eI [.inr (0, some i0), .inl x1, .inl x2] s0 (fX10_cupAt s0 i0 x1 x2) := by
  refine zCt_on (own := RX10) (nm := "cupAt") rfl rfl (by decide) (Nat.le_of_ble_eq_true rfl) fun K C => ?_
  show zJ zw 4 K _ 0 0 0 [(0, .inr (0, some i0)), (1, .inl x1), (2, .inl x2)] [] s0 (fX10_cupAt s0 i0 x1 x2)
  unfold fX10_cupAt
  refine J_aload_n C 0 dX10_cupAt_0 rfl ?_
  refine J_iload_n C 1 dX10_cupAt_1 rfl ?_
  refine J_callVR (S := []) (avs := [.inl x1]) C zx0 yw_19 rfl (kX10_findCup _ _ _) dX10_cupAt_2 rfl (Nat.le_of_ble_eq_true rfl) (by decide) fun r_2 s_1 => ?_
  refine J_astore_n (L' := [(0, .inr (0, some i0)), (1, .inl x1), (2, .inl x2), (3, .inr (5, r_2))]) C dX10_cupAt_5 (Nat.le_of_ble_eq_true rfl) rfl ?_
  refine J_aload_n C 3 dX10_cupAt_6 rfl ?_
  refine J_elim (fun e_4 => ?_) (fun i_3 e_4 => ?_)
  · subst e_4
    refine J_nonnull_n C dX10_cupAt_7 ?_
    refine J_iconst C dX10_cupAt_10 (zi9 rfl rfl) ?_
    exact J_iret C dX10_cupAt_11 (by decide) (by decide)
  · subst e_4
    refine J_nonnull_s C 12 dX10_cupAt_7 rfl ?_
    refine J_iload_n C 2 dX10_cupAt_12 rfl ?_
    refine J_if (fun h_5 => ?_) (fun h_5 => ?_)
    · refine J_swIn C 64 dX10_cupAt_13 (by omega) (by omega) (by rw [h_5]; rfl) rfl ?_
      refine J_aload_n C 3 dX10_cupAt_64 rfl ?_
      refine gf_5_3 C dX10_cupAt_65 q_360 ?_
      exact J_iret C dX10_cupAt_68 (by decide) (by decide)
    · refine J_if (fun h_6 => ?_) (fun h_6 => ?_)
      · refine J_swIn C 69 dX10_cupAt_13 (by omega) (by omega) (by rw [h_6]; rfl) rfl ?_
        refine J_aload_n C 3 dX10_cupAt_69 rfl ?_
        refine J_callVI (S := []) (avs := []) C zx5 yw_23 rfl (kX4_holder _ _) dX10_cupAt_70 rfl (Nat.le_of_ble_eq_true rfl) (by decide) fun x_8 s_7 => ?_
        exact J_iret C dX10_cupAt_73 (by decide) (by decide)
      · refine J_if (fun h_9 => ?_) (fun h_9 => ?_)
        · refine J_swIn C 74 dX10_cupAt_13 (by omega) (by omega) (by rw [h_9]; rfl) rfl ?_
          refine J_aload_n C 3 dX10_cupAt_74 rfl ?_
          refine J_callVI (S := []) (avs := []) C zx5 yw_24 rfl (kX4_measure _ _) dX10_cupAt_75 rfl (Nat.le_of_ble_eq_true rfl) (by decide) fun x_11 s_10 => ?_
          exact J_iret C dX10_cupAt_78 (by decide) (by decide)
        · refine J_if (fun h_12 => ?_) (fun h_12 => ?_)
          · refine J_swIn C 79 dX10_cupAt_13 (by omega) (by omega) (by rw [h_12]; rfl) rfl ?_
            refine J_aload_n C 3 dX10_cupAt_79 rfl ?_
            refine gf_5_3 C dX10_cupAt_80 q_360 ?_
            refine J_iconst C dX10_cupAt_83 (zi9 rfl rfl) ?_
            refine J_ic_eq C 100 dX10_cupAt_84 rfl (fun _ => ?_) (fun _ => ?_)
            · refine J_aload_n C 3 dX10_cupAt_100 rfl ?_
              refine gf_5_5 C dX10_cupAt_101 q_364 ?_
              refine J_if_eq C 111 dX10_cupAt_104 rfl (fun _ => ?_) (fun _ => ?_)
              · refine J_iconst C dX10_cupAt_111 (zi9 rfl rfl) ?_
                exact J_iret C dX10_cupAt_112 (by decide) (by decide)
              · refine J_iconst C dX10_cupAt_107 (zi9 rfl rfl) ?_
                refine J_goto C 112 dX10_cupAt_108 rfl ?_
                exact J_iret C dX10_cupAt_112 (by decide) (by decide)
            · refine J_aload_n C 3 dX10_cupAt_87 rfl ?_
              refine gf_5_3 C dX10_cupAt_88 q_360 ?_
              refine J_iconst C dX10_cupAt_91 (zi9 rfl rfl) ?_
              refine J_ic_eq C 100 dX10_cupAt_92 rfl (fun _ => ?_) (fun _ => ?_)
              · refine J_aload_n C 3 dX10_cupAt_100 rfl ?_
                refine gf_5_5 C dX10_cupAt_101 q_364 ?_
                refine J_if_eq C 111 dX10_cupAt_104 rfl (fun _ => ?_) (fun _ => ?_)
                · refine J_iconst C dX10_cupAt_111 (zi9 rfl rfl) ?_
                  exact J_iret C dX10_cupAt_112 (by decide) (by decide)
                · refine J_iconst C dX10_cupAt_107 (zi9 rfl rfl) ?_
                  refine J_goto C 112 dX10_cupAt_108 rfl ?_
                  exact J_iret C dX10_cupAt_112 (by decide) (by decide)
              · refine J_bipush C dX10_cupAt_95 (zi9 rfl rfl) (by decide) ?_
                refine J_goto C 112 dX10_cupAt_97 rfl ?_
                exact J_iret C dX10_cupAt_112 (by decide) (by decide)
          · refine J_if (fun h_13 => ?_) (fun h_13 => ?_)
            · refine J_swIn C 113 dX10_cupAt_13 (by omega) (by omega) (by rw [h_13]; rfl) rfl ?_
              refine J_aload_n C 3 dX10_cupAt_113 rfl ?_
              refine gf_5_7 C dX10_cupAt_114 q_368 ?_
              refine J_nmR fun r_14 => ?_
              refine J_elim (fun e_16 => ?_) (fun i_15 e_16 => ?_)
              · subst e_16
                refine J_nonnull_n C dX10_cupAt_117 ?_
                refine J_bipush C dX10_cupAt_120 (zi9 rfl rfl) (by decide) ?_
                refine J_goto C 132 dX10_cupAt_122 rfl ?_
                exact J_iret C dX10_cupAt_132 (by decide) (by decide)
              · subst e_16
                refine J_nonnull_s C 125 dX10_cupAt_117 rfl ?_
                refine J_aload_n C 3 dX10_cupAt_125 rfl ?_
                refine gf_5_7 C dX10_cupAt_126 q_368 ?_
                refine J_nmR fun r_17 => ?_
                refine J_bind fun i_18 e_19 => ?_
                subst e_19
                refine gf_8_0 C dX10_cupAt_129 q_194 ?_
                exact J_iret C dX10_cupAt_132 (by decide) (by decide)
            · refine J_if (fun h_20 => ?_) (fun h_20 => ?_)
              · refine J_swIn C 133 dX10_cupAt_13 (by omega) (by omega) (by rw [h_20]; rfl) rfl ?_
                refine J_aload_n C 3 dX10_cupAt_133 rfl ?_
                refine gf_5_1 C dX10_cupAt_134 q_356 ?_
                refine J_nmR fun r_21 => ?_
                refine J_bind fun i_22 e_23 => ?_
                subst e_23
                refine gf_8_0 C dX10_cupAt_137 q_194 ?_
                exact J_iret C dX10_cupAt_140 (by decide) (by decide)
              · refine J_if (fun h_24 => ?_) (fun h_24 => ?_)
                · refine J_swIn C 141 dX10_cupAt_13 (by omega) (by omega) (by rw [h_24]; rfl) rfl ?_
                  refine J_aload_n C 3 dX10_cupAt_141 rfl ?_
                  refine gf_5_12 C dX10_cupAt_142 q_379 ?_
                  exact J_iret C dX10_cupAt_145 (by decide) (by decide)
                · refine J_if (fun h_25 => ?_) (fun h_25 => ?_)
                  · refine J_swIn C 146 dX10_cupAt_13 (by omega) (by omega) (by rw [h_25]; rfl) rfl ?_
                    refine J_aload_n C 3 dX10_cupAt_146 rfl ?_
                    refine gf_5_12 C dX10_cupAt_147 q_379 ?_
                    refine J_if_ne C 158 dX10_cupAt_150 rfl (fun _ => ?_) (fun _ => ?_)
                    · refine J_aload_n C 3 dX10_cupAt_158 rfl ?_
                      refine gf_5_13 C dX10_cupAt_159 q_380 ?_
                      exact J_iret C dX10_cupAt_162 (by decide) (by decide)
                    · refine J_bipush C dX10_cupAt_153 (zi9 rfl rfl) (by decide) ?_
                      refine J_goto C 162 dX10_cupAt_155 rfl ?_
                      exact J_iret C dX10_cupAt_162 (by decide) (by decide)
                  · refine J_if (fun h_26 => ?_) (fun h_26 => ?_)
                    · refine J_swIn C 163 dX10_cupAt_13 (by omega) (by omega) (by rw [h_26]; rfl) rfl ?_
                      refine J_aload_n C 3 dX10_cupAt_163 rfl ?_
                      refine gf_5_12 C dX10_cupAt_164 q_379 ?_
                      refine J_if_ne C 175 dX10_cupAt_167 rfl (fun _ => ?_) (fun _ => ?_)
                      · refine J_aload_n C 3 dX10_cupAt_175 rfl ?_
                        refine gf_5_14 C dX10_cupAt_176 q_382 ?_
                        exact J_iret C dX10_cupAt_179 (by decide) (by decide)
                      · refine J_bipush C dX10_cupAt_170 (zi9 rfl rfl) (by decide) ?_
                        refine J_goto C 179 dX10_cupAt_172 rfl ?_
                        exact J_iret C dX10_cupAt_179 (by decide) (by decide)
                    · refine J_swOut C 180 dX10_cupAt_13 (by omega) rfl ?_
                      refine J_bipush C dX10_cupAt_180 (zi9 rfl rfl) (by decide) ?_
                      exact J_iret C dX10_cupAt_182 (by decide) (by decide)
