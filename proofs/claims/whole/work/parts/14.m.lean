def fX11_in (s0 : zS) (x0 : Int) (x1 : Int) (x2 : Int) : Option (Int × zS) :=
  if x0 < x1 then (some (0, s0)) else (if x2 < x0 then (some (0, s0)) else (some (1, s0)))
set_option maxHeartbeats 4000000 in
set_option maxRecDepth 20000 in
theorem kX11_in (s0 : zS) (x0 : Int) (x1 : Int) (x2 : Int) : zCt zw yX11_in cX11_in 3 (some .boolean) 0 0 0 0 eI [.inl x0, .inl x1, .inl x2] s0 (fX11_in s0 x0 x1 x2) := by
  refine zCt_on (own := RX11) (nm := "in") rfl rfl (by decide) (Nat.le_of_ble_eq_true rfl) fun K C => ?_
  show zJ zw 3 K _ 0 0 0 [(0, .inl x0), (1, .inl x1), (2, .inl x2)] [] s0 (fX11_in s0 x0 x1 x2)
  unfold fX11_in
  refine J_iload_n C 0 dX11_in_0 rfl ?_
  refine J_iload_n C 1 dX11_in_1 rfl ?_
  refine J_ic_lt C 14 dX11_in_2 rfl (fun _ => ?_) (fun _ => ?_)
  · refine J_iconst C dX11_in_14 (zi9 rfl rfl) ?_
    exact J_zret C (by decide) dX11_in_15 (by decide) (by decide)
  · refine J_iload_n C 0 dX11_in_5 rfl ?_
    refine J_iload_n C 2 dX11_in_6 rfl ?_
    refine J_ic_gt C 14 dX11_in_7 rfl (fun _ => ?_) (fun _ => ?_)
    · refine J_iconst C dX11_in_14 (zi9 rfl rfl) ?_
      exact J_zret C (by decide) dX11_in_15 (by decide) (by decide)
    · refine J_iconst C dX11_in_10 (zi9 rfl rfl) ?_
      refine J_goto C 15 dX11_in_11 rfl ?_
      exact J_zret C (by decide) dX11_in_15 (by decide) (by decide)
def fX11_isPost (s0 : zS) (i0 : Nat) (x1 : Int) : Option (Int × zS) :=
  cl_ (fX11_in s0 x1 0 (wr ((gI s0 64 i0 0) - 1))) fun (x_2 : Int) (s_1 : zS) => g_ (x_2 = 0 ∨ x_2 = 1) (some (x_2, s_1))
set_option maxHeartbeats 4000000 in
set_option maxRecDepth 20000 in
theorem kX11_isPost (s0 : zS) (i0 : Nat) (x1 : Int) : zCt zw yX11_isPost cX11_isPost 2 (some .boolean) 1 22 0 0 eI [.inr (64, some i0), .inl x1] s0 (fX11_isPost s0 i0 x1) := by
  refine zCt_on (own := RX11) (nm := "isPost") rfl rfl (by decide) (Nat.le_of_ble_eq_true rfl) fun K C => ?_
  show zJ zw 2 K _ 0 0 0 [(0, .inr (64, some i0)), (1, .inl x1)] [] s0 (fX11_isPost s0 i0 x1)
  unfold fX11_isPost
  refine J_iload_n C 1 dX11_isPost_0 rfl ?_
  refine J_iconst C dX11_isPost_1 (zi9 rfl rfl) ?_
  refine J_aload_n C 0 dX11_isPost_2 rfl ?_
  refine gf_64_0 C dX11_isPost_3 q_844 ?_
  refine J_iconst C dX11_isPost_6 (zi9 rfl rfl) ?_
  refine J_isub C dX11_isPost_7 ?_
  refine J_callSI (S := []) (avs := [.inl x1, .inl 0, .inl (wr ((gI s0 64 i0 0) - 1))]) C yw_87 (kX11_in _ _ _ _) dX11_isPost_8 rfl (Nat.le_of_ble_eq_true rfl) (by decide) fun x_2 s_1 => ?_
  refine J_g fun h_3 => ?_
  exact J_zret C h_3 dX11_isPost_11 (by decide) (by decide)
def fX11_isWire (s0 : zS) (i0 : Nat) (x1 : Int) : Option (Int × zS) :=
  cl_ (fX11_in s0 x1 1 (wr ((gI s0 64 i0 0) - 1))) fun (x_2 : Int) (s_1 : zS) => g_ (x_2 = 0 ∨ x_2 = 1) (some (x_2, s_1))
set_option maxHeartbeats 4000000 in
set_option maxRecDepth 20000 in
theorem kX11_isWire (s0 : zS) (i0 : Nat) (x1 : Int) : zCt zw yX11_isWire cX11_isWire 2 (some .boolean) 1 22 0 0 eI [.inr (64, some i0), .inl x1] s0 (fX11_isWire s0 i0 x1) := by
  refine zCt_on (own := RX11) (nm := "isWire") rfl rfl (by decide) (Nat.le_of_ble_eq_true rfl) fun K C => ?_
  show zJ zw 2 K _ 0 0 0 [(0, .inr (64, some i0)), (1, .inl x1)] [] s0 (fX11_isWire s0 i0 x1)
  unfold fX11_isWire
  refine J_iload_n C 1 dX11_isWire_0 rfl ?_
  refine J_iconst C dX11_isWire_1 (zi9 rfl rfl) ?_
  refine J_aload_n C 0 dX11_isWire_2 rfl ?_
  refine gf_64_0 C dX11_isWire_3 q_844 ?_
  refine J_iconst C dX11_isWire_6 (zi9 rfl rfl) ?_
  refine J_isub C dX11_isWire_7 ?_
  refine J_callSI (S := []) (avs := [.inl x1, .inl 1, .inl (wr ((gI s0 64 i0 0) - 1))]) C yw_87 (kX11_in _ _ _ _) dX11_isWire_8 rfl (Nat.le_of_ble_eq_true rfl) (by decide) fun x_2 s_1 => ?_
  refine J_g fun h_3 => ?_
  exact J_zret C h_3 dX11_isWire_11 (by decide) (by decide)
def fX11_post (s0 : zS) (i0 : Nat) (x1 : Int) (x2 : Int) (x3 : Int) (x4 : Int) (x5 : Int) : Option (Int × zS) :=
  cl_ (fX11_isPost s0 i0 x1) fun (x_2 : Int) (s_1 : zS) => if x_2 = 0 then (some ((-1), s_1)) else (cl_ (fX11_in s_1 x3 1 20) fun (x_4 : Int) (s_3 : zS) => if x_4 = 0 then (some ((-2), s_3)) else (cl_ (fX11_in s_3 x4 1 10) fun (x_6 : Int) (s_5 : zS) => if x_6 = 0 then (some ((-2), s_5)) else (nm_ (gR s_5 64 i0 2) fun (r_7 : Option Nat) => Option.bind r_7 fun i_8 => g_ ((0 : Int) ≤ x1 ∧ (x1 : Int) < 16) (if gI s_5 68 i_8 (Int.toNat (x1)) = 2 then (some ((-3), s_5)) else (if gI s_5 64 i0 0 = 16 then (some ((-4), s_5)) else (nm_ (gR s_5 64 i0 1) fun (r_11 : Option Nat) => Option.bind r_11 fun i_12 => g_ ((0 : Int) ≤ gI s_5 64 i0 0 ∧ (gI s_5 64 i0 0 : Int) < 16) (up_ (sI s_5 67 i_12 (Int.toNat (gI s_5 64 i0 0)) x1) fun (s_15 : zS) => nm_ (gR s_15 64 i0 2) fun (r_16 : Option Nat) => nm_ (fun (s_17 : zS) (u_18 : Int) => Option.bind r_16 fun i_19 => g_ ((0 : Int) ≤ gI s_15 64 i0 0 ∧ (gI s_15 64 i0 0 : Int) < 16) (up_ (sI s_17 68 i_19 (Int.toNat (gI s_15 64 i0 0)) u_18) fun (s_22 : zS) => nm_ (gR s_22 64 i0 3) fun (r_23 : Option Nat) => Option.bind r_23 fun i_24 => g_ ((0 : Int) ≤ gI s_22 64 i0 0 ∧ (gI s_22 64 i0 0 : Int) < 16) (up_ (sI s_22 69 i_24 (Int.toNat (gI s_22 64 i0 0)) x3) fun (s_27 : zS) => nm_ (gR s_27 64 i0 4) fun (r_28 : Option Nat) => Option.bind r_28 fun i_29 => g_ ((0 : Int) ≤ gI s_27 64 i0 0 ∧ (gI s_27 64 i0 0 : Int) < 16) (up_ (sI s_27 70 i_29 (Int.toNat (gI s_27 64 i0 0)) x4) fun (s_32 : zS) => nm_ (gR s_32 64 i0 5) fun (r_33 : Option Nat) => Option.bind r_33 fun i_34 => g_ ((0 : Int) ≤ gI s_32 64 i0 0 ∧ (gI s_32 64 i0 0 : Int) < 16) (g_ (x5 = 0 ∨ x5 = 1) (up_ (sI s_32 71 i_34 (Int.toNat (gI s_32 64 i0 0)) x5) fun (s_37 : zS) => nm_ (gR s_37 64 i0 11) fun (r_38 : Option Nat) => Option.bind r_38 fun i_39 => g_ ((0 : Int) ≤ gI s_37 64 i0 0 ∧ (gI s_37 64 i0 0 : Int) < 16) (up_ (sI s_37 77 i_39 (Int.toNat (gI s_37 64 i0 0)) (-9)) fun (s_42 : zS) => nm_ (gR s_42 64 i0 12) fun (r_43 : Option Nat) => Option.bind r_43 fun i_44 => g_ ((0 : Int) ≤ wr (2 * (gI s_42 64 i0 0)) ∧ (wr (2 * (gI s_42 64 i0 0)) : Int) < 32) (up_ (sI s_42 78 i_44 (Int.toNat (wr (2 * (gI s_42 64 i0 0)))) (-9)) fun (s_47 : zS) => nm_ (gR s_47 64 i0 12) fun (r_48 : Option Nat) => Option.bind r_48 fun i_49 => g_ ((0 : Int) ≤ wr ((wr (2 * (gI s_47 64 i0 0))) + 1) ∧ (wr ((wr (2 * (gI s_47 64 i0 0))) + 1) : Int) < 32) (up_ (sI s_47 78 i_49 (Int.toNat (wr ((wr (2 * (gI s_47 64 i0 0))) + 1))) (-9)) fun (s_52 : zS) => up_ (sI s_52 64 i0 0 (wr ((gI s_52 64 i0 0) + 1))) fun (s_53 : zS) => some (wr ((gI s_53 64 i0 0) - 1), s_53)))))))))) fun (j86 : zS → Int → Option (Int × zS)) => if x2 = 0 then (j86 s_15 1) else (j86 s_15 2))))))))
set_option maxHeartbeats 4000000 in
set_option maxRecDepth 20000 in
theorem kX11_post (s0 : zS) (i0 : Nat) (x1 : Int) (x2 : Int) (x3 : Int) (x4 : Int) (x5 : Int) : zCt zw yX11_post cX11_post 6 (some .int) 2 43 0 0 eI [.inr (64, some i0), .inl x1, .inl x2, .inl x3, .inl x4, .inl x5] s0 (fX11_post s0 i0 x1 x2 x3 x4 x5) := by
  refine zCt_on (own := RX11) (nm := "post") rfl rfl (by decide) (Nat.le_of_ble_eq_true rfl) fun K C => ?_
  show zJ zw 6 K _ 0 0 0 [(0, .inr (64, some i0)), (1, .inl x1), (2, .inl x2), (3, .inl x3), (4, .inl x4), (5, .inl x5)] [] s0 (fX11_post s0 i0 x1 x2 x3 x4 x5)
  unfold fX11_post
  refine J_aload_n C 0 dX11_post_0 rfl ?_
  refine J_iload_n C 1 dX11_post_1 rfl ?_
  refine J_callVI (S := []) (avs := [.inl x1]) C zx64 yw_88 rfl (kX11_isPost _ _ _) dX11_post_2 rfl (Nat.le_of_ble_eq_true rfl) (by decide) fun x_2 s_1 => ?_
  refine J_if_ne C 10 dX11_post_5 rfl (fun _ => ?_) (fun _ => ?_)
  · refine J_iload_n C 3 dX11_post_10 rfl ?_
    refine J_iconst C dX11_post_11 (zi9 rfl rfl) ?_
    refine J_bipush C dX11_post_12 (zi9 rfl rfl) (by decide) ?_
    refine J_callSI (S := []) (avs := [.inl x3, .inl 1, .inl 20]) C yw_87 (kX11_in _ _ _ _) dX11_post_14 rfl (Nat.le_of_ble_eq_true rfl) (by decide) fun x_4 s_3 => ?_
    refine J_if_eq C 31 dX11_post_17 rfl (fun _ => ?_) (fun _ => ?_)
    · refine J_bipush C dX11_post_31 (zi9 rfl rfl) (by decide) ?_
      exact J_iret C dX11_post_33 (by decide) (by decide)
    · refine J_iload C 4 dX11_post_20 rfl ?_
      refine J_iconst C dX11_post_22 (zi9 rfl rfl) ?_
      refine J_bipush C dX11_post_23 (zi9 rfl rfl) (by decide) ?_
      refine J_callSI (S := []) (avs := [.inl x4, .inl 1, .inl 10]) C yw_87 (kX11_in _ _ _ _) dX11_post_25 rfl (Nat.le_of_ble_eq_true rfl) (by decide) fun x_6 s_5 => ?_
      refine J_if_ne C 34 dX11_post_28 rfl (fun _ => ?_) (fun _ => ?_)
      · refine J_aload_n C 0 dX11_post_34 rfl ?_
        refine gf_64_2 C dX11_post_35 q_846 ?_
        refine J_nmR fun r_7 => ?_
        refine J_iload_n C 1 dX11_post_38 rfl ?_
        refine J_bind fun i_8 e_9 => ?_
        subst e_9
        refine J_g fun h_10 => ?_
        refine J_iald (t := 68) (N := 16) C (Nat.le_of_ble_eq_true rfl) rfl rfl h_10 dX11_post_39 ?_
        refine J_iconst C dX11_post_40 (zi9 rfl rfl) ?_
        refine J_ic_ne C 47 dX11_post_41 rfl (fun _ => ?_) (fun _ => ?_)
        · refine J_aload_n C 0 dX11_post_47 rfl ?_
          refine gf_64_0 C dX11_post_48 q_844 ?_
          refine J_bipush C dX11_post_51 (zi9 rfl rfl) (by decide) ?_
          refine J_ic_ne C 59 dX11_post_53 rfl (fun _ => ?_) (fun _ => ?_)
          · refine J_aload_n C 0 dX11_post_59 rfl ?_
            refine gf_64_1 C dX11_post_60 q_845 ?_
            refine J_nmR fun r_11 => ?_
            refine J_aload_n C 0 dX11_post_63 rfl ?_
            refine gf_64_0 C dX11_post_64 q_844 ?_
            refine J_iload_n C 1 dX11_post_67 rfl ?_
            refine J_bind fun i_12 e_13 => ?_
            subst e_13
            refine J_g fun h_14 => ?_
            refine J_iast (t := 67) (N := 16) C (Nat.le_of_ble_eq_true rfl) rfl rfl h_14 dX11_post_68 fun s_15 => ?_
            refine J_aload_n C 0 dX11_post_69 rfl ?_
            refine gf_64_2 C dX11_post_70 q_846 ?_
            refine J_nmR fun r_16 => ?_
            refine J_aload_n C 0 dX11_post_73 rfl ?_
            refine gf_64_0 C dX11_post_74 q_844 ?_
            refine J_iload_n C 2 dX11_post_77 rfl ?_
            refine J_join (fun j86 => ∀ (s_17 : zS) (u_18 : Int), zJ zw 6 K (zQm zw eI 0 0 K) 0 0 86 [(0, .inr (64, some i0)), (3, .inl x3), (4, .inl x4), (5, .inl x5)] [.inl u_18, .inl (gI s_15 64 i0 0), .inr (68, r_16)] s_17 (j86 s_17 u_18)) ?_ fun j86 hj86 => ?_
            · intro s_17 u_18
              refine J_bind fun i_19 e_20 => ?_
              subst e_20
              refine J_g fun h_21 => ?_
              refine J_iast (t := 68) (N := 16) C (Nat.le_of_ble_eq_true rfl) rfl rfl h_21 dX11_post_86 fun s_22 => ?_
              refine J_aload_n C 0 dX11_post_87 rfl ?_
              refine gf_64_3 C dX11_post_88 q_847 ?_
              refine J_nmR fun r_23 => ?_
              refine J_aload_n C 0 dX11_post_91 rfl ?_
              refine gf_64_0 C dX11_post_92 q_844 ?_
              refine J_iload_n C 1 dX11_post_95 rfl ?_
              refine J_bind fun i_24 e_25 => ?_
              subst e_25
              refine J_g fun h_26 => ?_
              refine J_iast (t := 69) (N := 16) C (Nat.le_of_ble_eq_true rfl) rfl rfl h_26 dX11_post_96 fun s_27 => ?_
              refine J_aload_n C 0 dX11_post_97 rfl ?_
              refine gf_64_4 C dX11_post_98 q_848 ?_
              refine J_nmR fun r_28 => ?_
              refine J_aload_n C 0 dX11_post_101 rfl ?_
              refine gf_64_0 C dX11_post_102 q_844 ?_
              refine J_iload C 2 dX11_post_105 rfl ?_
              refine J_bind fun i_29 e_30 => ?_
              subst e_30
              refine J_g fun h_31 => ?_
              refine J_iast (t := 70) (N := 16) C (Nat.le_of_ble_eq_true rfl) rfl rfl h_31 dX11_post_107 fun s_32 => ?_
              refine J_aload_n C 0 dX11_post_108 rfl ?_
              refine gf_64_5 C dX11_post_109 q_849 ?_
              refine J_nmR fun r_33 => ?_
              refine J_aload_n C 0 dX11_post_112 rfl ?_
              refine gf_64_0 C dX11_post_113 q_844 ?_
              refine J_iload C 3 dX11_post_116 rfl ?_
              refine J_bind fun i_34 e_35 => ?_
              subst e_35
              refine J_g fun h_36 => ?_
              refine J_g fun h_54 => ?_
              refine J_bast (t := 71) (N := 16) C (Nat.le_of_ble_eq_true rfl) rfl rfl h_36 h_54 dX11_post_118 fun s_37 => ?_
              refine J_aload_n C 0 dX11_post_119 rfl ?_
              refine gf_64_11 C dX11_post_120 q_855 ?_
              refine J_nmR fun r_38 => ?_
              refine J_aload_n C 0 dX11_post_123 rfl ?_
              refine gf_64_0 C dX11_post_124 q_844 ?_
              refine J_bipush C dX11_post_127 (zi9 rfl rfl) (by decide) ?_
              refine J_bind fun i_39 e_40 => ?_
              subst e_40
              refine J_g fun h_41 => ?_
              refine J_iast (t := 77) (N := 16) C (Nat.le_of_ble_eq_true rfl) rfl rfl h_41 dX11_post_129 fun s_42 => ?_
              refine J_aload_n C 0 dX11_post_130 rfl ?_
              refine gf_64_12 C dX11_post_131 q_856 ?_
              refine J_nmR fun r_43 => ?_
              refine J_iconst C dX11_post_134 (zi9 rfl rfl) ?_
              refine J_aload_n C 0 dX11_post_135 rfl ?_
              refine gf_64_0 C dX11_post_136 q_844 ?_
              refine J_imul C dX11_post_139 ?_
              refine J_bipush C dX11_post_140 (zi9 rfl rfl) (by decide) ?_
              refine J_bind fun i_44 e_45 => ?_
              subst e_45
              refine J_g fun h_46 => ?_
              refine J_iast (t := 78) (N := 32) C (Nat.le_of_ble_eq_true rfl) rfl rfl h_46 dX11_post_142 fun s_47 => ?_
              refine J_aload_n C 0 dX11_post_143 rfl ?_
              refine gf_64_12 C dX11_post_144 q_856 ?_
              refine J_nmR fun r_48 => ?_
              refine J_iconst C dX11_post_147 (zi9 rfl rfl) ?_
              refine J_aload_n C 0 dX11_post_148 rfl ?_
              refine gf_64_0 C dX11_post_149 q_844 ?_
              refine J_imul C dX11_post_152 ?_
              refine J_iconst C dX11_post_153 (zi9 rfl rfl) ?_
              refine J_iadd C dX11_post_154 ?_
              refine J_bipush C dX11_post_155 (zi9 rfl rfl) (by decide) ?_
              refine J_bind fun i_49 e_50 => ?_
              subst e_50
              refine J_g fun h_51 => ?_
              refine J_iast (t := 78) (N := 32) C (Nat.le_of_ble_eq_true rfl) rfl rfl h_51 dX11_post_157 fun s_52 => ?_
              refine J_aload_n C 0 dX11_post_158 rfl ?_
              refine J_dup C dX11_post_159 ?_
              refine gf_64_0 C dX11_post_160 q_844 ?_
              refine J_iconst C dX11_post_163 (zi9 rfl rfl) ?_
              refine J_iadd C dX11_post_164 ?_
              refine pf_64_0 C dX11_post_165 q_844 fun s_53 => ?_
              refine J_aload_n C 0 dX11_post_168 rfl ?_
              refine gf_64_0 C dX11_post_169 q_844 ?_
              refine J_iconst C dX11_post_172 (zi9 rfl rfl) ?_
              refine J_isub C dX11_post_173 ?_
              exact J_iret C dX11_post_174 (by decide) (by decide)
            · refine J_if_eq C 85 dX11_post_78 rfl (fun _ => ?_) (fun _ => ?_)
              · refine J_iconst C dX11_post_85 (zi9 rfl rfl) ?_
                refine J_loc (L' := [(0, .inr (64, some i0)), (3, .inl x3), (4, .inl x4), (5, .inl x5)]) [0, 3, 4, 5] rfl ?_
                exact hj86 _ _
              · refine J_iconst C dX11_post_81 (zi9 rfl rfl) ?_
                refine J_goto C 86 dX11_post_82 rfl ?_
                refine J_loc (L' := [(0, .inr (64, some i0)), (3, .inl x3), (4, .inl x4), (5, .inl x5)]) [0, 3, 4, 5] rfl ?_
                exact hj86 _ _
          · refine J_bipush C dX11_post_56 (zi9 rfl rfl) (by decide) ?_
            exact J_iret C dX11_post_58 (by decide) (by decide)
        · refine J_bipush C dX11_post_44 (zi9 rfl rfl) (by decide) ?_
          exact J_iret C dX11_post_46 (by decide) (by decide)
      · refine J_bipush C dX11_post_31 (zi9 rfl rfl) (by decide) ?_
        exact J_iret C dX11_post_33 (by decide) (by decide)
  · refine J_iconst C dX11_post_8 (zi9 rfl rfl) ?_
    exact J_iret C dX11_post_9 (by decide) (by decide)
def fX11_joint (s0 : zS) (i0 : Nat) (x1 : Int) (x2 : Int) (x3 : Int) : Option (Int × zS) :=
  cl_ (fX11_isPost s0 i0 x1) fun (x_2 : Int) (s_1 : zS) => if x_2 = 0 then (some ((-1), s_1)) else (nm_ (gR s_1 64 i0 2) fun (r_3 : Option Nat) => Option.bind r_3 fun i_4 => g_ ((0 : Int) ≤ x1 ∧ (x1 : Int) < 16) (if gI s_1 68 i_4 (Int.toNat (x1)) = 1 then (nm_ (fun (s_7 : zS) => nm_ (fun (s_8 : zS) => if x2 = 2 then (cl_ (fX11_in s_8 x3 0 1) fun (x_10 : Int) (s_9 : zS) => if x_10 = 0 then (some ((-2), s_9)) else (nm_ (gR s_9 64 i0 10) fun (r_11 : Option Nat) => Option.bind r_11 fun i_12 => g_ ((0 : Int) ≤ x1 ∧ (x1 : Int) < 16) (nm_ (fun (s_15 : zS) (u_16 : Int) => nm_ (gR s_15 64 i0 10) fun (r_17 : Option Nat) => if x3 = 1 then (Option.bind r_17 fun i_22 => g_ ((0 : Int) ≤ x1 ∧ (x1 : Int) < 16) (up_ (sI s_15 76 i_22 (Int.toNat (x1)) 1) fun (s_25 : zS) => some (u_16, s_25))) else (Option.bind r_17 fun i_18 => g_ ((0 : Int) ≤ x1 ∧ (x1 : Int) < 16) (up_ (sI s_15 76 i_18 (Int.toNat (x1)) 0) fun (s_21 : zS) => some (u_16, s_21)))) fun (j126 : zS → Int → Option (Int × zS)) => if gI s_9 76 i_12 (Int.toNat (x1)) = 0 then (j126 s_9 0) else (j126 s_9 1)))) else (some ((-2), s_8))) fun (j98 : zS → Option (Int × zS)) => if x2 = 1 then (nm_ (fun (s_26 : zS) => nm_ (gR s_26 64 i0 8) fun (r_27 : Option Nat) => Option.bind r_27 fun i_28 => g_ ((0 : Int) ≤ x1 ∧ (x1 : Int) < 16) (nm_ (gI s_26 74 i_28 (Int.toNat (x1))) fun (x_31 : Int) => nm_ (gR s_26 64 i0 8) fun (r_32 : Option Nat) => Option.bind r_32 fun i_33 => g_ ((0 : Int) ≤ x1 ∧ (x1 : Int) < 16) (up_ (sI s_26 74 i_33 (Int.toNat (x1)) x3) fun (s_36 : zS) => nm_ (gR s_36 64 i0 9) fun (r_37 : Option Nat) => Option.bind r_37 fun i_38 => g_ ((0 : Int) ≤ x1 ∧ (x1 : Int) < 16) (up_ (sI s_36 75 i_38 (Int.toNat (x1)) 0) fun (s_41 : zS) => some (x_31, s_41))))) fun (j73 : zS → Option (Int × zS)) => if x3 = 0 then (j73 s_7) else (cl_ (fX11_in s_7 x3 2 9) fun (x_43 : Int) (s_42 : zS) => if x_43 = 0 then (j98 s_42) else (j73 s_42))) else (j98 s_7)) fun (j54 : zS → Option (Int × zS)) => if x2 = 0 then (cl_ (fX11_in s_1 x3 0 2) fun (x_45 : Int) (s_44 : zS) => if x_45 = 0 then (j54 s_44) else (nm_ (gR s_44 64 i0 7) fun (r_46 : Option Nat) => Option.bind r_46 fun i_47 => g_ ((0 : Int) ≤ x1 ∧ (x1 : Int) < 16) (nm_ (gI s_44 73 i_47 (Int.toNat (x1))) fun (x_50 : Int) => nm_ (gR s_44 64 i0 7) fun (r_51 : Option Nat) => Option.bind r_51 fun i_52 => g_ ((0 : Int) ≤ x1 ∧ (x1 : Int) < 16) (up_ (sI s_44 73 i_52 (Int.toNat (x1)) x3) fun (s_55 : zS) => some (x_50, s_55))))) else (j54 s_1)) else (some ((-3), s_1))))
set_option maxHeartbeats 4000000 in
set_option maxRecDepth 20000 in
theorem kX11_joint (s0 : zS) (i0 : Nat) (x1 : Int) (x2 : Int) (x3 : Int) : zCt zw yX11_joint cX11_joint 5 (some .int) 2 43 0 0 eI [.inr (64, some i0), .inl x1, .inl x2, .inl x3] s0 (fX11_joint s0 i0 x1 x2 x3) := by
  refine zCt_on (own := RX11) (nm := "joint") rfl rfl (by decide) (Nat.le_of_ble_eq_true rfl) fun K C => ?_
  show zJ zw 5 K _ 0 0 0 [(0, .inr (64, some i0)), (1, .inl x1), (2, .inl x2), (3, .inl x3)] [] s0 (fX11_joint s0 i0 x1 x2 x3)
  unfold fX11_joint
  refine J_aload_n C 0 dX11_joint_0 rfl ?_
  refine J_iload_n C 1 dX11_joint_1 rfl ?_
  refine J_callVI (S := []) (avs := [.inl x1]) C zx64 yw_88 rfl (kX11_isPost _ _ _) dX11_joint_2 rfl (Nat.le_of_ble_eq_true rfl) (by decide) fun x_2 s_1 => ?_
  refine J_if_ne C 10 dX11_joint_5 rfl (fun _ => ?_) (fun _ => ?_)
  · refine J_aload_n C 0 dX11_joint_10 rfl ?_
    refine gf_64_2 C dX11_joint_11 q_846 ?_
    refine J_nmR fun r_3 => ?_
    refine J_iload_n C 1 dX11_joint_14 rfl ?_
    refine J_bind fun i_4 e_5 => ?_
    subst e_5
    refine J_g fun h_6 => ?_
    refine J_iald (t := 68) (N := 16) C (Nat.le_of_ble_eq_true rfl) rfl rfl h_6 dX11_joint_15 ?_
    refine J_iconst C dX11_joint_16 (zi9 rfl rfl) ?_
    refine J_ic_eq C 23 dX11_joint_17 rfl (fun _ => ?_) (fun _ => ?_)
    · refine J_iload_n C 2 dX11_joint_23 rfl ?_
      refine J_join (fun j54 => ∀ (s_7 : zS), zJ zw 5 K (zQm zw eI 0 0 K) 0 0 54 [(0, .inr (64, some i0)), (1, .inl x1), (2, .inl x2), (3, .inl x3)] [] s_7 (j54 s_7)) ?_ fun j54 hj54 => ?_
      · intro s_7
        refine J_iload_n C 2 dX11_joint_54 rfl ?_
        refine J_iconst C dX11_joint_55 (zi9 rfl rfl) ?_
        refine J_join (fun j98 => ∀ (s_8 : zS), zJ zw 5 K (zQm zw eI 0 0 K) 0 0 98 [(0, .inr (64, some i0)), (1, .inl x1), (2, .inl x2), (3, .inl x3)] [] s_8 (j98 s_8)) ?_ fun j98 hj98 => ?_
        · intro s_8
          refine J_iload_n C 2 dX11_joint_98 rfl ?_
          refine J_iconst C dX11_joint_99 (zi9 rfl rfl) ?_
          refine J_ic_ne C 147 dX11_joint_100 rfl (fun _ => ?_) (fun _ => ?_)
          · refine J_bipush C dX11_joint_147 (zi9 rfl rfl) (by decide) ?_
            exact J_iret C dX11_joint_149 (by decide) (by decide)
          · refine J_iload_n C 3 dX11_joint_103 rfl ?_
            refine J_iconst C dX11_joint_104 (zi9 rfl rfl) ?_
            refine J_iconst C dX11_joint_105 (zi9 rfl rfl) ?_
            refine J_callSI (S := []) (avs := [.inl x3, .inl 0, .inl 1]) C yw_87 (kX11_in _ _ _ _) dX11_joint_106 rfl (Nat.le_of_ble_eq_true rfl) (by decide) fun x_10 s_9 => ?_
            refine J_if_eq C 147 dX11_joint_109 rfl (fun _ => ?_) (fun _ => ?_)
            · refine J_bipush C dX11_joint_147 (zi9 rfl rfl) (by decide) ?_
              exact J_iret C dX11_joint_149 (by decide) (by decide)
            · refine J_aload_n C 0 dX11_joint_112 rfl ?_
              refine gf_64_10 C dX11_joint_113 q_854 ?_
              refine J_nmR fun r_11 => ?_
              refine J_iload_n C 1 dX11_joint_116 rfl ?_
              refine J_bind fun i_12 e_13 => ?_
              subst e_13
              refine J_g fun h_14 => ?_
              refine J_bald (t := 76) (N := 16) C (Nat.le_of_ble_eq_true rfl) rfl rfl h_14 dX11_joint_117 ?_
              refine J_join (fun j126 => ∀ (s_15 : zS) (u_16 : Int), zJ zw 5 K (zQm zw eI 0 0 K) 0 0 126 [(0, .inr (64, some i0)), (1, .inl x1), (3, .inl x3)] [.inl u_16] s_15 (j126 s_15 u_16)) ?_ fun j126 hj126 => ?_
              · intro s_15 u_16
                refine J_istore (L' := [(0, .inr (64, some i0)), (1, .inl x1), (3, .inl x3), (4, .inl u_16)]) C dX11_joint_126 (Nat.le_of_ble_eq_true rfl) rfl ?_
                refine J_aload_n C 0 dX11_joint_128 rfl ?_
                refine gf_64_10 C dX11_joint_129 q_854 ?_
                refine J_nmR fun r_17 => ?_
                refine J_iload_n C 1 dX11_joint_132 rfl ?_
                refine J_iload_n C 2 dX11_joint_133 rfl ?_
                refine J_iconst C dX11_joint_134 (zi9 rfl rfl) ?_
                refine J_ic_ne C 142 dX11_joint_135 rfl (fun _ => ?_) (fun _ => ?_)
                · refine J_iconst C dX11_joint_142 (zi9 rfl rfl) ?_
                  refine J_bind fun i_18 e_19 => ?_
                  subst e_19
                  refine J_g fun h_20 => ?_
                  refine J_bast (t := 76) (N := 16) C (Nat.le_of_ble_eq_true rfl) rfl rfl h_20 (by decide) dX11_joint_143 fun s_21 => ?_
                  refine J_iload C 3 dX11_joint_144 rfl ?_
                  exact J_iret C dX11_joint_146 (by decide) (by decide)
                · refine J_iconst C dX11_joint_138 (zi9 rfl rfl) ?_
                  refine J_goto C 143 dX11_joint_139 rfl ?_
                  refine J_bind fun i_22 e_23 => ?_
                  subst e_23
                  refine J_g fun h_24 => ?_
                  refine J_bast (t := 76) (N := 16) C (Nat.le_of_ble_eq_true rfl) rfl rfl h_24 (by decide) dX11_joint_143 fun s_25 => ?_
                  refine J_iload C 3 dX11_joint_144 rfl ?_
                  exact J_iret C dX11_joint_146 (by decide) (by decide)
              · refine J_if_eq C 125 dX11_joint_118 rfl (fun _ => ?_) (fun _ => ?_)
                · refine J_iconst C dX11_joint_125 (zi9 rfl rfl) ?_
                  refine J_loc (L' := [(0, .inr (64, some i0)), (1, .inl x1), (3, .inl x3)]) [0, 1, 3] rfl ?_
                  exact hj126 _ _
                · refine J_iconst C dX11_joint_121 (zi9 rfl rfl) ?_
                  refine J_goto C 126 dX11_joint_122 rfl ?_
                  refine J_loc (L' := [(0, .inr (64, some i0)), (1, .inl x1), (3, .inl x3)]) [0, 1, 3] rfl ?_
                  exact hj126 _ _
        · refine J_ic_ne C 98 dX11_joint_56 rfl (fun _ => ?_) (fun _ => ?_)
          · exact hj98 _
          · refine J_iload_n C 3 dX11_joint_59 rfl ?_
            refine J_join (fun j73 => ∀ (s_26 : zS), zJ zw 5 K (zQm zw eI 0 0 K) 0 0 73 [(0, .inr (64, some i0)), (1, .inl x1), (3, .inl x3)] [] s_26 (j73 s_26)) ?_ fun j73 hj73 => ?_
            · intro s_26
              refine J_aload_n C 0 dX11_joint_73 rfl ?_
              refine gf_64_8 C dX11_joint_74 q_852 ?_
              refine J_nmR fun r_27 => ?_
              refine J_iload_n C 1 dX11_joint_77 rfl ?_
              refine J_bind fun i_28 e_29 => ?_
              subst e_29
              refine J_g fun h_30 => ?_
              refine J_iald (t := 74) (N := 16) C (Nat.le_of_ble_eq_true rfl) rfl rfl h_30 dX11_joint_78 ?_
              refine J_nm fun x_31 => ?_
              refine J_istore (L' := [(0, .inr (64, some i0)), (1, .inl x1), (3, .inl x3), (4, .inl x_31)]) C dX11_joint_79 (Nat.le_of_ble_eq_true rfl) rfl ?_
              refine J_aload_n C 0 dX11_joint_81 rfl ?_
              refine gf_64_8 C dX11_joint_82 q_852 ?_
              refine J_nmR fun r_32 => ?_
              refine J_iload_n C 1 dX11_joint_85 rfl ?_
              refine J_iload_n C 2 dX11_joint_86 rfl ?_
              refine J_bind fun i_33 e_34 => ?_
              subst e_34
              refine J_g fun h_35 => ?_
              refine J_iast (t := 74) (N := 16) C (Nat.le_of_ble_eq_true rfl) rfl rfl h_35 dX11_joint_87 fun s_36 => ?_
              refine J_aload_n C 0 dX11_joint_88 rfl ?_
              refine gf_64_9 C dX11_joint_89 q_853 ?_
              refine J_nmR fun r_37 => ?_
              refine J_iload_n C 1 dX11_joint_92 rfl ?_
              refine J_iconst C dX11_joint_93 (zi9 rfl rfl) ?_
              refine J_bind fun i_38 e_39 => ?_
              subst e_39
              refine J_g fun h_40 => ?_
              refine J_iast (t := 75) (N := 16) C (Nat.le_of_ble_eq_true rfl) rfl rfl h_40 dX11_joint_94 fun s_41 => ?_
              refine J_iload C 3 dX11_joint_95 rfl ?_
              exact J_iret C dX11_joint_97 (by decide) (by decide)
            · refine J_if_eq C 73 dX11_joint_60 rfl (fun _ => ?_) (fun _ => ?_)
              · refine J_loc (L' := [(0, .inr (64, some i0)), (1, .inl x1), (3, .inl x3)]) [0, 1, 3] rfl ?_
                exact hj73 _
              · refine J_iload_n C 3 dX11_joint_63 rfl ?_
                refine J_iconst C dX11_joint_64 (zi9 rfl rfl) ?_
                refine J_bipush C dX11_joint_65 (zi9 rfl rfl) (by decide) ?_
                refine J_callSI (S := []) (avs := [.inl x3, .inl 2, .inl 9]) C yw_87 (kX11_in _ _ _ _) dX11_joint_67 rfl (Nat.le_of_ble_eq_true rfl) (by decide) fun x_43 s_42 => ?_
                refine J_if_eq C 98 dX11_joint_70 rfl (fun _ => ?_) (fun _ => ?_)
                · exact hj98 _
                · refine J_loc (L' := [(0, .inr (64, some i0)), (1, .inl x1), (3, .inl x3)]) [0, 1, 3] rfl ?_
                  exact hj73 _
      · refine J_if_ne C 54 dX11_joint_24 rfl (fun _ => ?_) (fun _ => ?_)
        · exact hj54 _
        · refine J_iload_n C 3 dX11_joint_27 rfl ?_
          refine J_iconst C dX11_joint_28 (zi9 rfl rfl) ?_
          refine J_iconst C dX11_joint_29 (zi9 rfl rfl) ?_
          refine J_callSI (S := []) (avs := [.inl x3, .inl 0, .inl 2]) C yw_87 (kX11_in _ _ _ _) dX11_joint_30 rfl (Nat.le_of_ble_eq_true rfl) (by decide) fun x_45 s_44 => ?_
          refine J_if_eq C 54 dX11_joint_33 rfl (fun _ => ?_) (fun _ => ?_)
          · exact hj54 _
          · refine J_aload_n C 0 dX11_joint_36 rfl ?_
            refine gf_64_7 C dX11_joint_37 q_851 ?_
            refine J_nmR fun r_46 => ?_
            refine J_iload_n C 1 dX11_joint_40 rfl ?_
            refine J_bind fun i_47 e_48 => ?_
            subst e_48
            refine J_g fun h_49 => ?_
            refine J_iald (t := 73) (N := 16) C (Nat.le_of_ble_eq_true rfl) rfl rfl h_49 dX11_joint_41 ?_
            refine J_nm fun x_50 => ?_
            refine J_istore (L' := [(0, .inr (64, some i0)), (1, .inl x1), (2, .inl x2), (3, .inl x3), (4, .inl x_50)]) C dX11_joint_42 (Nat.le_of_ble_eq_true rfl) rfl ?_
            refine J_aload_n C 0 dX11_joint_44 rfl ?_
            refine gf_64_7 C dX11_joint_45 q_851 ?_
            refine J_nmR fun r_51 => ?_
            refine J_iload_n C 1 dX11_joint_48 rfl ?_
            refine J_iload_n C 3 dX11_joint_49 rfl ?_
            refine J_bind fun i_52 e_53 => ?_
            subst e_53
            refine J_g fun h_54 => ?_
            refine J_iast (t := 73) (N := 16) C (Nat.le_of_ble_eq_true rfl) rfl rfl h_54 dX11_joint_50 fun s_55 => ?_
            refine J_iload C 4 dX11_joint_51 rfl ?_
            exact J_iret C dX11_joint_53 (by decide) (by decide)
    · refine J_bipush C dX11_joint_20 (zi9 rfl rfl) (by decide) ?_
      exact J_iret C dX11_joint_22 (by decide) (by decide)
  · refine J_iconst C dX11_joint_8 (zi9 rfl rfl) ?_
    exact J_iret C dX11_joint_9 (by decide) (by decide)
def fX11_about (s0 : zS) (i0 : Nat) (x1 : Int) (x2 : Int) : Option (Int × zS) :=
  cl_ (fX11_isPost s0 i0 x1) fun (x_2 : Int) (s_1 : zS) => if x_2 = 0 then (some ((-1), s_1)) else (if x2 = 0 then (nm_ (gR s_1 64 i0 1) fun (r_4 : Option Nat) => Option.bind r_4 fun i_5 => g_ ((0 : Int) ≤ x1 ∧ (x1 : Int) < 16) (some (gI s_1 67 i_5 (Int.toNat (x1)), s_1))) else (if x2 = 1 then (nm_ (gR s_1 64 i0 2) fun (r_9 : Option Nat) => Option.bind r_9 fun i_10 => g_ ((0 : Int) ≤ x1 ∧ (x1 : Int) < 16) (some (gI s_1 68 i_10 (Int.toNat (x1)), s_1))) else (if x2 = 2 then (if x1 = 0 then (some ((-9), s_1)) else (nm_ (gR s_1 64 i0 3) fun (r_14 : Option Nat) => Option.bind r_14 fun i_15 => g_ ((0 : Int) ≤ x1 ∧ (x1 : Int) < 16) (some (gI s_1 69 i_15 (Int.toNat (x1)), s_1)))) else (if x2 = 3 then (if x1 = 0 then (some ((-9), s_1)) else (nm_ (gR s_1 64 i0 4) fun (r_19 : Option Nat) => Option.bind r_19 fun i_20 => g_ ((0 : Int) ≤ x1 ∧ (x1 : Int) < 16) (some (gI s_1 70 i_20 (Int.toNat (x1)), s_1)))) else (if x2 = 4 then (if x1 = 0 then (some ((-9), s_1)) else (nm_ (gR s_1 64 i0 5) fun (r_24 : Option Nat) => Option.bind r_24 fun i_25 => g_ ((0 : Int) ≤ x1 ∧ (x1 : Int) < 16) (if gI s_1 71 i_25 (Int.toNat (x1)) = 0 then (some (0, s_1)) else (some (1, s_1))))) else (if x2 = 5 then (if x1 = 0 then (some ((-9), s_1)) else (nm_ (gR s_1 64 i0 6) fun (r_29 : Option Nat) => Option.bind r_29 fun i_30 => g_ ((0 : Int) ≤ x1 ∧ (x1 : Int) < 16) (if gI s_1 72 i_30 (Int.toNat (x1)) = 0 then (some (1, s_1)) else (some (0, s_1))))) else (some ((-2), s_1))))))))
set_option maxHeartbeats 4000000 in
set_option maxRecDepth 20000 in
theorem kX11_about (s0 : zS) (i0 : Nat) (x1 : Int) (x2 : Int) : zCt zw yX11_about cX11_about 3 (some .int) 2 43 0 0 eI [.inr (64, some i0), .inl x1, .inl x2] s0 (fX11_about s0 i0 x1 x2) := by
  refine zCt_on (own := RX11) (nm := "about") rfl rfl (by decide) (Nat.le_of_ble_eq_true rfl) fun K C => ?_
  show zJ zw 3 K _ 0 0 0 [(0, .inr (64, some i0)), (1, .inl x1), (2, .inl x2)] [] s0 (fX11_about s0 i0 x1 x2)
  unfold fX11_about
  refine J_aload_n C 0 dX11_about_0 rfl ?_
  refine J_iload_n C 1 dX11_about_1 rfl ?_
  refine J_callVI (S := []) (avs := [.inl x1]) C zx64 yw_88 rfl (kX11_isPost _ _ _) dX11_about_2 rfl (Nat.le_of_ble_eq_true rfl) (by decide) fun x_2 s_1 => ?_
  refine J_if_ne C 10 dX11_about_5 rfl (fun _ => ?_) (fun _ => ?_)
  · refine J_iload_n C 2 dX11_about_10 rfl ?_
    refine J_if (fun h_3 => ?_) (fun h_3 => ?_)
    · refine J_swIn C 48 dX11_about_11 (by omega) (by omega) (by rw [h_3]; rfl) rfl ?_
      refine J_aload_n C 0 dX11_about_48 rfl ?_
      refine gf_64_1 C dX11_about_49 q_845 ?_
      refine J_nmR fun r_4 => ?_
      refine J_iload_n C 1 dX11_about_52 rfl ?_
      refine J_bind fun i_5 e_6 => ?_
      subst e_6
      refine J_g fun h_7 => ?_
      refine J_iald (t := 67) (N := 16) C (Nat.le_of_ble_eq_true rfl) rfl rfl h_7 dX11_about_53 ?_
      exact J_iret C dX11_about_54 (by decide) (by decide)
    · refine J_if (fun h_8 => ?_) (fun h_8 => ?_)
      · refine J_swIn C 55 dX11_about_11 (by omega) (by omega) (by rw [h_8]; rfl) rfl ?_
        refine J_aload_n C 0 dX11_about_55 rfl ?_
        refine gf_64_2 C dX11_about_56 q_846 ?_
        refine J_nmR fun r_9 => ?_
        refine J_iload_n C 1 dX11_about_59 rfl ?_
        refine J_bind fun i_10 e_11 => ?_
        subst e_11
        refine J_g fun h_12 => ?_
        refine J_iald (t := 68) (N := 16) C (Nat.le_of_ble_eq_true rfl) rfl rfl h_12 dX11_about_60 ?_
        exact J_iret C dX11_about_61 (by decide) (by decide)
      · refine J_if (fun h_13 => ?_) (fun h_13 => ?_)
        · refine J_swIn C 62 dX11_about_11 (by omega) (by omega) (by rw [h_13]; rfl) rfl ?_
          refine J_iload_n C 1 dX11_about_62 rfl ?_
          refine J_if_ne C 71 dX11_about_63 rfl (fun _ => ?_) (fun _ => ?_)
          · refine J_aload_n C 0 dX11_about_71 rfl ?_
            refine gf_64_3 C dX11_about_72 q_847 ?_
            refine J_nmR fun r_14 => ?_
            refine J_iload_n C 1 dX11_about_75 rfl ?_
            refine J_bind fun i_15 e_16 => ?_
            subst e_16
            refine J_g fun h_17 => ?_
            refine J_iald (t := 69) (N := 16) C (Nat.le_of_ble_eq_true rfl) rfl rfl h_17 dX11_about_76 ?_
            exact J_iret C dX11_about_77 (by decide) (by decide)
          · refine J_bipush C dX11_about_66 (zi9 rfl rfl) (by decide) ?_
            refine J_goto C 77 dX11_about_68 rfl ?_
            exact J_iret C dX11_about_77 (by decide) (by decide)
        · refine J_if (fun h_18 => ?_) (fun h_18 => ?_)
          · refine J_swIn C 78 dX11_about_11 (by omega) (by omega) (by rw [h_18]; rfl) rfl ?_
            refine J_iload_n C 1 dX11_about_78 rfl ?_
            refine J_if_ne C 87 dX11_about_79 rfl (fun _ => ?_) (fun _ => ?_)
            · refine J_aload_n C 0 dX11_about_87 rfl ?_
              refine gf_64_4 C dX11_about_88 q_848 ?_
              refine J_nmR fun r_19 => ?_
              refine J_iload_n C 1 dX11_about_91 rfl ?_
              refine J_bind fun i_20 e_21 => ?_
              subst e_21
              refine J_g fun h_22 => ?_
              refine J_iald (t := 70) (N := 16) C (Nat.le_of_ble_eq_true rfl) rfl rfl h_22 dX11_about_92 ?_
              exact J_iret C dX11_about_93 (by decide) (by decide)
            · refine J_bipush C dX11_about_82 (zi9 rfl rfl) (by decide) ?_
              refine J_goto C 93 dX11_about_84 rfl ?_
              exact J_iret C dX11_about_93 (by decide) (by decide)
          · refine J_if (fun h_23 => ?_) (fun h_23 => ?_)
            · refine J_swIn C 94 dX11_about_11 (by omega) (by omega) (by rw [h_23]; rfl) rfl ?_
              refine J_iload_n C 1 dX11_about_94 rfl ?_
              refine J_if_ne C 103 dX11_about_95 rfl (fun _ => ?_) (fun _ => ?_)
              · refine J_aload_n C 0 dX11_about_103 rfl ?_
                refine gf_64_5 C dX11_about_104 q_849 ?_
                refine J_nmR fun r_24 => ?_
                refine J_iload_n C 1 dX11_about_107 rfl ?_
                refine J_bind fun i_25 e_26 => ?_
                subst e_26
                refine J_g fun h_27 => ?_
                refine J_bald (t := 71) (N := 16) C (Nat.le_of_ble_eq_true rfl) rfl rfl h_27 dX11_about_108 ?_
                refine J_if_eq C 116 dX11_about_109 rfl (fun _ => ?_) (fun _ => ?_)
                · refine J_iconst C dX11_about_116 (zi9 rfl rfl) ?_
                  exact J_iret C dX11_about_117 (by decide) (by decide)
                · refine J_iconst C dX11_about_112 (zi9 rfl rfl) ?_
                  refine J_goto C 117 dX11_about_113 rfl ?_
                  exact J_iret C dX11_about_117 (by decide) (by decide)
              · refine J_bipush C dX11_about_98 (zi9 rfl rfl) (by decide) ?_
                refine J_goto C 117 dX11_about_100 rfl ?_
                exact J_iret C dX11_about_117 (by decide) (by decide)
            · refine J_if (fun h_28 => ?_) (fun h_28 => ?_)
              · refine J_swIn C 118 dX11_about_11 (by omega) (by omega) (by rw [h_28]; rfl) rfl ?_
                refine J_iload_n C 1 dX11_about_118 rfl ?_
                refine J_if_ne C 127 dX11_about_119 rfl (fun _ => ?_) (fun _ => ?_)
                · refine J_aload_n C 0 dX11_about_127 rfl ?_
                  refine gf_64_6 C dX11_about_128 q_850 ?_
                  refine J_nmR fun r_29 => ?_
                  refine J_iload_n C 1 dX11_about_131 rfl ?_
                  refine J_bind fun i_30 e_31 => ?_
                  subst e_31
                  refine J_g fun h_32 => ?_
                  refine J_bald (t := 72) (N := 16) C (Nat.le_of_ble_eq_true rfl) rfl rfl h_32 dX11_about_132 ?_
                  refine J_if_eq C 140 dX11_about_133 rfl (fun _ => ?_) (fun _ => ?_)
                  · refine J_iconst C dX11_about_140 (zi9 rfl rfl) ?_
                    exact J_iret C dX11_about_141 (by decide) (by decide)
                  · refine J_iconst C dX11_about_136 (zi9 rfl rfl) ?_
                    refine J_goto C 141 dX11_about_137 rfl ?_
                    exact J_iret C dX11_about_141 (by decide) (by decide)
                · refine J_bipush C dX11_about_122 (zi9 rfl rfl) (by decide) ?_
                  refine J_goto C 141 dX11_about_124 rfl ?_
                  exact J_iret C dX11_about_141 (by decide) (by decide)
              · refine J_swOut C 142 dX11_about_11 (by omega) rfl ?_
                refine J_bipush C dX11_about_142 (zi9 rfl rfl) (by decide) ?_
                exact J_iret C dX11_about_144 (by decide) (by decide)
  · refine J_iconst C dX11_about_8 (zi9 rfl rfl) ?_
    exact J_iret C dX11_about_9 (by decide) (by decide)
def fX11_cord (s0 : zS) (i0 : Nat) (x1 : Int) (x2 : Int) : Option (Int × zS) :=
  cl_ (fX11_isWire s0 i0 x1) fun (x_2 : Int) (s_1 : zS) => if x_2 = 0 then (some ((-1), s_1)) else (nm_ (gR s_1 64 i0 6) fun (r_3 : Option Nat) => Option.bind r_3 fun i_4 => g_ ((0 : Int) ≤ x1 ∧ (x1 : Int) < 16) (nm_ (fun (s_7 : zS) (u_8 : Int) => nm_ (gR s_7 64 i0 6) fun (r_9 : Option Nat) => if x2 = 0 then (Option.bind r_9 fun i_14 => g_ ((0 : Int) ≤ x1 ∧ (x1 : Int) < 16) (up_ (sI s_7 72 i_14 (Int.toNat (x1)) 1) fun (s_17 : zS) => some (u_8, s_17))) else (Option.bind r_9 fun i_10 => g_ ((0 : Int) ≤ x1 ∧ (x1 : Int) < 16) (up_ (sI s_7 72 i_10 (Int.toNat (x1)) 0) fun (s_13 : zS) => some (u_8, s_13)))) fun (j24 : zS → Int → Option (Int × zS)) => if gI s_1 72 i_4 (Int.toNat (x1)) = 0 then (j24 s_1 1) else (j24 s_1 0)))
set_option maxHeartbeats 4000000 in
set_option maxRecDepth 20000 in
theorem kX11_cord (s0 : zS) (i0 : Nat) (x1 : Int) (x2 : Int) : zCt zw yX11_cord cX11_cord 4 (some .int) 2 43 0 0 eI [.inr (64, some i0), .inl x1, .inl x2] s0 (fX11_cord s0 i0 x1 x2) := by
  refine zCt_on (own := RX11) (nm := "cord") rfl rfl (by decide) (Nat.le_of_ble_eq_true rfl) fun K C => ?_
  show zJ zw 4 K _ 0 0 0 [(0, .inr (64, some i0)), (1, .inl x1), (2, .inl x2)] [] s0 (fX11_cord s0 i0 x1 x2)
  unfold fX11_cord
  refine J_aload_n C 0 dX11_cord_0 rfl ?_
  refine J_iload_n C 1 dX11_cord_1 rfl ?_
  refine J_callVI (S := []) (avs := [.inl x1]) C zx64 yw_89 rfl (kX11_isWire _ _ _) dX11_cord_2 rfl (Nat.le_of_ble_eq_true rfl) (by decide) fun x_2 s_1 => ?_
  refine J_if_ne C 10 dX11_cord_5 rfl (fun _ => ?_) (fun _ => ?_)
  · refine J_aload_n C 0 dX11_cord_10 rfl ?_
    refine gf_64_6 C dX11_cord_11 q_850 ?_
    refine J_nmR fun r_3 => ?_
    refine J_iload_n C 1 dX11_cord_14 rfl ?_
    refine J_bind fun i_4 e_5 => ?_
    subst e_5
    refine J_g fun h_6 => ?_
    refine J_bald (t := 72) (N := 16) C (Nat.le_of_ble_eq_true rfl) rfl rfl h_6 dX11_cord_15 ?_
    refine J_join (fun j24 => ∀ (s_7 : zS) (u_8 : Int), zJ zw 4 K (zQm zw eI 0 0 K) 0 0 24 [(0, .inr (64, some i0)), (1, .inl x1), (2, .inl x2)] [.inl u_8] s_7 (j24 s_7 u_8)) ?_ fun j24 hj24 => ?_
    · intro s_7 u_8
      refine J_istore_n (L' := [(0, .inr (64, some i0)), (1, .inl x1), (2, .inl x2), (3, .inl u_8)]) C dX11_cord_24 (Nat.le_of_ble_eq_true rfl) rfl ?_
      refine J_aload_n C 0 dX11_cord_25 rfl ?_
      refine gf_64_6 C dX11_cord_26 q_850 ?_
      refine J_nmR fun r_9 => ?_
      refine J_iload_n C 1 dX11_cord_29 rfl ?_
      refine J_iload_n C 2 dX11_cord_30 rfl ?_
      refine J_if_ne C 38 dX11_cord_31 rfl (fun _ => ?_) (fun _ => ?_)
      · refine J_iconst C dX11_cord_38 (zi9 rfl rfl) ?_
        refine J_bind fun i_10 e_11 => ?_
        subst e_11
        refine J_g fun h_12 => ?_
        refine J_bast (t := 72) (N := 16) C (Nat.le_of_ble_eq_true rfl) rfl rfl h_12 (by decide) dX11_cord_39 fun s_13 => ?_
        refine J_iload_n C 3 dX11_cord_40 rfl ?_
        exact J_iret C dX11_cord_41 (by decide) (by decide)
      · refine J_iconst C dX11_cord_34 (zi9 rfl rfl) ?_
        refine J_goto C 39 dX11_cord_35 rfl ?_
        refine J_bind fun i_14 e_15 => ?_
        subst e_15
        refine J_g fun h_16 => ?_
        refine J_bast (t := 72) (N := 16) C (Nat.le_of_ble_eq_true rfl) rfl rfl h_16 (by decide) dX11_cord_39 fun s_17 => ?_
        refine J_iload_n C 3 dX11_cord_40 rfl ?_
        exact J_iret C dX11_cord_41 (by decide) (by decide)
    · refine J_if_eq C 23 dX11_cord_16 rfl (fun _ => ?_) (fun _ => ?_)
      · refine J_iconst C dX11_cord_23 (zi9 rfl rfl) ?_
        exact hj24 _ _
      · refine J_iconst C dX11_cord_19 (zi9 rfl rfl) ?_
        refine J_goto C 24 dX11_cord_20 rfl ?_
        exact hj24 _ _
  · refine J_iconst C dX11_cord_8 (zi9 rfl rfl) ?_
    exact J_iret C dX11_cord_9 (by decide) (by decide)
def fX11_liesBelow_L2 (k23 : zS → Int → Option (Int × zS)) (o0 : Nat) (c2 : Int) : Nat → zS → Int → Option (Int × zS)
  | 0, _, _ => none
  | n + 1, s0, x3 =>
    if x3 = c2 then (k23 s0 x3) else (if x3 = (-9) then (k23 s0 x3) else (nm_ (gR s0 64 o0 1) fun (r_1 : Option Nat) => Option.bind r_1 fun i_2 => g_ ((0 : Int) ≤ x3 ∧ (x3 : Int) < 16) (nm_ (gI s0 67 i_2 (Int.toNat (x3))) fun (x_5 : Int) => fX11_liesBelow_L2 k23 o0 c2 n s0 x_5)))
def fX11_liesBelow (nf : Nat) (s0 : zS) (i0 : Nat) (x1 : Int) (x2 : Int) : Option (Int × zS) :=
  fX11_liesBelow_L2 (fun (s_2 : zS) (y_1 : Int) => if y_1 = x2 then (some (1, s_2)) else (some (0, s_2))) i0 x2 nf s0 x1
set_option maxHeartbeats 4000000 in
set_option maxRecDepth 20000 in
theorem kX11_liesBelow_L2 {K : zKx} (C : zC zw 4 K RX11 cX11_liesBelow "liesBelow" (some .boolean) 0 0 0 0)  (o0 : Nat) (c2 : Int) (k23 : zS → Int → Option (Int × zS)) (hk23 : ∀ (s1 : zS) (z3 : Int), zJ zw 4 K (zQm zw eI 0 0 K) 0 0 23 [(2, .inl c2), (3, .inl z3)] [] s1 (k23 s1 z3)) : ∀ (n : Nat) (s0 : zS) (x3 : Int), zJ zw 4 K (zQm zw eI 0 0 K) 0 0 2 [(0, .inr (64, some o0)), (2, .inl c2), (3, .inl x3)] [] s0 (fX11_liesBelow_L2 k23 o0 c2 n s0 x3) := by
  intro n
  induction n with
  | zero => intro s0 x3; exact J_none
  | succ n ih =>
    intro s0 x3
    rw [fX11_liesBelow_L2]
    refine J_iload_n C 2 dX11_liesBelow_2 rfl ?_
    refine J_iload_n C 1 dX11_liesBelow_3 rfl ?_
    refine J_ic_eq C 23 dX11_liesBelow_4 rfl (fun _ => ?_) (fun _ => ?_)
    · refine J_loc (L' := [(2, .inl c2), (3, .inl x3)]) [1, 2] rfl ?_
      exact hk23 _ _
    · refine J_iload_n C 2 dX11_liesBelow_7 rfl ?_
      refine J_bipush C dX11_liesBelow_8 (zi9 rfl rfl) (by decide) ?_
      refine J_ic_eq C 23 dX11_liesBelow_10 rfl (fun _ => ?_) (fun _ => ?_)
      · refine J_loc (L' := [(2, .inl c2), (3, .inl x3)]) [1, 2] rfl ?_
        exact hk23 _ _
      · refine J_aload_n C 0 dX11_liesBelow_13 rfl ?_
        refine gf_64_1 C dX11_liesBelow_14 q_845 ?_
        refine J_nmR fun r_1 => ?_
        refine J_iload_n C 2 dX11_liesBelow_17 rfl ?_
        refine J_bind fun i_2 e_3 => ?_
        subst e_3
        refine J_g fun h_4 => ?_
        refine J_iald (t := 67) (N := 16) C (Nat.le_of_ble_eq_true rfl) rfl rfl h_4 dX11_liesBelow_18 ?_
        refine J_nm fun x_5 => ?_
        refine J_istore_n (L' := [(0, .inr (64, some o0)), (2, .inl c2), (3, .inl x_5)]) C dX11_liesBelow_19 (Nat.le_of_ble_eq_true rfl) rfl ?_
        refine J_goto C 2 dX11_liesBelow_20 rfl ?_
        exact ih _ _
set_option maxHeartbeats 4000000 in
set_option maxRecDepth 20000 in
theorem kX11_liesBelow (nf : Nat) (s0 : zS) (i0 : Nat) (x1 : Int) (x2 : Int) : zCt zw yX11_liesBelow cX11_liesBelow 4 (some .boolean) 0 0 0 0 eI [.inr (64, some i0), .inl x1, .inl x2] s0 (fX11_liesBelow nf s0 i0 x1 x2) := by
  refine zCt_on (own := RX11) (nm := "liesBelow") rfl rfl (by decide) (Nat.le_of_ble_eq_true rfl) fun K C => ?_
  show zJ zw 4 K _ 0 0 0 [(0, .inr (64, some i0)), (1, .inl x1), (2, .inl x2)] [] s0 (fX11_liesBelow nf s0 i0 x1 x2)
  unfold fX11_liesBelow
  refine J_iload_n C 1 dX11_liesBelow_0 rfl ?_
  refine J_istore_n (L' := [(0, .inr (64, some i0)), (1, .inl x1), (2, .inl x2), (3, .inl x1)]) C dX11_liesBelow_1 (Nat.le_of_ble_eq_true rfl) rfl ?_
  refine J_loc (L' := [(0, .inr (64, some i0)), (2, .inl x2), (3, .inl x1)]) [0, 2, 3] rfl ?_
  refine kX11_liesBelow_L2 C _ _ _ ?_ _ _ _
  intro s_2 y_1
  refine J_iload_n C 1 dX11_liesBelow_23 rfl ?_
  refine J_iload_n C 0 dX11_liesBelow_24 rfl ?_
  refine J_ic_ne C 32 dX11_liesBelow_25 rfl (fun _ => ?_) (fun _ => ?_)
  · refine J_iconst C dX11_liesBelow_32 (zi9 rfl rfl) ?_
    exact J_zret C (by decide) dX11_liesBelow_33 (by decide) (by decide)
  · refine J_iconst C dX11_liesBelow_28 (zi9 rfl rfl) ?_
    refine J_goto C 33 dX11_liesBelow_29 rfl ?_
    exact J_zret C (by decide) dX11_liesBelow_33 (by decide) (by decide)
def fX11_worth (s0 : zS) (x0 : Int) : Option (Int × zS) :=
  if x0 = 0 then (some (1, s0)) else (if x0 = 1 then (some (3, s0)) else (if x0 = 2 then (some (6, s0)) else (if x0 = 3 then (some (12, s0)) else (if x0 = 4 then (some (30, s0)) else (some (60, s0))))))
set_option maxHeartbeats 4000000 in
set_option maxRecDepth 20000 in
theorem kX11_worth (s0 : zS) (x0 : Int) : zCt zw yX11_worth cX11_worth 1 (some .int) 0 0 0 0 eI [.inl x0] s0 (fX11_worth s0 x0) := by
  refine zCt_on (own := RX11) (nm := "worth") rfl rfl (by decide) (Nat.le_of_ble_eq_true rfl) fun K C => ?_
  show zJ zw 1 K _ 0 0 0 [(0, .inl x0)] [] s0 (fX11_worth s0 x0)
  unfold fX11_worth
  refine J_iload_n C 0 dX11_worth_0 rfl ?_
  refine J_if (fun h_1 => ?_) (fun h_1 => ?_)
  · refine J_swIn C 36 dX11_worth_1 (by omega) (by omega) (by rw [h_1]; rfl) rfl ?_
    refine J_iconst C dX11_worth_36 (zi9 rfl rfl) ?_
    exact J_iret C dX11_worth_37 (by decide) (by decide)
  · refine J_if (fun h_2 => ?_) (fun h_2 => ?_)
    · refine J_swIn C 38 dX11_worth_1 (by omega) (by omega) (by rw [h_2]; rfl) rfl ?_
      refine J_iconst C dX11_worth_38 (zi9 rfl rfl) ?_
      exact J_iret C dX11_worth_39 (by decide) (by decide)
    · refine J_if (fun h_3 => ?_) (fun h_3 => ?_)
      · refine J_swIn C 40 dX11_worth_1 (by omega) (by omega) (by rw [h_3]; rfl) rfl ?_
        refine J_bipush C dX11_worth_40 (zi9 rfl rfl) (by decide) ?_
        exact J_iret C dX11_worth_42 (by decide) (by decide)
      · refine J_if (fun h_4 => ?_) (fun h_4 => ?_)
        · refine J_swIn C 43 dX11_worth_1 (by omega) (by omega) (by rw [h_4]; rfl) rfl ?_
          refine J_bipush C dX11_worth_43 (zi9 rfl rfl) (by decide) ?_
          exact J_iret C dX11_worth_45 (by decide) (by decide)
        · refine J_if (fun h_5 => ?_) (fun h_5 => ?_)
          · refine J_swIn C 46 dX11_worth_1 (by omega) (by omega) (by rw [h_5]; rfl) rfl ?_
            refine J_bipush C dX11_worth_46 (zi9 rfl rfl) (by decide) ?_
            exact J_iret C dX11_worth_48 (by decide) (by decide)
          · refine J_swOut C 49 dX11_worth_1 (by omega) rfl ?_
            refine J_bipush C dX11_worth_49 (zi9 rfl rfl) (by decide) ?_
            exact J_iret C dX11_worth_51 (by decide) (by decide)
def fX11_isCup (s0 : zS) (i0 : Nat) (x1 : Int) : Option (Int × zS) :=
  cl_ (fX11_in s0 x1 0 (wr ((gI s0 64 i0 14) - 1))) fun (x_2 : Int) (s_1 : zS) => g_ (x_2 = 0 ∨ x_2 = 1) (some (x_2, s_1))
set_option maxHeartbeats 4000000 in
set_option maxRecDepth 20000 in
theorem kX11_isCup (s0 : zS) (i0 : Nat) (x1 : Int) : zCt zw yX11_isCup cX11_isCup 2 (some .boolean) 1 22 0 0 eI [.inr (64, some i0), .inl x1] s0 (fX11_isCup s0 i0 x1) := by
  refine zCt_on (own := RX11) (nm := "isCup") rfl rfl (by decide) (Nat.le_of_ble_eq_true rfl) fun K C => ?_
  show zJ zw 2 K _ 0 0 0 [(0, .inr (64, some i0)), (1, .inl x1)] [] s0 (fX11_isCup s0 i0 x1)
  unfold fX11_isCup
  refine J_iload_n C 1 dX11_isCup_0 rfl ?_
  refine J_iconst C dX11_isCup_1 (zi9 rfl rfl) ?_
  refine J_aload_n C 0 dX11_isCup_2 rfl ?_
  refine gf_64_14 C dX11_isCup_3 q_858 ?_
  refine J_iconst C dX11_isCup_6 (zi9 rfl rfl) ?_
  refine J_isub C dX11_isCup_7 ?_
  refine J_callSI (S := []) (avs := [.inl x1, .inl 0, .inl (wr ((gI s0 64 i0 14) - 1))]) C yw_87 (kX11_in _ _ _ _) dX11_isCup_8 rfl (Nat.le_of_ble_eq_true rfl) (by decide) fun x_2 s_1 => ?_
  refine J_g fun h_3 => ?_
  exact J_zret C h_3 dX11_isCup_11 (by decide) (by decide)
def fX11_cup (s0 : zS) (i0 : Nat) (x1 : Int) : Option (Int × zS) :=
  cl_ (fX11_isPost s0 i0 x1) fun (x_2 : Int) (s_1 : zS) => if x_2 = 0 then (some ((-1), s_1)) else (nm_ (gR s_1 64 i0 2) fun (r_3 : Option Nat) => Option.bind r_3 fun i_4 => g_ ((0 : Int) ≤ x1 ∧ (x1 : Int) < 16) (if gI s_1 68 i_4 (Int.toNat (x1)) = 2 then (if gI s_1 64 i0 14 = 24 then (some ((-4), s_1)) else (nm_ (gR s_1 64 i0 15) fun (r_7 : Option Nat) => Option.bind r_7 fun i_8 => g_ ((0 : Int) ≤ gI s_1 64 i0 14 ∧ (gI s_1 64 i0 14 : Int) < 24) (up_ (sI s_1 81 i_8 (Int.toNat (gI s_1 64 i0 14)) x1) fun (s_11 : zS) => nm_ (gR s_11 64 i0 16) fun (r_12 : Option Nat) => Option.bind r_12 fun i_13 => g_ ((0 : Int) ≤ gI s_11 64 i0 14 ∧ (gI s_11 64 i0 14 : Int) < 24) (up_ (sI s_11 82 i_13 (Int.toNat (gI s_11 64 i0 14)) 0) fun (s_16 : zS) => up_ (sI s_16 64 i0 14 (wr ((gI s_16 64 i0 14) + 1))) fun (s_17 : zS) => some (wr ((gI s_17 64 i0 14) - 1), s_17))))) else (some ((-3), s_1))))
set_option maxHeartbeats 4000000 in
set_option maxRecDepth 20000 in
theorem kX11_cup (s0 : zS) (i0 : Nat) (x1 : Int) : zCt zw yX11_cup cX11_cup 2 (some .int) 2 43 0 0 eI [.inr (64, some i0), .inl x1] s0 (fX11_cup s0 i0 x1) := by
  refine zCt_on (own := RX11) (nm := "cup") rfl rfl (by decide) (Nat.le_of_ble_eq_true rfl) fun K C => ?_
  show zJ zw 2 K _ 0 0 0 [(0, .inr (64, some i0)), (1, .inl x1)] [] s0 (fX11_cup s0 i0 x1)
  unfold fX11_cup
  refine J_aload_n C 0 dX11_cup_0 rfl ?_
  refine J_iload_n C 1 dX11_cup_1 rfl ?_
  refine J_callVI (S := []) (avs := [.inl x1]) C zx64 yw_88 rfl (kX11_isPost _ _ _) dX11_cup_2 rfl (Nat.le_of_ble_eq_true rfl) (by decide) fun x_2 s_1 => ?_
  refine J_if_ne C 10 dX11_cup_5 rfl (fun _ => ?_) (fun _ => ?_)
  · refine J_aload_n C 0 dX11_cup_10 rfl ?_
    refine gf_64_2 C dX11_cup_11 q_846 ?_
    refine J_nmR fun r_3 => ?_
    refine J_iload_n C 1 dX11_cup_14 rfl ?_
    refine J_bind fun i_4 e_5 => ?_
    subst e_5
    refine J_g fun h_6 => ?_
    refine J_iald (t := 68) (N := 16) C (Nat.le_of_ble_eq_true rfl) rfl rfl h_6 dX11_cup_15 ?_
    refine J_iconst C dX11_cup_16 (zi9 rfl rfl) ?_
    refine J_ic_eq C 23 dX11_cup_17 rfl (fun _ => ?_) (fun _ => ?_)
    · refine J_aload_n C 0 dX11_cup_23 rfl ?_
      refine gf_64_14 C dX11_cup_24 q_858 ?_
      refine J_bipush C dX11_cup_27 (zi9 rfl rfl) (by decide) ?_
      refine J_ic_ne C 35 dX11_cup_29 rfl (fun _ => ?_) (fun _ => ?_)
      · refine J_aload_n C 0 dX11_cup_35 rfl ?_
        refine gf_64_15 C dX11_cup_36 q_859 ?_
        refine J_nmR fun r_7 => ?_
        refine J_aload_n C 0 dX11_cup_39 rfl ?_
        refine gf_64_14 C dX11_cup_40 q_858 ?_
        refine J_iload_n C 1 dX11_cup_43 rfl ?_
        refine J_bind fun i_8 e_9 => ?_
        subst e_9
        refine J_g fun h_10 => ?_
        refine J_iast (t := 81) (N := 24) C (Nat.le_of_ble_eq_true rfl) rfl rfl h_10 dX11_cup_44 fun s_11 => ?_
        refine J_aload_n C 0 dX11_cup_45 rfl ?_
        refine gf_64_16 C dX11_cup_46 q_860 ?_
        refine J_nmR fun r_12 => ?_
        refine J_aload_n C 0 dX11_cup_49 rfl ?_
        refine gf_64_14 C dX11_cup_50 q_858 ?_
        refine J_iconst C dX11_cup_53 (zi9 rfl rfl) ?_
        refine J_bind fun i_13 e_14 => ?_
        subst e_14
        refine J_g fun h_15 => ?_
        refine J_iast (t := 82) (N := 24) C (Nat.le_of_ble_eq_true rfl) rfl rfl h_15 dX11_cup_54 fun s_16 => ?_
        refine J_aload_n C 0 dX11_cup_55 rfl ?_
        refine J_dup C dX11_cup_56 ?_
        refine gf_64_14 C dX11_cup_57 q_858 ?_
        refine J_iconst C dX11_cup_60 (zi9 rfl rfl) ?_
        refine J_iadd C dX11_cup_61 ?_
        refine pf_64_14 C dX11_cup_62 q_858 fun s_17 => ?_
        refine J_aload_n C 0 dX11_cup_65 rfl ?_
        refine gf_64_14 C dX11_cup_66 q_858 ?_
        refine J_iconst C dX11_cup_69 (zi9 rfl rfl) ?_
        refine J_isub C dX11_cup_70 ?_
        exact J_iret C dX11_cup_71 (by decide) (by decide)
      · refine J_bipush C dX11_cup_32 (zi9 rfl rfl) (by decide) ?_
        exact J_iret C dX11_cup_34 (by decide) (by decide)
    · refine J_bipush C dX11_cup_20 (zi9 rfl rfl) (by decide) ?_
      exact J_iret C dX11_cup_22 (by decide) (by decide)
  · refine J_iconst C dX11_cup_8 (zi9 rfl rfl) ?_
    exact J_iret C dX11_cup_9 (by decide) (by decide)
def fX11_clerk (s0 : zS) (i0 : Nat) (x1 : Int) : Option (Int × zS) :=
  cl_ (fX11_in s0 x1 1 30) fun (x_2 : Int) (s_1 : zS) => if x_2 = 0 then (some ((-2), s_1)) else (if gI s_1 64 i0 34 = 4 then (some ((-4), s_1)) else (nm_ (gR s_1 64 i0 35) fun (r_3 : Option Nat) => Option.bind r_3 fun i_4 => g_ ((0 : Int) ≤ gI s_1 64 i0 34 ∧ (gI s_1 64 i0 34 : Int) < 4) (up_ (sI s_1 101 i_4 (Int.toNat (gI s_1 64 i0 34)) x1) fun (s_7 : zS) => nm_ (gR s_7 64 i0 36) fun (r_8 : Option Nat) => Option.bind r_8 fun i_9 => g_ ((0 : Int) ≤ gI s_7 64 i0 34 ∧ (gI s_7 64 i0 34 : Int) < 4) (up_ (sI s_7 102 i_9 (Int.toNat (gI s_7 64 i0 34)) (-9)) fun (s_12 : zS) => up_ (sI s_12 64 i0 34 (wr ((gI s_12 64 i0 34) + 1))) fun (s_13 : zS) => some (wr ((gI s_13 64 i0 34) - 1), s_13)))))
set_option maxHeartbeats 4000000 in
set_option maxRecDepth 20000 in
theorem kX11_clerk (s0 : zS) (i0 : Nat) (x1 : Int) : zCt zw yX11_clerk cX11_clerk 2 (some .int) 1 22 0 0 eI [.inr (64, some i0), .inl x1] s0 (fX11_clerk s0 i0 x1) := by
  refine zCt_on (own := RX11) (nm := "clerk") rfl rfl (by decide) (Nat.le_of_ble_eq_true rfl) fun K C => ?_
  show zJ zw 2 K _ 0 0 0 [(0, .inr (64, some i0)), (1, .inl x1)] [] s0 (fX11_clerk s0 i0 x1)
  unfold fX11_clerk
  refine J_iload_n C 1 dX11_clerk_0 rfl ?_
  refine J_iconst C dX11_clerk_1 (zi9 rfl rfl) ?_
  refine J_bipush C dX11_clerk_2 (zi9 rfl rfl) (by decide) ?_
  refine J_callSI (S := []) (avs := [.inl x1, .inl 1, .inl 30]) C yw_87 (kX11_in _ _ _ _) dX11_clerk_4 rfl (Nat.le_of_ble_eq_true rfl) (by decide) fun x_2 s_1 => ?_
  refine J_if_ne C 13 dX11_clerk_7 rfl (fun _ => ?_) (fun _ => ?_)
  · refine J_aload_n C 0 dX11_clerk_13 rfl ?_
    refine gf_64_34 C dX11_clerk_14 q_878 ?_
    refine J_iconst C dX11_clerk_17 (zi9 rfl rfl) ?_
    refine J_ic_ne C 24 dX11_clerk_18 rfl (fun _ => ?_) (fun _ => ?_)
    · refine J_aload_n C 0 dX11_clerk_24 rfl ?_
      refine gf_64_35 C dX11_clerk_25 q_879 ?_
      refine J_nmR fun r_3 => ?_
      refine J_aload_n C 0 dX11_clerk_28 rfl ?_
      refine gf_64_34 C dX11_clerk_29 q_878 ?_
      refine J_iload_n C 1 dX11_clerk_32 rfl ?_
      refine J_bind fun i_4 e_5 => ?_
      subst e_5
      refine J_g fun h_6 => ?_
      refine J_iast (t := 101) (N := 4) C (Nat.le_of_ble_eq_true rfl) rfl rfl h_6 dX11_clerk_33 fun s_7 => ?_
      refine J_aload_n C 0 dX11_clerk_34 rfl ?_
      refine gf_64_36 C dX11_clerk_35 q_880 ?_
      refine J_nmR fun r_8 => ?_
      refine J_aload_n C 0 dX11_clerk_38 rfl ?_
      refine gf_64_34 C dX11_clerk_39 q_878 ?_
      refine J_bipush C dX11_clerk_42 (zi9 rfl rfl) (by decide) ?_
      refine J_bind fun i_9 e_10 => ?_
      subst e_10
      refine J_g fun h_11 => ?_
      refine J_iast (t := 102) (N := 4) C (Nat.le_of_ble_eq_true rfl) rfl rfl h_11 dX11_clerk_44 fun s_12 => ?_
      refine J_aload_n C 0 dX11_clerk_45 rfl ?_
      refine J_dup C dX11_clerk_46 ?_
      refine gf_64_34 C dX11_clerk_47 q_878 ?_
      refine J_iconst C dX11_clerk_50 (zi9 rfl rfl) ?_
      refine J_iadd C dX11_clerk_51 ?_
      refine pf_64_34 C dX11_clerk_52 q_878 fun s_13 => ?_
      refine J_aload_n C 0 dX11_clerk_55 rfl ?_
      refine gf_64_34 C dX11_clerk_56 q_878 ?_
      refine J_iconst C dX11_clerk_59 (zi9 rfl rfl) ?_
      refine J_isub C dX11_clerk_60 ?_
      exact J_iret C dX11_clerk_61 (by decide) (by decide)
    · refine J_bipush C dX11_clerk_21 (zi9 rfl rfl) (by decide) ?_
      exact J_iret C dX11_clerk_23 (by decide) (by decide)
  · refine J_bipush C dX11_clerk_10 (zi9 rfl rfl) (by decide) ?_
    exact J_iret C dX11_clerk_12 (by decide) (by decide)
def fX11_order (s0 : zS) (i0 : Nat) (x1 : Int) : Option (Int × zS) :=
  cl_ (fX11_in s0 x1 0 2) fun (x_2 : Int) (s_1 : zS) => if x_2 = 0 then (some ((-2), s_1)) else (nm_ (gI s_1 64 i0 38) fun (x_3 : Int) => up_ (sI s_1 64 i0 38 x1) fun (s_4 : zS) => some (x_3, s_4))
set_option maxHeartbeats 4000000 in
set_option maxRecDepth 20000 in
theorem kX11_order (s0 : zS) (i0 : Nat) (x1 : Int) : zCt zw yX11_order cX11_order 3 (some .int) 1 22 0 0 eI [.inr (64, some i0), .inl x1] s0 (fX11_order s0 i0 x1) := by
  refine zCt_on (own := RX11) (nm := "order") rfl rfl (by decide) (Nat.le_of_ble_eq_true rfl) fun K C => ?_
  show zJ zw 3 K _ 0 0 0 [(0, .inr (64, some i0)), (1, .inl x1)] [] s0 (fX11_order s0 i0 x1)
  unfold fX11_order
  refine J_iload_n C 1 dX11_order_0 rfl ?_
  refine J_iconst C dX11_order_1 (zi9 rfl rfl) ?_
  refine J_iconst C dX11_order_2 (zi9 rfl rfl) ?_
  refine J_callSI (S := []) (avs := [.inl x1, .inl 0, .inl 2]) C yw_87 (kX11_in _ _ _ _) dX11_order_3 rfl (Nat.le_of_ble_eq_true rfl) (by decide) fun x_2 s_1 => ?_
  refine J_if_ne C 12 dX11_order_6 rfl (fun _ => ?_) (fun _ => ?_)
  · refine J_aload_n C 0 dX11_order_12 rfl ?_
    refine gf_64_38 C dX11_order_13 q_882 ?_
    refine J_nm fun x_3 => ?_
    refine J_istore_n (L' := [(0, .inr (64, some i0)), (1, .inl x1), (2, .inl x_3)]) C dX11_order_16 (Nat.le_of_ble_eq_true rfl) rfl ?_
    refine J_aload_n C 0 dX11_order_17 rfl ?_
    refine J_iload_n C 1 dX11_order_18 rfl ?_
    refine pf_64_38 C dX11_order_19 q_882 fun s_4 => ?_
    refine J_iload_n C 2 dX11_order_22 rfl ?_
    exact J_iret C dX11_order_23 (by decide) (by decide)
  · refine J_bipush C dX11_order_9 (zi9 rfl rfl) (by decide) ?_
    exact J_iret C dX11_order_11 (by decide) (by decide)
def fX11_drawer (s0 : zS) (i0 : Nat) (x1 : Int) (x2 : Int) : Option (Int × zS) :=
  cl_ (fX11_in s0 x1 0 5) fun (x_2 : Int) (s_1 : zS) => if x_2 = 0 then (some ((-2), s_1)) else (cl_ (fX11_in s_1 x2 0 1000) fun (x_4 : Int) (s_3 : zS) => if x_4 = 0 then (some ((-2), s_3)) else (nm_ (gR s_3 64 i0 26) fun (r_5 : Option Nat) => Option.bind r_5 fun i_6 => g_ ((0 : Int) ≤ x1 ∧ (x1 : Int) < 6) (nm_ (gI s_3 92 i_6 (Int.toNat (x1))) fun (x_9 : Int) => nm_ (gR s_3 64 i0 26) fun (r_10 : Option Nat) => Option.bind r_10 fun i_11 => g_ ((0 : Int) ≤ x1 ∧ (x1 : Int) < 6) (up_ (sI s_3 92 i_11 (Int.toNat (x1)) x2) fun (s_14 : zS) => some (x_9, s_14)))))
set_option maxHeartbeats 4000000 in
set_option maxRecDepth 20000 in
theorem kX11_drawer (s0 : zS) (i0 : Nat) (x1 : Int) (x2 : Int) : zCt zw yX11_drawer cX11_drawer 4 (some .int) 1 22 0 0 eI [.inr (64, some i0), .inl x1, .inl x2] s0 (fX11_drawer s0 i0 x1 x2) := by
  refine zCt_on (own := RX11) (nm := "drawer") rfl rfl (by decide) (Nat.le_of_ble_eq_true rfl) fun K C => ?_
  show zJ zw 4 K _ 0 0 0 [(0, .inr (64, some i0)), (1, .inl x1), (2, .inl x2)] [] s0 (fX11_drawer s0 i0 x1 x2)
  unfold fX11_drawer
  refine J_iload_n C 1 dX11_drawer_0 rfl ?_
  refine J_iconst C dX11_drawer_1 (zi9 rfl rfl) ?_
  refine J_iconst C dX11_drawer_2 (zi9 rfl rfl) ?_
  refine J_callSI (S := []) (avs := [.inl x1, .inl 0, .inl 5]) C yw_87 (kX11_in _ _ _ _) dX11_drawer_3 rfl (Nat.le_of_ble_eq_true rfl) (by decide) fun x_2 s_1 => ?_
  refine J_if_eq C 20 dX11_drawer_6 rfl (fun _ => ?_) (fun _ => ?_)
  · refine J_bipush C dX11_drawer_20 (zi9 rfl rfl) (by decide) ?_
    exact J_iret C dX11_drawer_22 (by decide) (by decide)
  · refine J_iload_n C 2 dX11_drawer_9 rfl ?_
    refine J_iconst C dX11_drawer_10 (zi9 rfl rfl) ?_
    refine J_sipush C dX11_drawer_11 (zi9 rfl rfl) (by decide) ?_
    refine J_callSI (S := []) (avs := [.inl x2, .inl 0, .inl 1000]) C yw_87 (kX11_in _ _ _ _) dX11_drawer_14 rfl (Nat.le_of_ble_eq_true rfl) (by decide) fun x_4 s_3 => ?_
    refine J_if_ne C 23 dX11_drawer_17 rfl (fun _ => ?_) (fun _ => ?_)
    · refine J_aload_n C 0 dX11_drawer_23 rfl ?_
      refine gf_64_26 C dX11_drawer_24 q_870 ?_
      refine J_nmR fun r_5 => ?_
      refine J_iload_n C 1 dX11_drawer_27 rfl ?_
      refine J_bind fun i_6 e_7 => ?_
      subst e_7
      refine J_g fun h_8 => ?_
      refine J_iald (t := 92) (N := 6) C (Nat.le_of_ble_eq_true rfl) rfl rfl h_8 dX11_drawer_28 ?_
      refine J_nm fun x_9 => ?_
      refine J_istore_n (L' := [(0, .inr (64, some i0)), (1, .inl x1), (2, .inl x2), (3, .inl x_9)]) C dX11_drawer_29 (Nat.le_of_ble_eq_true rfl) rfl ?_
      refine J_aload_n C 0 dX11_drawer_30 rfl ?_
      refine gf_64_26 C dX11_drawer_31 q_870 ?_
      refine J_nmR fun r_10 => ?_
      refine J_iload_n C 1 dX11_drawer_34 rfl ?_
      refine J_iload_n C 2 dX11_drawer_35 rfl ?_
      refine J_bind fun i_11 e_12 => ?_
      subst e_12
      refine J_g fun h_13 => ?_
      refine J_iast (t := 92) (N := 6) C (Nat.le_of_ble_eq_true rfl) rfl rfl h_13 dX11_drawer_36 fun s_14 => ?_
      refine J_iload_n C 3 dX11_drawer_37 rfl ?_
      exact J_iret C dX11_drawer_38 (by decide) (by decide)
    · refine J_bipush C dX11_drawer_20 (zi9 rfl rfl) (by decide) ?_
      exact J_iret C dX11_drawer_22 (by decide) (by decide)
def fX11_fetch (s0 : zS) (i0 : Nat) (x1 : Int) (x2 : Int) (x3 : Int) : Option (Int × zS) :=
  cl_ (fX11_in s0 x1 0 5) fun (x_2 : Int) (s_1 : zS) => if x_2 = 0 then (some ((-2), s_1)) else (cl_ (fX11_in s_1 x2 1 100) fun (x_4 : Int) (s_3 : zS) => if x_4 = 0 then (some ((-2), s_3)) else (cl_ (fX11_in s_3 x3 1 200) fun (x_6 : Int) (s_5 : zS) => if x_6 = 0 then (some ((-2), s_5)) else (if gI s_5 64 i0 39 = 20 then (some ((-4), s_5)) else (nm_ (gR s_5 64 i0 40) fun (r_7 : Option Nat) => Option.bind r_7 fun i_8 => g_ ((0 : Int) ≤ gI s_5 64 i0 39 ∧ (gI s_5 64 i0 39 : Int) < 20) (up_ (sI s_5 106 i_8 (Int.toNat (gI s_5 64 i0 39)) x1) fun (s_11 : zS) => nm_ (gR s_11 64 i0 41) fun (r_12 : Option Nat) => Option.bind r_12 fun i_13 => g_ ((0 : Int) ≤ gI s_11 64 i0 39 ∧ (gI s_11 64 i0 39 : Int) < 20) (up_ (sI s_11 107 i_13 (Int.toNat (gI s_11 64 i0 39)) x2) fun (s_16 : zS) => nm_ (gR s_16 64 i0 42) fun (r_17 : Option Nat) => Option.bind r_17 fun i_18 => g_ ((0 : Int) ≤ gI s_16 64 i0 39 ∧ (gI s_16 64 i0 39 : Int) < 20) (up_ (sI s_16 108 i_18 (Int.toNat (gI s_16 64 i0 39)) (wr ((gI s_16 64 i0 13) + x3))) fun (s_21 : zS) => up_ (sI s_21 64 i0 39 (wr ((gI s_21 64 i0 39) + 1))) fun (s_22 : zS) => some (wr ((gI s_22 64 i0 13) + x3), s_22))))))))
set_option maxHeartbeats 4000000 in
set_option maxRecDepth 20000 in
theorem kX11_fetch (s0 : zS) (i0 : Nat) (x1 : Int) (x2 : Int) (x3 : Int) : zCt zw yX11_fetch cX11_fetch 4 (some .int) 1 22 0 0 eI [.inr (64, some i0), .inl x1, .inl x2, .inl x3] s0 (fX11_fetch s0 i0 x1 x2 x3) := by
  refine zCt_on (own := RX11) (nm := "fetch") rfl rfl (by decide) (Nat.le_of_ble_eq_true rfl) fun K C => ?_
  show zJ zw 4 K _ 0 0 0 [(0, .inr (64, some i0)), (1, .inl x1), (2, .inl x2), (3, .inl x3)] [] s0 (fX11_fetch s0 i0 x1 x2 x3)
  unfold fX11_fetch
  refine J_iload_n C 1 dX11_fetch_0 rfl ?_
  refine J_iconst C dX11_fetch_1 (zi9 rfl rfl) ?_
  refine J_iconst C dX11_fetch_2 (zi9 rfl rfl) ?_
  refine J_callSI (S := []) (avs := [.inl x1, .inl 0, .inl 5]) C yw_87 (kX11_in _ _ _ _) dX11_fetch_3 rfl (Nat.le_of_ble_eq_true rfl) (by decide) fun x_2 s_1 => ?_
  refine J_if_eq C 30 dX11_fetch_6 rfl (fun _ => ?_) (fun _ => ?_)
  · refine J_bipush C dX11_fetch_30 (zi9 rfl rfl) (by decide) ?_
    exact J_iret C dX11_fetch_32 (by decide) (by decide)
  · refine J_iload_n C 2 dX11_fetch_9 rfl ?_
    refine J_iconst C dX11_fetch_10 (zi9 rfl rfl) ?_
    refine J_bipush C dX11_fetch_11 (zi9 rfl rfl) (by decide) ?_
    refine J_callSI (S := []) (avs := [.inl x2, .inl 1, .inl 100]) C yw_87 (kX11_in _ _ _ _) dX11_fetch_13 rfl (Nat.le_of_ble_eq_true rfl) (by decide) fun x_4 s_3 => ?_
    refine J_if_eq C 30 dX11_fetch_16 rfl (fun _ => ?_) (fun _ => ?_)
    · refine J_bipush C dX11_fetch_30 (zi9 rfl rfl) (by decide) ?_
      exact J_iret C dX11_fetch_32 (by decide) (by decide)
    · refine J_iload_n C 3 dX11_fetch_19 rfl ?_
      refine J_iconst C dX11_fetch_20 (zi9 rfl rfl) ?_
      refine J_sipush C dX11_fetch_21 (zi9 rfl rfl) (by decide) ?_
      refine J_callSI (S := []) (avs := [.inl x3, .inl 1, .inl 200]) C yw_87 (kX11_in _ _ _ _) dX11_fetch_24 rfl (Nat.le_of_ble_eq_true rfl) (by decide) fun x_6 s_5 => ?_
      refine J_if_ne C 33 dX11_fetch_27 rfl (fun _ => ?_) (fun _ => ?_)
      · refine J_aload_n C 0 dX11_fetch_33 rfl ?_
        refine gf_64_39 C dX11_fetch_34 q_883 ?_
        refine J_bipush C dX11_fetch_37 (zi9 rfl rfl) (by decide) ?_
        refine J_ic_ne C 45 dX11_fetch_39 rfl (fun _ => ?_) (fun _ => ?_)
        · refine J_aload_n C 0 dX11_fetch_45 rfl ?_
          refine gf_64_40 C dX11_fetch_46 q_884 ?_
          refine J_nmR fun r_7 => ?_
          refine J_aload_n C 0 dX11_fetch_49 rfl ?_
          refine gf_64_39 C dX11_fetch_50 q_883 ?_
          refine J_iload_n C 1 dX11_fetch_53 rfl ?_
          refine J_bind fun i_8 e_9 => ?_
          subst e_9
          refine J_g fun h_10 => ?_
          refine J_iast (t := 106) (N := 20) C (Nat.le_of_ble_eq_true rfl) rfl rfl h_10 dX11_fetch_54 fun s_11 => ?_
          refine J_aload_n C 0 dX11_fetch_55 rfl ?_
          refine gf_64_41 C dX11_fetch_56 q_885 ?_
          refine J_nmR fun r_12 => ?_
          refine J_aload_n C 0 dX11_fetch_59 rfl ?_
          refine gf_64_39 C dX11_fetch_60 q_883 ?_
          refine J_iload_n C 2 dX11_fetch_63 rfl ?_
          refine J_bind fun i_13 e_14 => ?_
          subst e_14
          refine J_g fun h_15 => ?_
          refine J_iast (t := 107) (N := 20) C (Nat.le_of_ble_eq_true rfl) rfl rfl h_15 dX11_fetch_64 fun s_16 => ?_
          refine J_aload_n C 0 dX11_fetch_65 rfl ?_
          refine gf_64_42 C dX11_fetch_66 q_886 ?_
          refine J_nmR fun r_17 => ?_
          refine J_aload_n C 0 dX11_fetch_69 rfl ?_
          refine gf_64_39 C dX11_fetch_70 q_883 ?_
          refine J_aload_n C 0 dX11_fetch_73 rfl ?_
          refine gf_64_13 C dX11_fetch_74 q_857 ?_
          refine J_iload_n C 3 dX11_fetch_77 rfl ?_
          refine J_iadd C dX11_fetch_78 ?_
          refine J_bind fun i_18 e_19 => ?_
          subst e_19
          refine J_g fun h_20 => ?_
          refine J_iast (t := 108) (N := 20) C (Nat.le_of_ble_eq_true rfl) rfl rfl h_20 dX11_fetch_79 fun s_21 => ?_
          refine J_aload_n C 0 dX11_fetch_80 rfl ?_
          refine J_dup C dX11_fetch_81 ?_
          refine gf_64_39 C dX11_fetch_82 q_883 ?_
          refine J_iconst C dX11_fetch_85 (zi9 rfl rfl) ?_
          refine J_iadd C dX11_fetch_86 ?_
          refine pf_64_39 C dX11_fetch_87 q_883 fun s_22 => ?_
          refine J_aload_n C 0 dX11_fetch_90 rfl ?_
          refine gf_64_13 C dX11_fetch_91 q_857 ?_
          refine J_iload_n C 3 dX11_fetch_94 rfl ?_
          refine J_iadd C dX11_fetch_95 ?_
          exact J_iret C dX11_fetch_96 (by decide) (by decide)
        · refine J_bipush C dX11_fetch_42 (zi9 rfl rfl) (by decide) ?_
          exact J_iret C dX11_fetch_44 (by decide) (by decide)
      · refine J_bipush C dX11_fetch_30 (zi9 rfl rfl) (by decide) ?_
        exact J_iret C dX11_fetch_32 (by decide) (by decide)
def fX11_waitAt (s0 : zS) (i0 : Nat) (x1 : Int) (x2 : Int) (x3 : Int) (x4 : Int) : Option (Unit × zS) :=
  nm_ (gR s0 64 i0 16) fun (r_1 : Option Nat) => Option.bind r_1 fun i_2 => g_ ((0 : Int) ≤ x1 ∧ (x1 : Int) < 24) (up_ (sI s0 82 i_2 (Int.toNat (x1)) 1) fun (s_5 : zS) => nm_ (gR s_5 64 i0 17) fun (r_6 : Option Nat) => Option.bind r_6 fun i_7 => g_ ((0 : Int) ≤ x1 ∧ (x1 : Int) < 24) (up_ (sI s_5 83 i_7 (Int.toNat (x1)) x2) fun (s_10 : zS) => nm_ (gR s_10 64 i0 18) fun (r_11 : Option Nat) => Option.bind r_11 fun i_12 => g_ ((0 : Int) ≤ x1 ∧ (x1 : Int) < 24) (up_ (sI s_10 84 i_12 (Int.toNat (x1)) (gI s_10 64 i0 13)) fun (s_15 : zS) => nm_ (gR s_15 64 i0 19) fun (r_16 : Option Nat) => Option.bind r_16 fun i_17 => g_ ((0 : Int) ≤ x1 ∧ (x1 : Int) < 24) (g_ (x3 = 0 ∨ x3 = 1) (up_ (sI s_15 85 i_17 (Int.toNat (x1)) x3) fun (s_20 : zS) => nm_ (gR s_20 64 i0 20) fun (r_21 : Option Nat) => Option.bind r_21 fun i_22 => g_ ((0 : Int) ≤ x1 ∧ (x1 : Int) < 24) (up_ (sI s_20 86 i_22 (Int.toNat (x1)) x4) fun (s_25 : zS) => some ((), s_25)))))))
set_option maxHeartbeats 4000000 in
set_option maxRecDepth 20000 in
theorem kX11_waitAt (s0 : zS) (i0 : Nat) (x1 : Int) (x2 : Int) (x3 : Int) (x4 : Int) : zCt zw yX11_waitAt cX11_waitAt 5 none 0 0 0 0 eV [.inr (64, some i0), .inl x1, .inl x2, .inl x3, .inl x4] s0 (fX11_waitAt s0 i0 x1 x2 x3 x4) := by
  refine zCt_on (own := RX11) (nm := "waitAt") rfl rfl (by decide) (Nat.le_of_ble_eq_true rfl) fun K C => ?_
  show zJ zw 5 K _ 0 0 0 [(0, .inr (64, some i0)), (1, .inl x1), (2, .inl x2), (3, .inl x3), (4, .inl x4)] [] s0 (fX11_waitAt s0 i0 x1 x2 x3 x4)
  unfold fX11_waitAt
  refine J_aload_n C 0 dX11_waitAt_0 rfl ?_
  refine gf_64_16 C dX11_waitAt_1 q_860 ?_
  refine J_nmR fun r_1 => ?_
  refine J_iload_n C 1 dX11_waitAt_4 rfl ?_
  refine J_iconst C dX11_waitAt_5 (zi9 rfl rfl) ?_
  refine J_bind fun i_2 e_3 => ?_
  subst e_3
  refine J_g fun h_4 => ?_
  refine J_iast (t := 82) (N := 24) C (Nat.le_of_ble_eq_true rfl) rfl rfl h_4 dX11_waitAt_6 fun s_5 => ?_
  refine J_aload_n C 0 dX11_waitAt_7 rfl ?_
  refine gf_64_17 C dX11_waitAt_8 q_861 ?_
  refine J_nmR fun r_6 => ?_
  refine J_iload_n C 1 dX11_waitAt_11 rfl ?_
  refine J_iload_n C 2 dX11_waitAt_12 rfl ?_
  refine J_bind fun i_7 e_8 => ?_
  subst e_8
  refine J_g fun h_9 => ?_
  refine J_iast (t := 83) (N := 24) C (Nat.le_of_ble_eq_true rfl) rfl rfl h_9 dX11_waitAt_13 fun s_10 => ?_
  refine J_aload_n C 0 dX11_waitAt_14 rfl ?_
  refine gf_64_18 C dX11_waitAt_15 q_862 ?_
  refine J_nmR fun r_11 => ?_
  refine J_iload_n C 1 dX11_waitAt_18 rfl ?_
  refine J_aload_n C 0 dX11_waitAt_19 rfl ?_
  refine gf_64_13 C dX11_waitAt_20 q_857 ?_
  refine J_bind fun i_12 e_13 => ?_
  subst e_13
  refine J_g fun h_14 => ?_
  refine J_iast (t := 84) (N := 24) C (Nat.le_of_ble_eq_true rfl) rfl rfl h_14 dX11_waitAt_23 fun s_15 => ?_
  refine J_aload_n C 0 dX11_waitAt_24 rfl ?_
  refine gf_64_19 C dX11_waitAt_25 q_863 ?_
  refine J_nmR fun r_16 => ?_
  refine J_iload_n C 1 dX11_waitAt_28 rfl ?_
  refine J_iload_n C 3 dX11_waitAt_29 rfl ?_
  refine J_bind fun i_17 e_18 => ?_
  subst e_18
  refine J_g fun h_19 => ?_
  refine J_g fun h_26 => ?_
  refine J_bast (t := 85) (N := 24) C (Nat.le_of_ble_eq_true rfl) rfl rfl h_19 h_26 dX11_waitAt_30 fun s_20 => ?_
  refine J_aload_n C 0 dX11_waitAt_31 rfl ?_
  refine gf_64_20 C dX11_waitAt_32 q_864 ?_
  refine J_nmR fun r_21 => ?_
  refine J_iload_n C 1 dX11_waitAt_35 rfl ?_
  refine J_iload C 4 dX11_waitAt_36 rfl ?_
  refine J_bind fun i_22 e_23 => ?_
  subst e_23
  refine J_g fun h_24 => ?_
  refine J_iast (t := 86) (N := 24) C (Nat.le_of_ble_eq_true rfl) rfl rfl h_24 dX11_waitAt_38 fun s_25 => ?_
  exact J_vret C dX11_waitAt_39 (by decide) (by decide)
def fX11_send (s0 : zS) (i0 : Nat) (x1 : Int) (x2 : Int) (x3 : Int) (x4 : Int) : Option (Int × zS) :=
  cl_ (fX11_isCup s0 i0 x1) fun (x_2 : Int) (s_1 : zS) => if x_2 = 0 then (some ((-1), s_1)) else (cl_ (fX11_in s_1 x2 1 3000) fun (x_4 : Int) (s_3 : zS) => if x_4 = 0 then (some ((-2), s_3)) else (cl_ (fX11_in s_3 x3 0 5) fun (x_6 : Int) (s_5 : zS) => if x_6 = 0 then (some ((-2), s_5)) else (cl_ (fX11_in s_5 x4 1 50) fun (x_8 : Int) (s_7 : zS) => if x_8 = 0 then (some ((-2), s_7)) else (nm_ (gR s_7 64 i0 16) fun (r_9 : Option Nat) => Option.bind r_9 fun i_10 => g_ ((0 : Int) ≤ x1 ∧ (x1 : Int) < 24) (if gI s_7 82 i_10 (Int.toNat (x1)) = 0 then (cl_ (fX11_worth s_7 x3) fun (x_14 : Int) (s_13 : zS) => if wr (x4 * x_14) < x2 then (some ((-3), s_13)) else (nm_ (gR s_13 64 i0 25) fun (r_15 : Option Nat) => Option.bind r_15 fun i_16 => g_ ((0 : Int) ≤ wr ((wr (6 * x1)) + x3) ∧ (wr ((wr (6 * x1)) + x3) : Int) < 144) (up_ (sI s_13 91 i_16 (Int.toNat (wr ((wr (6 * x1)) + x3))) x4) fun (s_19 : zS) => cl_ (fX11_worth s_19 x3) fun (x_21 : Int) (s_20 : zS) => up_ (sI s_20 64 i0 27 (wr ((gI s_19 64 i0 27) + (wr (x4 * x_21))))) fun (s_22 : zS) => nm_ (gR s_22 64 i0 22) fun (r_23 : Option Nat) => Option.bind r_23 fun i_24 => g_ ((0 : Int) ≤ x1 ∧ (x1 : Int) < 24) (up_ (sI s_22 88 i_24 (Int.toNat (x1)) 1) fun (s_27 : zS) => nm_ (gR s_27 64 i0 23) fun (r_28 : Option Nat) => Option.bind r_28 fun i_29 => g_ ((0 : Int) ≤ x1 ∧ (x1 : Int) < 24) (up_ (sI s_27 89 i_29 (Int.toNat (x1)) x2) fun (s_32 : zS) => nm_ (gR s_32 64 i0 24) fun (r_33 : Option Nat) => Option.bind r_33 fun i_34 => g_ ((0 : Int) ≤ x1 ∧ (x1 : Int) < 24) (up_ (sI s_32 90 i_34 (Int.toNat (x1)) (gI s_32 64 i0 13)) fun (s_37 : zS) => nm_ (gR s_37 64 i0 15) fun (r_38 : Option Nat) => Option.bind r_38 fun i_39 => g_ ((0 : Int) ≤ x1 ∧ (x1 : Int) < 24) (cl_ (fX11_waitAt s_37 i0 x1 (gI s_37 81 i_39 (Int.toNat (x1))) 1 (-9)) fun (_ : Unit) (s_42 : zS) => cl_ (fX11_worth s_42 x3) fun (x_44 : Int) (s_43 : zS) => some (wr ((wr (x4 * x_44)) - x2), s_43)))))))) else (some ((-3), s_7)))))))
set_option maxHeartbeats 4000000 in
set_option maxRecDepth 20000 in
theorem kX11_send (s0 : zS) (i0 : Nat) (x1 : Int) (x2 : Int) (x3 : Int) (x4 : Int) : zCt zw yX11_send cX11_send 5 (some .int) 2 43 0 0 eI [.inr (64, some i0), .inl x1, .inl x2, .inl x3, .inl x4] s0 (fX11_send s0 i0 x1 x2 x3 x4) := by
  refine zCt_on (own := RX11) (nm := "send") rfl rfl (by decide) (Nat.le_of_ble_eq_true rfl) fun K C => ?_
  show zJ zw 5 K _ 0 0 0 [(0, .inr (64, some i0)), (1, .inl x1), (2, .inl x2), (3, .inl x3), (4, .inl x4)] [] s0 (fX11_send s0 i0 x1 x2 x3 x4)
  unfold fX11_send
  refine J_aload_n C 0 dX11_send_0 rfl ?_
  refine J_iload_n C 1 dX11_send_1 rfl ?_
  refine J_callVI (S := []) (avs := [.inl x1]) C zx64 yw_92 rfl (kX11_isCup _ _ _) dX11_send_2 rfl (Nat.le_of_ble_eq_true rfl) (by decide) fun x_2 s_1 => ?_
  refine J_if_ne C 10 dX11_send_5 rfl (fun _ => ?_) (fun _ => ?_)
  · refine J_iload_n C 2 dX11_send_10 rfl ?_
    refine J_iconst C dX11_send_11 (zi9 rfl rfl) ?_
    refine J_sipush C dX11_send_12 (zi9 rfl rfl) (by decide) ?_
    refine J_callSI (S := []) (avs := [.inl x2, .inl 1, .inl 3000]) C yw_87 (kX11_in _ _ _ _) dX11_send_15 rfl (Nat.le_of_ble_eq_true rfl) (by decide) fun x_4 s_3 => ?_
    refine J_if_eq C 41 dX11_send_18 rfl (fun _ => ?_) (fun _ => ?_)
    · refine J_bipush C dX11_send_41 (zi9 rfl rfl) (by decide) ?_
      exact J_iret C dX11_send_43 (by decide) (by decide)
    · refine J_iload_n C 3 dX11_send_21 rfl ?_
      refine J_iconst C dX11_send_22 (zi9 rfl rfl) ?_
      refine J_iconst C dX11_send_23 (zi9 rfl rfl) ?_
      refine J_callSI (S := []) (avs := [.inl x3, .inl 0, .inl 5]) C yw_87 (kX11_in _ _ _ _) dX11_send_24 rfl (Nat.le_of_ble_eq_true rfl) (by decide) fun x_6 s_5 => ?_
      refine J_if_eq C 41 dX11_send_27 rfl (fun _ => ?_) (fun _ => ?_)
      · refine J_bipush C dX11_send_41 (zi9 rfl rfl) (by decide) ?_
        exact J_iret C dX11_send_43 (by decide) (by decide)
      · refine J_iload C 4 dX11_send_30 rfl ?_
        refine J_iconst C dX11_send_32 (zi9 rfl rfl) ?_
        refine J_bipush C dX11_send_33 (zi9 rfl rfl) (by decide) ?_
        refine J_callSI (S := []) (avs := [.inl x4, .inl 1, .inl 50]) C yw_87 (kX11_in _ _ _ _) dX11_send_35 rfl (Nat.le_of_ble_eq_true rfl) (by decide) fun x_8 s_7 => ?_
        refine J_if_ne C 44 dX11_send_38 rfl (fun _ => ?_) (fun _ => ?_)
        · refine J_aload_n C 0 dX11_send_44 rfl ?_
          refine gf_64_16 C dX11_send_45 q_860 ?_
          refine J_nmR fun r_9 => ?_
          refine J_iload_n C 1 dX11_send_48 rfl ?_
          refine J_bind fun i_10 e_11 => ?_
          subst e_11
          refine J_g fun h_12 => ?_
          refine J_iald (t := 82) (N := 24) C (Nat.le_of_ble_eq_true rfl) rfl rfl h_12 dX11_send_49 ?_
          refine J_if_ne C 64 dX11_send_50 rfl (fun _ => ?_) (fun _ => ?_)
          · refine J_bipush C dX11_send_64 (zi9 rfl rfl) (by decide) ?_
            exact J_iret C dX11_send_66 (by decide) (by decide)
          · refine J_iload C 4 dX11_send_53 rfl ?_
            refine J_iload_n C 3 dX11_send_55 rfl ?_
            refine J_callSI (S := [.inl x4]) (avs := [.inl x3]) C yw_90 (kX11_worth _ _) dX11_send_56 rfl (Nat.le_of_ble_eq_true rfl) (by decide) fun x_14 s_13 => ?_
            refine J_imul C dX11_send_59 ?_
            refine J_iload_n C 2 dX11_send_60 rfl ?_
            refine J_ic_ge C 67 dX11_send_61 rfl (fun _ => ?_) (fun _ => ?_)
            · refine J_aload_n C 0 dX11_send_67 rfl ?_
              refine gf_64_25 C dX11_send_68 q_869 ?_
              refine J_nmR fun r_15 => ?_
              refine J_bipush C dX11_send_71 (zi9 rfl rfl) (by decide) ?_
              refine J_iload_n C 1 dX11_send_73 rfl ?_
              refine J_imul C dX11_send_74 ?_
              refine J_iload_n C 3 dX11_send_75 rfl ?_
              refine J_iadd C dX11_send_76 ?_
              refine J_iload C 4 dX11_send_77 rfl ?_
              refine J_bind fun i_16 e_17 => ?_
              subst e_17
              refine J_g fun h_18 => ?_
              refine J_iast (t := 91) (N := 144) C (Nat.le_of_ble_eq_true rfl) rfl rfl h_18 dX11_send_79 fun s_19 => ?_
              refine J_aload_n C 0 dX11_send_80 rfl ?_
              refine J_dup C dX11_send_81 ?_
              refine gf_64_27 C dX11_send_82 q_871 ?_
              refine J_iload C 4 dX11_send_85 rfl ?_
              refine J_iload_n C 3 dX11_send_87 rfl ?_
              refine J_callSI (S := [.inl x4, .inl (gI s_19 64 i0 27), .inr (64, some i0)]) (avs := [.inl x3]) C yw_90 (kX11_worth _ _) dX11_send_88 rfl (Nat.le_of_ble_eq_true rfl) (by decide) fun x_21 s_20 => ?_
              refine J_imul C dX11_send_91 ?_
              refine J_iadd C dX11_send_92 ?_
              refine pf_64_27 C dX11_send_93 q_871 fun s_22 => ?_
              refine J_aload_n C 0 dX11_send_96 rfl ?_
              refine gf_64_22 C dX11_send_97 q_866 ?_
              refine J_nmR fun r_23 => ?_
              refine J_iload_n C 1 dX11_send_100 rfl ?_
              refine J_iconst C dX11_send_101 (zi9 rfl rfl) ?_
              refine J_bind fun i_24 e_25 => ?_
              subst e_25
              refine J_g fun h_26 => ?_
              refine J_iast (t := 88) (N := 24) C (Nat.le_of_ble_eq_true rfl) rfl rfl h_26 dX11_send_102 fun s_27 => ?_
              refine J_aload_n C 0 dX11_send_103 rfl ?_
              refine gf_64_23 C dX11_send_104 q_867 ?_
              refine J_nmR fun r_28 => ?_
              refine J_iload_n C 1 dX11_send_107 rfl ?_
              refine J_iload_n C 2 dX11_send_108 rfl ?_
              refine J_bind fun i_29 e_30 => ?_
              subst e_30
              refine J_g fun h_31 => ?_
              refine J_iast (t := 89) (N := 24) C (Nat.le_of_ble_eq_true rfl) rfl rfl h_31 dX11_send_109 fun s_32 => ?_
              refine J_aload_n C 0 dX11_send_110 rfl ?_
              refine gf_64_24 C dX11_send_111 q_868 ?_
              refine J_nmR fun r_33 => ?_
              refine J_iload_n C 1 dX11_send_114 rfl ?_
              refine J_aload_n C 0 dX11_send_115 rfl ?_
              refine gf_64_13 C dX11_send_116 q_857 ?_
              refine J_bind fun i_34 e_35 => ?_
              subst e_35
              refine J_g fun h_36 => ?_
              refine J_iast (t := 90) (N := 24) C (Nat.le_of_ble_eq_true rfl) rfl rfl h_36 dX11_send_119 fun s_37 => ?_
              refine J_aload_n C 0 dX11_send_120 rfl ?_
              refine J_iload_n C 1 dX11_send_121 rfl ?_
              refine J_aload_n C 0 dX11_send_122 rfl ?_
              refine gf_64_15 C dX11_send_123 q_859 ?_
              refine J_nmR fun r_38 => ?_
              refine J_iload_n C 1 dX11_send_126 rfl ?_
              refine J_bind fun i_39 e_40 => ?_
              subst e_40
              refine J_g fun h_41 => ?_
              refine J_iald (t := 81) (N := 24) C (Nat.le_of_ble_eq_true rfl) rfl rfl h_41 dX11_send_127 ?_
              refine J_iconst C dX11_send_128 (zi9 rfl rfl) ?_
              refine J_bipush C dX11_send_129 (zi9 rfl rfl) (by decide) ?_
              refine J_callVV (S := []) (avs := [.inl x1, .inl (gI s_37 81 i_39 (Int.toNat (x1))), .inl 1, .inl (-9)]) C zx64 yw_91 rfl (kX11_waitAt _ _ _ _ _ _) dX11_send_131 rfl (Nat.le_of_ble_eq_true rfl) (by decide) fun _ s_42 => ?_
              refine J_iload C 4 dX11_send_134 rfl ?_
              refine J_iload_n C 3 dX11_send_136 rfl ?_
              refine J_callSI (S := [.inl x4]) (avs := [.inl x3]) C yw_90 (kX11_worth _ _) dX11_send_137 rfl (Nat.le_of_ble_eq_true rfl) (by decide) fun x_44 s_43 => ?_
              refine J_imul C dX11_send_140 ?_
              refine J_iload_n C 2 dX11_send_141 rfl ?_
              refine J_isub C dX11_send_142 ?_
              exact J_iret C dX11_send_143 (by decide) (by decide)
            · refine J_bipush C dX11_send_64 (zi9 rfl rfl) (by decide) ?_
              exact J_iret C dX11_send_66 (by decide) (by decide)
        · refine J_bipush C dX11_send_41 (zi9 rfl rfl) (by decide) ?_
          exact J_iret C dX11_send_43 (by decide) (by decide)
  · refine J_iconst C dX11_send_8 (zi9 rfl rfl) ?_
    exact J_iret C dX11_send_9 (by decide) (by decide)
def fX11_resend (s0 : zS) (i0 : Nat) (x1 : Int) : Option (Int × zS) :=
  cl_ (fX11_isCup s0 i0 x1) fun (x_2 : Int) (s_1 : zS) => if x_2 = 0 then (some ((-1), s_1)) else (nm_ (gR s_1 64 i0 16) fun (r_3 : Option Nat) => Option.bind r_3 fun i_4 => g_ ((0 : Int) ≤ x1 ∧ (x1 : Int) < 24) (if gI s_1 82 i_4 (Int.toNat (x1)) = 5 then (nm_ (gR s_1 64 i0 17) fun (r_7 : Option Nat) => Option.bind r_7 fun i_8 => g_ ((0 : Int) ≤ x1 ∧ (x1 : Int) < 24) (cl_ (fX11_waitAt s_1 i0 x1 (gI s_1 83 i_8 (Int.toNat (x1))) 1 (-9)) fun (_ : Unit) (s_11 : zS) => nm_ (gR s_11 64 i0 17) fun (r_12 : Option Nat) => Option.bind r_12 fun i_13 => g_ ((0 : Int) ≤ x1 ∧ (x1 : Int) < 24) (some (gI s_11 83 i_13 (Int.toNat (x1)), s_11)))) else (some ((-3), s_1))))
set_option maxHeartbeats 4000000 in
set_option maxRecDepth 20000 in
theorem kX11_resend (s0 : zS) (i0 : Nat) (x1 : Int) : zCt zw yX11_resend cX11_resend 2 (some .int) 2 43 0 0 eI [.inr (64, some i0), .inl x1] s0 (fX11_resend s0 i0 x1) := by
  refine zCt_on (own := RX11) (nm := "resend") rfl rfl (by decide) (Nat.le_of_ble_eq_true rfl) fun K C => ?_
  show zJ zw 2 K _ 0 0 0 [(0, .inr (64, some i0)), (1, .inl x1)] [] s0 (fX11_resend s0 i0 x1)
  unfold fX11_resend
  refine J_aload_n C 0 dX11_resend_0 rfl ?_
  refine J_iload_n C 1 dX11_resend_1 rfl ?_
  refine J_callVI (S := []) (avs := [.inl x1]) C zx64 yw_92 rfl (kX11_isCup _ _ _) dX11_resend_2 rfl (Nat.le_of_ble_eq_true rfl) (by decide) fun x_2 s_1 => ?_
  refine J_if_ne C 10 dX11_resend_5 rfl (fun _ => ?_) (fun _ => ?_)
  · refine J_aload_n C 0 dX11_resend_10 rfl ?_
    refine gf_64_16 C dX11_resend_11 q_860 ?_
    refine J_nmR fun r_3 => ?_
    refine J_iload_n C 1 dX11_resend_14 rfl ?_
    refine J_bind fun i_4 e_5 => ?_
    subst e_5
    refine J_g fun h_6 => ?_
    refine J_iald (t := 82) (N := 24) C (Nat.le_of_ble_eq_true rfl) rfl rfl h_6 dX11_resend_15 ?_
    refine J_iconst C dX11_resend_16 (zi9 rfl rfl) ?_
    refine J_ic_eq C 23 dX11_resend_17 rfl (fun _ => ?_) (fun _ => ?_)
    · refine J_aload_n C 0 dX11_resend_23 rfl ?_
      refine J_iload_n C 1 dX11_resend_24 rfl ?_
      refine J_aload_n C 0 dX11_resend_25 rfl ?_
      refine gf_64_17 C dX11_resend_26 q_861 ?_
      refine J_nmR fun r_7 => ?_
      refine J_iload_n C 1 dX11_resend_29 rfl ?_
      refine J_bind fun i_8 e_9 => ?_
      subst e_9
      refine J_g fun h_10 => ?_
      refine J_iald (t := 83) (N := 24) C (Nat.le_of_ble_eq_true rfl) rfl rfl h_10 dX11_resend_30 ?_
      refine J_iconst C dX11_resend_31 (zi9 rfl rfl) ?_
      refine J_bipush C dX11_resend_32 (zi9 rfl rfl) (by decide) ?_
      refine J_callVV (S := []) (avs := [.inl x1, .inl (gI s_1 83 i_8 (Int.toNat (x1))), .inl 1, .inl (-9)]) C zx64 yw_91 rfl (kX11_waitAt _ _ _ _ _ _) dX11_resend_34 rfl (Nat.le_of_ble_eq_true rfl) (by decide) fun _ s_11 => ?_
      refine J_aload_n C 0 dX11_resend_37 rfl ?_
      refine gf_64_17 C dX11_resend_38 q_861 ?_
      refine J_nmR fun r_12 => ?_
      refine J_iload_n C 1 dX11_resend_41 rfl ?_
      refine J_bind fun i_13 e_14 => ?_
      subst e_14
      refine J_g fun h_15 => ?_
      refine J_iald (t := 83) (N := 24) C (Nat.le_of_ble_eq_true rfl) rfl rfl h_15 dX11_resend_42 ?_
      exact J_iret C dX11_resend_43 (by decide) (by decide)
    · refine J_bipush C dX11_resend_20 (zi9 rfl rfl) (by decide) ?_
      exact J_iret C dX11_resend_22 (by decide) (by decide)
  · refine J_iconst C dX11_resend_8 (zi9 rfl rfl) ?_
    exact J_iret C dX11_resend_9 (by decide) (by decide)
def fX11_between_L5 (k37 : zS → Int → Int → Option (Int × zS)) (o0 : Nat) (c2 : Int) (nf : Nat) : Nat → zS → Int → Int → Option (Int × zS)
  | 0, _, _, _ => none
  | n + 1, s0, x3, x4 =>
    cl_ (fX11_liesBelow nf s0 o0 c2 x4) fun (x_2 : Int) (s_1 : zS) => if x_2 = 0 then (nm_ (gR s_1 64 o0 3) fun (r_3 : Option Nat) => Option.bind r_3 fun i_4 => g_ ((0 : Int) ≤ x4 ∧ (x4 : Int) < 16) (nm_ (wr (x3 + (gI s_1 69 i_4 (Int.toNat (x4))))) fun (x_7 : Int) => nm_ (gR s_1 64 o0 1) fun (r_8 : Option Nat) => Option.bind r_8 fun i_9 => g_ ((0 : Int) ≤ x4 ∧ (x4 : Int) < 16) (nm_ (gI s_1 67 i_9 (Int.toNat (x4))) fun (x_12 : Int) => fX11_between_L5 k37 o0 c2 nf n s_1 x_7 x_12))) else (k37 s_1 x3 x4)
def fX11_between_L40 (o0 : Nat) (c4 : Int) (nf : Nat) : Nat → zS → Int → Int → Option (Int × zS)
  | 0, _, _, _ => none
  | n + 1, s0, x3, x5 =>
    if x5 = c4 then (some (x3, s0)) else (nm_ (gR s0 64 o0 3) fun (r_4 : Option Nat) => Option.bind r_4 fun i_5 => g_ ((0 : Int) ≤ x5 ∧ (x5 : Int) < 16) (nm_ (wr (x3 + (gI s0 69 i_5 (Int.toNat (x5))))) fun (x_8 : Int) => nm_ (gR s0 64 o0 1) fun (r_9 : Option Nat) => Option.bind r_9 fun i_10 => g_ ((0 : Int) ≤ x5 ∧ (x5 : Int) < 16) (nm_ (gI s0 67 i_10 (Int.toNat (x5))) fun (x_13 : Int) => fX11_between_L40 o0 c4 nf n s0 x_8 x_13)))
def fX11_between (nf : Nat) (s0 : zS) (i0 : Nat) (x1 : Int) (x2 : Int) : Option (Int × zS) :=
  fX11_between_L5 (fun (s_3 : zS) (y_1 : Int) (y_2 : Int) => fX11_between_L40 i0 y_2 nf nf s_3 y_1 x2) i0 x2 nf nf s0 0 x1
set_option maxHeartbeats 4000000 in
set_option maxRecDepth 20000 in
theorem kX11_between_L5 {K : zKx} (C : zC zw 6 K RX11 cX11_between "between" (some .int) 1 23 0 0)  (nf : Nat) (o0 : Nat) (c2 : Int) (k37 : zS → Int → Int → Option (Int × zS)) (hk37 : ∀ (s1 : zS) (z3 : Int) (z4 : Int), zJ zw 6 K (zQm zw eI 0 0 K) 0 0 37 [(0, .inr (64, some o0)), (2, .inl c2), (3, .inl z3), (4, .inl z4)] [] s1 (k37 s1 z3 z4)) : ∀ (n : Nat) (s0 : zS) (x3 : Int) (x4 : Int), zJ zw 6 K (zQm zw eI 0 0 K) 0 0 5 [(0, .inr (64, some o0)), (2, .inl c2), (3, .inl x3), (4, .inl x4)] [] s0 (fX11_between_L5 k37 o0 c2 nf n s0 x3 x4) := by
  intro n
  induction n with
  | zero => intro s0 x3 x4; exact J_none
  | succ n ih =>
    intro s0 x3 x4
    rw [fX11_between_L5]
    refine J_aload_n C 0 dX11_between_5 rfl ?_
    refine J_iload_n C 1 dX11_between_6 rfl ?_
    refine J_iload C 3 dX11_between_7 rfl ?_
    refine J_callVI (S := []) (avs := [.inl c2, .inl x4]) C zx64 yw_93 rfl (kX11_liesBelow _ _ _ _ _) dX11_between_9 rfl (Nat.le_of_ble_eq_true rfl) (by decide) fun x_2 s_1 => ?_
    refine J_if_ne C 37 dX11_between_12 rfl (fun _ => ?_) (fun _ => ?_)
    · exact hk37 _ _ _
    · refine J_iload_n C 2 dX11_between_15 rfl ?_
      refine J_aload_n C 0 dX11_between_16 rfl ?_
      refine gf_64_3 C dX11_between_17 q_847 ?_
      refine J_nmR fun r_3 => ?_
      refine J_iload C 3 dX11_between_20 rfl ?_
      refine J_bind fun i_4 e_5 => ?_
      subst e_5
      refine J_g fun h_6 => ?_
      refine J_iald (t := 69) (N := 16) C (Nat.le_of_ble_eq_true rfl) rfl rfl h_6 dX11_between_22 ?_
      refine J_iadd C dX11_between_23 ?_
      refine J_nm fun x_7 => ?_
      refine J_istore_n (L' := [(0, .inr (64, some o0)), (2, .inl c2), (3, .inl x_7), (4, .inl x4)]) C dX11_between_24 (Nat.le_of_ble_eq_true rfl) rfl ?_
      refine J_aload_n C 0 dX11_between_25 rfl ?_
      refine gf_64_1 C dX11_between_26 q_845 ?_
      refine J_nmR fun r_8 => ?_
      refine J_iload C 3 dX11_between_29 rfl ?_
      refine J_bind fun i_9 e_10 => ?_
      subst e_10
      refine J_g fun h_11 => ?_
      refine J_iald (t := 67) (N := 16) C (Nat.le_of_ble_eq_true rfl) rfl rfl h_11 dX11_between_31 ?_
      refine J_nm fun x_12 => ?_
      refine J_istore (L' := [(0, .inr (64, some o0)), (2, .inl c2), (3, .inl x_7), (4, .inl x_12)]) C dX11_between_32 (Nat.le_of_ble_eq_true rfl) rfl ?_
      refine J_goto C 5 dX11_between_34 rfl ?_
      exact ih _ _ _
set_option maxHeartbeats 4000000 in
set_option maxRecDepth 20000 in
theorem kX11_between_L40 {K : zKx} (C : zC zw 6 K RX11 cX11_between "between" (some .int) 1 23 0 0)  (nf : Nat) (o0 : Nat) (c4 : Int) : ∀ (n : Nat) (s0 : zS) (x3 : Int) (x5 : Int), zJ zw 6 K (zQm zw eI 0 0 K) 0 0 40 [(0, .inr (64, some o0)), (3, .inl x3), (4, .inl c4), (5, .inl x5)] [] s0 (fX11_between_L40 o0 c4 nf n s0 x3 x5) := by
  intro n
  induction n with
  | zero => intro s0 x3 x5; exact J_none
  | succ n ih =>
    intro s0 x3 x5
    rw [fX11_between_L40]
    refine J_iload C 3 dX11_between_40 rfl ?_
    refine J_iload C 2 dX11_between_42 rfl ?_
    refine J_ic_eq C 69 dX11_between_44 rfl (fun _ => ?_) (fun _ => ?_)
    · refine J_iload_n C 1 dX11_between_69 rfl ?_
      exact J_iret C dX11_between_70 (by decide) (by decide)
    · refine J_iload_n C 1 dX11_between_47 rfl ?_
      refine J_aload_n C 0 dX11_between_48 rfl ?_
      refine gf_64_3 C dX11_between_49 q_847 ?_
      refine J_nmR fun r_4 => ?_
      refine J_iload C 3 dX11_between_52 rfl ?_
      refine J_bind fun i_5 e_6 => ?_
      subst e_6
      refine J_g fun h_7 => ?_
      refine J_iald (t := 69) (N := 16) C (Nat.le_of_ble_eq_true rfl) rfl rfl h_7 dX11_between_54 ?_
      refine J_iadd C dX11_between_55 ?_
      refine J_nm fun x_8 => ?_
      refine J_istore_n (L' := [(0, .inr (64, some o0)), (3, .inl x_8), (4, .inl c4), (5, .inl x5)]) C dX11_between_56 (Nat.le_of_ble_eq_true rfl) rfl ?_
      refine J_aload_n C 0 dX11_between_57 rfl ?_
      refine gf_64_1 C dX11_between_58 q_845 ?_
      refine J_nmR fun r_9 => ?_
      refine J_iload C 3 dX11_between_61 rfl ?_
      refine J_bind fun i_10 e_11 => ?_
      subst e_11
      refine J_g fun h_12 => ?_
      refine J_iald (t := 67) (N := 16) C (Nat.le_of_ble_eq_true rfl) rfl rfl h_12 dX11_between_63 ?_
      refine J_nm fun x_13 => ?_
      refine J_istore (L' := [(0, .inr (64, some o0)), (3, .inl x_8), (4, .inl c4), (5, .inl x_13)]) C dX11_between_64 (Nat.le_of_ble_eq_true rfl) rfl ?_
      refine J_goto C 40 dX11_between_66 rfl ?_
      exact ih _ _ _
set_option maxHeartbeats 4000000 in
set_option maxRecDepth 20000 in
theorem kX11_between (nf : Nat) (s0 : zS) (i0 : Nat) (x1 : Int) (x2 : Int) : zCt zw yX11_between cX11_between 6 (some .int) 1 23 0 0 eI [.inr (64, some i0), .inl x1, .inl x2] s0 (fX11_between nf s0 i0 x1 x2) := by
  refine zCt_on (own := RX11) (nm := "between") rfl rfl (by decide) (Nat.le_of_ble_eq_true rfl) fun K C => ?_
  show zJ zw 6 K _ 0 0 0 [(0, .inr (64, some i0)), (1, .inl x1), (2, .inl x2)] [] s0 (fX11_between nf s0 i0 x1 x2)
  unfold fX11_between
  refine J_iconst C dX11_between_0 (zi9 rfl rfl) ?_
  refine J_istore_n (L' := [(0, .inr (64, some i0)), (1, .inl x1), (2, .inl x2), (3, .inl 0)]) C dX11_between_1 (Nat.le_of_ble_eq_true rfl) rfl ?_
  refine J_iload_n C 1 dX11_between_2 rfl ?_
  refine J_istore (L' := [(0, .inr (64, some i0)), (1, .inl x1), (2, .inl x2), (3, .inl 0), (4, .inl x1)]) C dX11_between_3 (Nat.le_of_ble_eq_true rfl) rfl ?_
  refine J_loc (L' := [(0, .inr (64, some i0)), (2, .inl x2), (3, .inl 0), (4, .inl x1)]) [0, 2, 3, 4] rfl ?_
  refine kX11_between_L5 C _ _ _ _ ?_ _ _ _ _
  intro s_3 y_1 y_2
  refine J_iload_n C 1 dX11_between_37 rfl ?_
  refine J_istore (L' := [(0, .inr (64, some i0)), (2, .inl x2), (3, .inl y_1), (4, .inl y_2), (5, .inl x2)]) C dX11_between_38 (Nat.le_of_ble_eq_true rfl) rfl ?_
  refine J_loc (L' := [(0, .inr (64, some i0)), (3, .inl y_1), (4, .inl y_2), (5, .inl x2)]) [0, 2, 3, 4] rfl ?_
  exact kX11_between_L40 C _ _ _ _ _ _ _
def fX11_porter (nf : Nat) (s0 : zS) (i0 : Nat) (x1 : Int) : Option (Int × zS) :=
  cl_ (fX11_isCup s0 i0 x1) fun (x_2 : Int) (s_1 : zS) => if x_2 = 0 then (some ((-1), s_1)) else (nm_ (gR s_1 64 i0 16) fun (r_3 : Option Nat) => Option.bind r_3 fun i_4 => g_ ((0 : Int) ≤ x1 ∧ (x1 : Int) < 24) (nm_ (fun (s_7 : zS) (u_8 : Int) => if u_8 = 0 then (some ((-3), s_7)) else (nm_ (gR s_7 64 i0 17) fun (r_9 : Option Nat) => Option.bind r_9 fun i_10 => g_ ((0 : Int) ≤ x1 ∧ (x1 : Int) < 24) (nm_ (gR s_7 64 i0 15) fun (r_13 : Option Nat) => Option.bind r_13 fun i_14 => g_ ((0 : Int) ≤ x1 ∧ (x1 : Int) < 24) (cl_ (fX11_between nf s_7 i0 (gI s_7 83 i_10 (Int.toNat (x1))) (gI s_7 81 i_14 (Int.toNat (x1)))) fun (x_18 : Int) (s_17 : zS) => nm_ (wr (3 * x_18)) fun (x_19 : Int) => nm_ (gR s_17 64 i0 16) fun (r_20 : Option Nat) => Option.bind r_20 fun i_21 => g_ ((0 : Int) ≤ x1 ∧ (x1 : Int) < 24) (up_ (sI s_17 82 i_21 (Int.toNat (x1)) 6) fun (s_24 : zS) => nm_ (gR s_24 64 i0 18) fun (r_25 : Option Nat) => if x_19 < 1 then (Option.bind r_25 fun i_34 => g_ ((0 : Int) ≤ x1 ∧ (x1 : Int) < 24) (up_ (sI s_24 84 i_34 (Int.toNat (x1)) (wr ((gI s_24 64 i0 13) + 1))) fun (s_37 : zS) => nm_ (gR s_37 64 i0 18) fun (r_38 : Option Nat) => Option.bind r_38 fun i_39 => g_ ((0 : Int) ≤ x1 ∧ (x1 : Int) < 24) (some (gI s_37 84 i_39 (Int.toNat (x1)), s_37)))) else (Option.bind r_25 fun i_26 => g_ ((0 : Int) ≤ x1 ∧ (x1 : Int) < 24) (up_ (sI s_24 84 i_26 (Int.toNat (x1)) (wr ((gI s_24 64 i0 13) + x_19))) fun (s_29 : zS) => nm_ (gR s_29 64 i0 18) fun (r_30 : Option Nat) => Option.bind r_30 fun i_31 => g_ ((0 : Int) ≤ x1 ∧ (x1 : Int) < 24) (some (gI s_29 84 i_31 (Int.toNat (x1)), s_29))))))))) fun (j79 : zS → Int → Option (Int × zS)) => nm_ (fun (s_42 : zS) => j79 s_42 1) fun (j74 : zS → Option (Int × zS)) => if gI s_1 82 i_4 (Int.toNat (x1)) = 5 then (j74 s_1) else (nm_ (gR s_1 64 i0 16) fun (r_43 : Option Nat) => Option.bind r_43 fun i_44 => g_ ((0 : Int) ≤ x1 ∧ (x1 : Int) < 24) (nm_ (fun (s_47 : zS) => nm_ (gR s_47 64 i0 16) fun (r_48 : Option Nat) => Option.bind r_48 fun i_49 => g_ ((0 : Int) ≤ x1 ∧ (x1 : Int) < 24) (nm_ (fun (s_52 : zS) => j79 s_52 0) fun (j78 : zS → Option (Int × zS)) => if gI s_47 82 i_49 (Int.toNat (x1)) = 1 then (nm_ (gR s_47 64 i0 19) fun (r_53 : Option Nat) => Option.bind r_53 fun i_54 => g_ ((0 : Int) ≤ x1 ∧ (x1 : Int) < 24) (if gI s_47 85 i_54 (Int.toNat (x1)) = 0 then (nm_ (gR s_47 64 i0 20) fun (r_57 : Option Nat) => Option.bind r_57 fun i_58 => g_ ((0 : Int) ≤ x1 ∧ (x1 : Int) < 24) (if gI s_47 86 i_58 (Int.toNat (x1)) = (-9) then (j74 s_47) else (j78 s_47))) else (j78 s_47))) else (j78 s_47))) fun (j44 : zS → Option (Int × zS)) => if gI s_1 82 i_44 (Int.toNat (x1)) = 2 then (nm_ (gR s_1 64 i0 6) fun (r_61 : Option Nat) => nm_ (gR s_1 64 i0 17) fun (r_62 : Option Nat) => Option.bind r_62 fun i_63 => g_ ((0 : Int) ≤ x1 ∧ (x1 : Int) < 24) (Option.bind r_61 fun i_66 => g_ ((0 : Int) ≤ gI s_1 83 i_63 (Int.toNat (x1)) ∧ (gI s_1 83 i_63 (Int.toNat (x1)) : Int) < 16) (if gI s_1 72 i_66 (Int.toNat (gI s_1 83 i_63 (Int.toNat (x1)))) = 0 then (j44 s_1) else (j74 s_1)))) else (j44 s_1)))))
set_option maxHeartbeats 4000000 in
set_option maxRecDepth 20000 in
theorem kX11_porter (nf : Nat) (s0 : zS) (i0 : Nat) (x1 : Int) : zCt zw yX11_porter cX11_porter 4 (some .int) 2 48 0 0 eI [.inr (64, some i0), .inl x1] s0 (fX11_porter nf s0 i0 x1) := by
  refine zCt_on (own := RX11) (nm := "porter") rfl rfl (by decide) (Nat.le_of_ble_eq_true rfl) fun K C => ?_
  show zJ zw 4 K _ 0 0 0 [(0, .inr (64, some i0)), (1, .inl x1)] [] s0 (fX11_porter nf s0 i0 x1)
  unfold fX11_porter
  refine J_aload_n C 0 dX11_porter_0 rfl ?_
  refine J_iload_n C 1 dX11_porter_1 rfl ?_
  refine J_callVI (S := []) (avs := [.inl x1]) C zx64 yw_92 rfl (kX11_isCup _ _ _) dX11_porter_2 rfl (Nat.le_of_ble_eq_true rfl) (by decide) fun x_2 s_1 => ?_
  refine J_if_ne C 10 dX11_porter_5 rfl (fun _ => ?_) (fun _ => ?_)
  · refine J_aload_n C 0 dX11_porter_10 rfl ?_
    refine gf_64_16 C dX11_porter_11 q_860 ?_
    refine J_nmR fun r_3 => ?_
    refine J_iload_n C 1 dX11_porter_14 rfl ?_
    refine J_bind fun i_4 e_5 => ?_
    subst e_5
    refine J_g fun h_6 => ?_
    refine J_iald (t := 82) (N := 24) C (Nat.le_of_ble_eq_true rfl) rfl rfl h_6 dX11_porter_15 ?_
    refine J_iconst C dX11_porter_16 (zi9 rfl rfl) ?_
    refine J_join (fun j79 => ∀ (s_7 : zS) (u_8 : Int), zJ zw 4 K (zQm zw eI 0 0 K) 0 0 79 [(0, .inr (64, some i0)), (1, .inl x1)] [.inl u_8] s_7 (j79 s_7 u_8)) ?_ fun j79 hj79 => ?_
    · intro s_7 u_8
      refine J_istore_n (L' := [(0, .inr (64, some i0)), (1, .inl x1), (2, .inl u_8)]) C dX11_porter_79 (Nat.le_of_ble_eq_true rfl) rfl ?_
      refine J_iload_n C 2 dX11_porter_80 rfl ?_
      refine J_if_ne C 87 dX11_porter_81 rfl (fun _ => ?_) (fun _ => ?_)
      · refine J_iconst C dX11_porter_87 (zi9 rfl rfl) ?_
        refine J_aload_n C 0 dX11_porter_88 rfl ?_
        refine J_aload_n C 0 dX11_porter_89 rfl ?_
        refine gf_64_17 C dX11_porter_90 q_861 ?_
        refine J_nmR fun r_9 => ?_
        refine J_iload_n C 1 dX11_porter_93 rfl ?_
        refine J_bind fun i_10 e_11 => ?_
        subst e_11
        refine J_g fun h_12 => ?_
        refine J_iald (t := 83) (N := 24) C (Nat.le_of_ble_eq_true rfl) rfl rfl h_12 dX11_porter_94 ?_
        refine J_aload_n C 0 dX11_porter_95 rfl ?_
        refine gf_64_15 C dX11_porter_96 q_859 ?_
        refine J_nmR fun r_13 => ?_
        refine J_iload_n C 1 dX11_porter_99 rfl ?_
        refine J_bind fun i_14 e_15 => ?_
        subst e_15
        refine J_g fun h_16 => ?_
        refine J_iald (t := 81) (N := 24) C (Nat.le_of_ble_eq_true rfl) rfl rfl h_16 dX11_porter_100 ?_
        refine J_callVI (S := [.inl 3]) (avs := [.inl (gI s_7 83 i_10 (Int.toNat (x1))), .inl (gI s_7 81 i_14 (Int.toNat (x1)))]) C zx64 yw_94 rfl (kX11_between _ _ _ _ _) dX11_porter_101 rfl (Nat.le_of_ble_eq_true rfl) (by decide) fun x_18 s_17 => ?_
        refine J_imul C dX11_porter_104 ?_
        refine J_nm fun x_19 => ?_
        refine J_istore_n (L' := [(0, .inr (64, some i0)), (1, .inl x1), (2, .inl u_8), (3, .inl x_19)]) C dX11_porter_105 (Nat.le_of_ble_eq_true rfl) rfl ?_
        refine J_aload_n C 0 dX11_porter_106 rfl ?_
        refine gf_64_16 C dX11_porter_107 q_860 ?_
        refine J_nmR fun r_20 => ?_
        refine J_iload_n C 1 dX11_porter_110 rfl ?_
        refine J_bipush C dX11_porter_111 (zi9 rfl rfl) (by decide) ?_
        refine J_bind fun i_21 e_22 => ?_
        subst e_22
        refine J_g fun h_23 => ?_
        refine J_iast (t := 82) (N := 24) C (Nat.le_of_ble_eq_true rfl) rfl rfl h_23 dX11_porter_113 fun s_24 => ?_
        refine J_aload_n C 0 dX11_porter_114 rfl ?_
        refine gf_64_18 C dX11_porter_115 q_862 ?_
        refine J_nmR fun r_25 => ?_
        refine J_iload_n C 1 dX11_porter_118 rfl ?_
        refine J_aload_n C 0 dX11_porter_119 rfl ?_
        refine gf_64_13 C dX11_porter_120 q_857 ?_
        refine J_iload_n C 3 dX11_porter_123 rfl ?_
        refine J_iconst C dX11_porter_124 (zi9 rfl rfl) ?_
        refine J_ic_ge C 132 dX11_porter_125 rfl (fun _ => ?_) (fun _ => ?_)
        · refine J_iload_n C 3 dX11_porter_132 rfl ?_
          refine J_iadd C dX11_porter_133 ?_
          refine J_bind fun i_26 e_27 => ?_
          subst e_27
          refine J_g fun h_28 => ?_
          refine J_iast (t := 84) (N := 24) C (Nat.le_of_ble_eq_true rfl) rfl rfl h_28 dX11_porter_134 fun s_29 => ?_
          refine J_aload_n C 0 dX11_porter_135 rfl ?_
          refine gf_64_18 C dX11_porter_136 q_862 ?_
          refine J_nmR fun r_30 => ?_
          refine J_iload_n C 1 dX11_porter_139 rfl ?_
          refine J_bind fun i_31 e_32 => ?_
          subst e_32
          refine J_g fun h_33 => ?_
          refine J_iald (t := 84) (N := 24) C (Nat.le_of_ble_eq_true rfl) rfl rfl h_33 dX11_porter_140 ?_
          exact J_iret C dX11_porter_141 (by decide) (by decide)
        · refine J_iconst C dX11_porter_128 (zi9 rfl rfl) ?_
          refine J_goto C 133 dX11_porter_129 rfl ?_
          refine J_iadd C dX11_porter_133 ?_
          refine J_bind fun i_34 e_35 => ?_
          subst e_35
          refine J_g fun h_36 => ?_
          refine J_iast (t := 84) (N := 24) C (Nat.le_of_ble_eq_true rfl) rfl rfl h_36 dX11_porter_134 fun s_37 => ?_
          refine J_aload_n C 0 dX11_porter_135 rfl ?_
          refine gf_64_18 C dX11_porter_136 q_862 ?_
          refine J_nmR fun r_38 => ?_
          refine J_iload_n C 1 dX11_porter_139 rfl ?_
          refine J_bind fun i_39 e_40 => ?_
          subst e_40
          refine J_g fun h_41 => ?_
          refine J_iald (t := 84) (N := 24) C (Nat.le_of_ble_eq_true rfl) rfl rfl h_41 dX11_porter_140 ?_
          exact J_iret C dX11_porter_141 (by decide) (by decide)
      · refine J_bipush C dX11_porter_84 (zi9 rfl rfl) (by decide) ?_
        exact J_iret C dX11_porter_86 (by decide) (by decide)
    · refine J_join (fun j74 => ∀ (s_42 : zS), zJ zw 4 K (zQm zw eI 0 0 K) 0 0 74 [(0, .inr (64, some i0)), (1, .inl x1)] [] s_42 (j74 s_42)) ?_ fun j74 hj74 => ?_
      · intro s_42
        refine J_iconst C dX11_porter_74 (zi9 rfl rfl) ?_
        refine J_goto C 79 dX11_porter_75 rfl ?_
        exact hj79 _ _
      · refine J_ic_eq C 74 dX11_porter_17 rfl (fun _ => ?_) (fun _ => ?_)
        · exact hj74 _
        · refine J_aload_n C 0 dX11_porter_20 rfl ?_
          refine gf_64_16 C dX11_porter_21 q_860 ?_
          refine J_nmR fun r_43 => ?_
          refine J_iload_n C 1 dX11_porter_24 rfl ?_
          refine J_bind fun i_44 e_45 => ?_
          subst e_45
          refine J_g fun h_46 => ?_
          refine J_iald (t := 82) (N := 24) C (Nat.le_of_ble_eq_true rfl) rfl rfl h_46 dX11_porter_25 ?_
          refine J_iconst C dX11_porter_26 (zi9 rfl rfl) ?_
          refine J_join (fun j44 => ∀ (s_47 : zS), zJ zw 4 K (zQm zw eI 0 0 K) 0 0 44 [(0, .inr (64, some i0)), (1, .inl x1)] [] s_47 (j44 s_47)) ?_ fun j44 hj44 => ?_
          · intro s_47
            refine J_aload_n C 0 dX11_porter_44 rfl ?_
            refine gf_64_16 C dX11_porter_45 q_860 ?_
            refine J_nmR fun r_48 => ?_
            refine J_iload_n C 1 dX11_porter_48 rfl ?_
            refine J_bind fun i_49 e_50 => ?_
            subst e_50
            refine J_g fun h_51 => ?_
            refine J_iald (t := 82) (N := 24) C (Nat.le_of_ble_eq_true rfl) rfl rfl h_51 dX11_porter_49 ?_
            refine J_iconst C dX11_porter_50 (zi9 rfl rfl) ?_
            refine J_join (fun j78 => ∀ (s_52 : zS), zJ zw 4 K (zQm zw eI 0 0 K) 0 0 78 [(0, .inr (64, some i0)), (1, .inl x1)] [] s_52 (j78 s_52)) ?_ fun j78 hj78 => ?_
            · intro s_52
              refine J_iconst C dX11_porter_78 (zi9 rfl rfl) ?_
              exact hj79 _ _
            · refine J_ic_ne C 78 dX11_porter_51 rfl (fun _ => ?_) (fun _ => ?_)
              · exact hj78 _
              · refine J_aload_n C 0 dX11_porter_54 rfl ?_
                refine gf_64_19 C dX11_porter_55 q_863 ?_
                refine J_nmR fun r_53 => ?_
                refine J_iload_n C 1 dX11_porter_58 rfl ?_
                refine J_bind fun i_54 e_55 => ?_
                subst e_55
                refine J_g fun h_56 => ?_
                refine J_bald (t := 85) (N := 24) C (Nat.le_of_ble_eq_true rfl) rfl rfl h_56 dX11_porter_59 ?_
                refine J_if_ne C 78 dX11_porter_60 rfl (fun _ => ?_) (fun _ => ?_)
                · exact hj78 _
                · refine J_aload_n C 0 dX11_porter_63 rfl ?_
                  refine gf_64_20 C dX11_porter_64 q_864 ?_
                  refine J_nmR fun r_57 => ?_
                  refine J_iload_n C 1 dX11_porter_67 rfl ?_
                  refine J_bind fun i_58 e_59 => ?_
                  subst e_59
                  refine J_g fun h_60 => ?_
                  refine J_iald (t := 86) (N := 24) C (Nat.le_of_ble_eq_true rfl) rfl rfl h_60 dX11_porter_68 ?_
                  refine J_bipush C dX11_porter_69 (zi9 rfl rfl) (by decide) ?_
                  refine J_ic_ne C 78 dX11_porter_71 rfl (fun _ => ?_) (fun _ => ?_)
                  · exact hj78 _
                  · exact hj74 _
          · refine J_ic_ne C 44 dX11_porter_27 rfl (fun _ => ?_) (fun _ => ?_)
            · exact hj44 _
            · refine J_aload_n C 0 dX11_porter_30 rfl ?_
              refine gf_64_6 C dX11_porter_31 q_850 ?_
              refine J_nmR fun r_61 => ?_
              refine J_aload_n C 0 dX11_porter_34 rfl ?_
              refine gf_64_17 C dX11_porter_35 q_861 ?_
              refine J_nmR fun r_62 => ?_
              refine J_iload_n C 1 dX11_porter_38 rfl ?_
              refine J_bind fun i_63 e_64 => ?_
              subst e_64
              refine J_g fun h_65 => ?_
              refine J_iald (t := 83) (N := 24) C (Nat.le_of_ble_eq_true rfl) rfl rfl h_65 dX11_porter_39 ?_
              refine J_bind fun i_66 e_67 => ?_
              subst e_67
              refine J_g fun h_68 => ?_
              refine J_bald (t := 72) (N := 16) C (Nat.le_of_ble_eq_true rfl) rfl rfl h_68 dX11_porter_40 ?_
              refine J_if_ne C 74 dX11_porter_41 rfl (fun _ => ?_) (fun _ => ?_)
              · exact hj74 _
              · exact hj44 _
  · refine J_iconst C dX11_porter_8 (zi9 rfl rfl) ?_
    exact J_iret C dX11_porter_9 (by decide) (by decide)
def fX11_leftOf_L2 (o0 : Nat) (c1 : Int) : Nat → zS → Int → Option (Int × zS)
  | 0, _, _ => none
  | n + 1, s0, x2 =>
    if x2 < gI s0 64 o0 34 then (nm_ (gR s0 64 o0 36) fun (r_1 : Option Nat) => Option.bind r_1 fun i_2 => g_ ((0 : Int) ≤ x2 ∧ (x2 : Int) < 4) (if gI s0 102 i_2 (Int.toNat (x2)) = c1 then (nm_ (gR s0 64 o0 37) fun (r_6 : Option Nat) => Option.bind r_6 fun i_7 => g_ ((0 : Int) ≤ x2 ∧ (x2 : Int) < 4) (some (gI s0 103 i_7 (Int.toNat (x2)), s0))) else (nm_ (wr (x2 + 1)) fun (x_5 : Int) => fX11_leftOf_L2 o0 c1 n s0 x_5))) else (some ((-9), s0))
def fX11_leftOf (nf : Nat) (s0 : zS) (i0 : Nat) (x1 : Int) : Option (Int × zS) :=
  fX11_leftOf_L2 i0 x1 nf s0 0
set_option maxHeartbeats 4000000 in
set_option maxRecDepth 20000 in
theorem kX11_leftOf_L2 {K : zKx} (C : zC zw 3 K RX11 cX11_leftOf "leftOf" (some .int) 0 0 0 0)  (o0 : Nat) (c1 : Int) : ∀ (n : Nat) (s0 : zS) (x2 : Int), zJ zw 3 K (zQm zw eI 0 0 K) 0 0 2 [(0, .inr (64, some o0)), (1, .inl c1), (2, .inl x2)] [] s0 (fX11_leftOf_L2 o0 c1 n s0 x2) := by
  intro n
  induction n with
  | zero => intro s0 x2; exact J_none
  | succ n ih =>
    intro s0 x2
    rw [fX11_leftOf_L2]
    refine J_iload_n C 2 dX11_leftOf_2 rfl ?_
    refine J_aload_n C 0 dX11_leftOf_3 rfl ?_
    refine gf_64_34 C dX11_leftOf_4 q_878 ?_
    refine J_ic_ge C 33 dX11_leftOf_7 rfl (fun _ => ?_) (fun _ => ?_)
    · refine J_bipush C dX11_leftOf_33 (zi9 rfl rfl) (by decide) ?_
      exact J_iret C dX11_leftOf_35 (by decide) (by decide)
    · refine J_aload_n C 0 dX11_leftOf_10 rfl ?_
      refine gf_64_36 C dX11_leftOf_11 q_880 ?_
      refine J_nmR fun r_1 => ?_
      refine J_iload_n C 2 dX11_leftOf_14 rfl ?_
      refine J_bind fun i_2 e_3 => ?_
      subst e_3
      refine J_g fun h_4 => ?_
      refine J_iald (t := 102) (N := 4) C (Nat.le_of_ble_eq_true rfl) rfl rfl h_4 dX11_leftOf_15 ?_
      refine J_iload_n C 1 dX11_leftOf_16 rfl ?_
      refine J_ic_ne C 27 dX11_leftOf_17 rfl (fun _ => ?_) (fun _ => ?_)
      · refine J_iinc C 2 dX11_leftOf_27 (zi9 rfl rfl) (Nat.le_of_ble_eq_true rfl) rfl fun x_5 => ?_
        refine J_goto C 2 dX11_leftOf_30 rfl ?_
        exact ih _ _
      · refine J_aload_n C 0 dX11_leftOf_20 rfl ?_
        refine gf_64_37 C dX11_leftOf_21 q_881 ?_
        refine J_nmR fun r_6 => ?_
        refine J_iload_n C 2 dX11_leftOf_24 rfl ?_
        refine J_bind fun i_7 e_8 => ?_
        subst e_8
        refine J_g fun h_9 => ?_
        refine J_iald (t := 103) (N := 4) C (Nat.le_of_ble_eq_true rfl) rfl rfl h_9 dX11_leftOf_25 ?_
        exact J_iret C dX11_leftOf_26 (by decide) (by decide)
set_option maxHeartbeats 4000000 in
set_option maxRecDepth 20000 in
theorem kX11_leftOf (nf : Nat) (s0 : zS) (i0 : Nat) (x1 : Int) : zCt zw yX11_leftOf cX11_leftOf 3 (some .int) 0 0 0 0 eI [.inr (64, some i0), .inl x1] s0 (fX11_leftOf nf s0 i0 x1) := by
  refine zCt_on (own := RX11) (nm := "leftOf") rfl rfl (by decide) (Nat.le_of_ble_eq_true rfl) fun K C => ?_
  show zJ zw 3 K _ 0 0 0 [(0, .inr (64, some i0)), (1, .inl x1)] [] s0 (fX11_leftOf nf s0 i0 x1)
  unfold fX11_leftOf
  refine J_iconst C dX11_leftOf_0 (zi9 rfl rfl) ?_
  refine J_istore_n (L' := [(0, .inr (64, some i0)), (1, .inl x1), (2, .inl 0)]) C dX11_leftOf_1 (Nat.le_of_ble_eq_true rfl) rfl ?_
  exact kX11_leftOf_L2 C _ _ _ _ _
def fX11_clerkOf_L5 (o0 : Nat) (c1 : Int) : Nat → zS → Int → Int → Option (Int × zS)
  | 0, _, _, _ => none
  | n + 1, s0, x2, x3 =>
    if x3 < gI s0 64 o0 34 then (nm_ (gR s0 64 o0 36) fun (r_1 : Option Nat) => Option.bind r_1 fun i_2 => g_ ((0 : Int) ≤ x3 ∧ (x3 : Int) < 4) (nm_ (fun (s_5 : zS) (u_6 : Int) => nm_ (wr (x3 + 1)) fun (x_7 : Int) => fX11_clerkOf_L5 o0 c1 n s_5 u_6 x_7) fun (j28 : zS → Int → Option (Int × zS)) => if gI s0 102 i_2 (Int.toNat (x3)) = c1 then (j28 s0 x3) else (j28 s0 x2))) else (some (x2, s0))
def fX11_clerkOf (nf : Nat) (s0 : zS) (i0 : Nat) (x1 : Int) : Option (Int × zS) :=
  fX11_clerkOf_L5 i0 x1 nf s0 (-9) 0
set_option maxHeartbeats 4000000 in
set_option maxRecDepth 20000 in
theorem kX11_clerkOf_L5 {K : zKx} (C : zC zw 4 K RX11 cX11_clerkOf "clerkOf" (some .int) 0 0 0 0)  (o0 : Nat) (c1 : Int) : ∀ (n : Nat) (s0 : zS) (x2 : Int) (x3 : Int), zJ zw 4 K (zQm zw eI 0 0 K) 0 0 5 [(0, .inr (64, some o0)), (1, .inl c1), (2, .inl x2), (3, .inl x3)] [] s0 (fX11_clerkOf_L5 o0 c1 n s0 x2 x3) := by
  intro n
  induction n with
  | zero => intro s0 x2 x3; exact J_none
  | succ n ih =>
    intro s0 x2 x3
    rw [fX11_clerkOf_L5]
    refine J_iload_n C 3 dX11_clerkOf_5 rfl ?_
    refine J_aload_n C 0 dX11_clerkOf_6 rfl ?_
    refine gf_64_34 C dX11_clerkOf_7 q_878 ?_
    refine J_ic_ge C 35 dX11_clerkOf_10 rfl (fun _ => ?_) (fun _ => ?_)
    · refine J_iload_n C 2 dX11_clerkOf_35 rfl ?_
      exact J_iret C dX11_clerkOf_36 (by decide) (by decide)
    · refine J_aload_n C 0 dX11_clerkOf_13 rfl ?_
      refine gf_64_36 C dX11_clerkOf_14 q_880 ?_
      refine J_nmR fun r_1 => ?_
      refine J_iload_n C 3 dX11_clerkOf_17 rfl ?_
      refine J_bind fun i_2 e_3 => ?_
      subst e_3
      refine J_g fun h_4 => ?_
      refine J_iald (t := 102) (N := 4) C (Nat.le_of_ble_eq_true rfl) rfl rfl h_4 dX11_clerkOf_18 ?_
      refine J_iload_n C 1 dX11_clerkOf_19 rfl ?_
      refine J_join (fun j28 => ∀ (s_5 : zS) (u_6 : Int), zJ zw 4 K (zQm zw eI 0 0 K) 0 0 28 [(0, .inr (64, some o0)), (1, .inl c1), (3, .inl x3)] [.inl u_6] s_5 (j28 s_5 u_6)) ?_ fun j28 hj28 => ?_
      · intro s_5 u_6
        refine J_istore_n (L' := [(0, .inr (64, some o0)), (1, .inl c1), (2, .inl u_6), (3, .inl x3)]) C dX11_clerkOf_28 (Nat.le_of_ble_eq_true rfl) rfl ?_
        refine J_iinc C 3 dX11_clerkOf_29 (zi9 rfl rfl) (Nat.le_of_ble_eq_true rfl) rfl fun x_7 => ?_
        refine J_goto C 5 dX11_clerkOf_32 rfl ?_
        exact ih _ _ _
      · refine J_ic_ne C 27 dX11_clerkOf_20 rfl (fun _ => ?_) (fun _ => ?_)
        · refine J_iload_n C 2 dX11_clerkOf_27 rfl ?_
          refine J_loc (L' := [(0, .inr (64, some o0)), (1, .inl c1), (3, .inl x3)]) [0, 1, 3] rfl ?_
          exact hj28 _ _
        · refine J_iload_n C 3 dX11_clerkOf_23 rfl ?_
          refine J_goto C 28 dX11_clerkOf_24 rfl ?_
          refine J_loc (L' := [(0, .inr (64, some o0)), (1, .inl c1), (3, .inl x3)]) [0, 1, 3] rfl ?_
          exact hj28 _ _
set_option maxHeartbeats 4000000 in
set_option maxRecDepth 20000 in
theorem kX11_clerkOf (nf : Nat) (s0 : zS) (i0 : Nat) (x1 : Int) : zCt zw yX11_clerkOf cX11_clerkOf 4 (some .int) 0 0 0 0 eI [.inr (64, some i0), .inl x1] s0 (fX11_clerkOf nf s0 i0 x1) := by
  refine zCt_on (own := RX11) (nm := "clerkOf") rfl rfl (by decide) (Nat.le_of_ble_eq_true rfl) fun K C => ?_
  show zJ zw 4 K _ 0 0 0 [(0, .inr (64, some i0)), (1, .inl x1)] [] s0 (fX11_clerkOf nf s0 i0 x1)
  unfold fX11_clerkOf
  refine J_bipush C dX11_clerkOf_0 (zi9 rfl rfl) (by decide) ?_
  refine J_istore_n (L' := [(0, .inr (64, some i0)), (1, .inl x1), (2, .inl (-9))]) C dX11_clerkOf_2 (Nat.le_of_ble_eq_true rfl) rfl ?_
  refine J_iconst C dX11_clerkOf_3 (zi9 rfl rfl) ?_
  refine J_istore_n (L' := [(0, .inr (64, some i0)), (1, .inl x1), (2, .inl (-9)), (3, .inl 0)]) C dX11_clerkOf_4 (Nat.le_of_ble_eq_true rfl) rfl ?_
  exact kX11_clerkOf_L5 C _ _ _ _ _ _
def fX11_cupAt (nf : Nat) (s0 : zS) (i0 : Nat) (x1 : Int) (x2 : Int) : Option (Int × zS) :=
  cl_ (fX11_isCup s0 i0 x1) fun (x_2 : Int) (s_1 : zS) => if x_2 = 0 then (some ((-1), s_1)) else (nm_ (gR s_1 64 i0 16) fun (r_3 : Option Nat) => Option.bind r_3 fun i_4 => g_ ((0 : Int) ≤ x1 ∧ (x1 : Int) < 24) (nm_ (gI s_1 82 i_4 (Int.toNat (x1))) fun (x_7 : Int) => nm_ (fun (s_8 : zS) (u_9 : Int) => if x2 = 0 then (some (x_7, s_8)) else (if x2 = 1 then (if x_7 = 0 then (nm_ (gR s_8 64 i0 15) fun (r_22 : Option Nat) => Option.bind r_22 fun i_23 => g_ ((0 : Int) ≤ x1 ∧ (x1 : Int) < 24) (some (gI s_8 81 i_23 (Int.toNat (x1)), s_8))) else (if u_9 = 0 then (if x_7 = 5 then (nm_ (gR s_8 64 i0 17) fun (r_18 : Option Nat) => Option.bind r_18 fun i_19 => g_ ((0 : Int) ≤ x1 ∧ (x1 : Int) < 24) (some (gI s_8 83 i_19 (Int.toNat (x1)), s_8))) else (if x_7 = 4 then (cl_ (fX11_clerkOf nf s_8 i0 x1) fun (x_17 : Int) (s_16 : zS) => some (x_17, s_16)) else (some ((-9), s_8)))) else (nm_ (gR s_8 64 i0 17) fun (r_12 : Option Nat) => Option.bind r_12 fun i_13 => g_ ((0 : Int) ≤ x1 ∧ (x1 : Int) < 24) (some (gI s_8 83 i_13 (Int.toNat (x1)), s_8))))) else (if x2 = 2 then (if x_7 = 2 then (nm_ (gR s_8 64 i0 43) fun (r_41 : Option Nat) => Option.bind r_41 fun i_42 => g_ ((0 : Int) ≤ x1 ∧ (x1 : Int) < 24) (some (gI s_8 109 i_42 (Int.toNat (x1)), s_8))) else (if x_7 = 1 then (nm_ (gR s_8 64 i0 18) fun (r_27 : Option Nat) => Option.bind r_27 fun i_28 => g_ ((0 : Int) ≤ x1 ∧ (x1 : Int) < 24) (some (gI s_8 84 i_28 (Int.toNat (x1)), s_8))) else (if x_7 = 3 then (nm_ (gR s_8 64 i0 18) fun (r_31 : Option Nat) => Option.bind r_31 fun i_32 => g_ ((0 : Int) ≤ x1 ∧ (x1 : Int) < 24) (some (gI s_8 84 i_32 (Int.toNat (x1)), s_8))) else (if x_7 = 6 then (nm_ (gR s_8 64 i0 18) fun (r_37 : Option Nat) => Option.bind r_37 fun i_38 => g_ ((0 : Int) ≤ x1 ∧ (x1 : Int) < 24) (some (gI s_8 84 i_38 (Int.toNat (x1)), s_8))) else (if x_7 = 4 then (cl_ (fX11_leftOf nf s_8 i0 x1) fun (x_36 : Int) (s_35 : zS) => some (x_36, s_35)) else (some ((-9), s_8))))))) else (if x2 = 3 then (if u_9 = 0 then (some ((-9), s_8)) else (nm_ (gR s_8 64 i0 19) fun (r_46 : Option Nat) => Option.bind r_46 fun i_47 => g_ ((0 : Int) ≤ x1 ∧ (x1 : Int) < 24) (if gI s_8 85 i_47 (Int.toNat (x1)) = 0 then (some (0, s_8)) else (some (1, s_8))))) else (if x2 = 4 then (if x_7 = 1 then (nm_ (gR s_8 64 i0 19) fun (r_51 : Option Nat) => Option.bind r_51 fun i_52 => g_ ((0 : Int) ≤ x1 ∧ (x1 : Int) < 24) (if gI s_8 85 i_52 (Int.toNat (x1)) = 0 then (nm_ (gR s_8 64 i0 20) fun (r_55 : Option Nat) => Option.bind r_55 fun i_56 => g_ ((0 : Int) ≤ x1 ∧ (x1 : Int) < 24) (some (gI s_8 86 i_56 (Int.toNat (x1)), s_8))) else (some ((-9), s_8)))) else (some ((-9), s_8))) else (if x2 = 5 then (nm_ (gR s_8 64 i0 15) fun (r_60 : Option Nat) => Option.bind r_60 fun i_61 => g_ ((0 : Int) ≤ x1 ∧ (x1 : Int) < 24) (some (gI s_8 81 i_61 (Int.toNat (x1)), s_8))) else (if x2 = 6 then (nm_ (gR s_8 64 i0 22) fun (r_65 : Option Nat) => Option.bind r_65 fun i_66 => g_ ((0 : Int) ≤ x1 ∧ (x1 : Int) < 24) (some (gI s_8 88 i_66 (Int.toNat (x1)), s_8))) else (if x2 = 7 then (nm_ (gR s_8 64 i0 22) fun (r_70 : Option Nat) => Option.bind r_70 fun i_71 => g_ ((0 : Int) ≤ x1 ∧ (x1 : Int) < 24) (if gI s_8 88 i_71 (Int.toNat (x1)) = 0 then (some ((-9), s_8)) else (nm_ (gR s_8 64 i0 23) fun (r_74 : Option Nat) => Option.bind r_74 fun i_75 => g_ ((0 : Int) ≤ x1 ∧ (x1 : Int) < 24) (some (gI s_8 89 i_75 (Int.toNat (x1)), s_8))))) else (if x2 = 8 then (nm_ (gR s_8 64 i0 22) fun (r_79 : Option Nat) => Option.bind r_79 fun i_80 => g_ ((0 : Int) ≤ x1 ∧ (x1 : Int) < 24) (if gI s_8 88 i_80 (Int.toNat (x1)) = 0 then (some ((-9), s_8)) else (nm_ (gR s_8 64 i0 24) fun (r_83 : Option Nat) => Option.bind r_83 fun i_84 => g_ ((0 : Int) ≤ x1 ∧ (x1 : Int) < 24) (some (gI s_8 90 i_84 (Int.toNat (x1)), s_8))))) else (some ((-2), s_8))))))))))) fun (j32 : zS → Int → Option (Int × zS)) => nm_ (fun (s_87 : zS) => j32 s_87 1) fun (j27 : zS → Option (Int × zS)) => if x_7 = 1 then (j27 s_1) else (if x_7 = 2 then (j27 s_1) else (j32 s_1 0))))
set_option maxHeartbeats 4000000 in
set_option maxRecDepth 20000 in
theorem kX11_cupAt (nf : Nat) (s0 : zS) (i0 : Nat) (x1 : Int) (x2 : Int) : zCt zw yX11_cupAt cX11_cupAt 5 (some .int) 2 43 0 0 eI [.inr (64, some i0), .inl x1, .inl x2] s0 (fX11_cupAt nf s0 i0 x1 x2) := by
  refine zCt_on (own := RX11) (nm := "cupAt") rfl rfl (by decide) (Nat.le_of_ble_eq_true rfl) fun K C => ?_
  show zJ zw 5 K _ 0 0 0 [(0, .inr (64, some i0)), (1, .inl x1), (2, .inl x2)] [] s0 (fX11_cupAt nf s0 i0 x1 x2)
  unfold fX11_cupAt
  refine J_aload_n C 0 dX11_cupAt_0 rfl ?_
  refine J_iload_n C 1 dX11_cupAt_1 rfl ?_
  refine J_callVI (S := []) (avs := [.inl x1]) C zx64 yw_92 rfl (kX11_isCup _ _ _) dX11_cupAt_2 rfl (Nat.le_of_ble_eq_true rfl) (by decide) fun x_2 s_1 => ?_
  refine J_if_ne C 10 dX11_cupAt_5 rfl (fun _ => ?_) (fun _ => ?_)
  · refine J_aload_n C 0 dX11_cupAt_10 rfl ?_
    refine gf_64_16 C dX11_cupAt_11 q_860 ?_
    refine J_nmR fun r_3 => ?_
    refine J_iload_n C 1 dX11_cupAt_14 rfl ?_
    refine J_bind fun i_4 e_5 => ?_
    subst e_5
    refine J_g fun h_6 => ?_
    refine J_iald (t := 82) (N := 24) C (Nat.le_of_ble_eq_true rfl) rfl rfl h_6 dX11_cupAt_15 ?_
    refine J_nm fun x_7 => ?_
    refine J_istore_n (L' := [(0, .inr (64, some i0)), (1, .inl x1), (2, .inl x2), (3, .inl x_7)]) C dX11_cupAt_16 (Nat.le_of_ble_eq_true rfl) rfl ?_
    refine J_iload_n C 3 dX11_cupAt_17 rfl ?_
    refine J_iconst C dX11_cupAt_18 (zi9 rfl rfl) ?_
    refine J_join (fun j32 => ∀ (s_8 : zS) (u_9 : Int), zJ zw 5 K (zQm zw eI 0 0 K) 0 0 32 [(0, .inr (64, some i0)), (1, .inl x1), (2, .inl x2), (3, .inl x_7)] [.inl u_9] s_8 (j32 s_8 u_9)) ?_ fun j32 hj32 => ?_
    · intro s_8 u_9
      refine J_istore (L' := [(0, .inr (64, some i0)), (1, .inl x1), (2, .inl x2), (3, .inl x_7), (4, .inl u_9)]) C dX11_cupAt_32 (Nat.le_of_ble_eq_true rfl) rfl ?_
      refine J_iload_n C 2 dX11_cupAt_34 rfl ?_
      refine J_if (fun h_10 => ?_) (fun h_10 => ?_)
      · refine J_swIn C 84 dX11_cupAt_35 (by omega) (by omega) (by rw [h_10]; rfl) rfl ?_
        refine J_iload_n C 3 dX11_cupAt_84 rfl ?_
        exact J_iret C dX11_cupAt_85 (by decide) (by decide)
      · refine J_if (fun h_11 => ?_) (fun h_11 => ?_)
        · refine J_swIn C 86 dX11_cupAt_35 (by omega) (by omega) (by rw [h_11]; rfl) rfl ?_
          refine J_iload_n C 3 dX11_cupAt_86 rfl ?_
          refine J_if_ne C 99 dX11_cupAt_87 rfl (fun _ => ?_) (fun _ => ?_)
          · refine J_iload C 4 dX11_cupAt_99 rfl ?_
            refine J_if_ne C 109 dX11_cupAt_101 rfl (fun _ => ?_) (fun _ => ?_)
            · refine J_aload_n C 0 dX11_cupAt_109 rfl ?_
              refine gf_64_17 C dX11_cupAt_110 q_861 ?_
              refine J_nmR fun r_12 => ?_
              refine J_iload_n C 1 dX11_cupAt_113 rfl ?_
              refine J_bind fun i_13 e_14 => ?_
              subst e_14
              refine J_g fun h_15 => ?_
              refine J_iald (t := 83) (N := 24) C (Nat.le_of_ble_eq_true rfl) rfl rfl h_15 dX11_cupAt_114 ?_
              refine J_goto C 133 dX11_cupAt_115 rfl ?_
              exact J_iret C dX11_cupAt_133 (by decide) (by decide)
            · refine J_iload_n C 3 dX11_cupAt_104 rfl ?_
              refine J_iconst C dX11_cupAt_105 (zi9 rfl rfl) ?_
              refine J_ic_ne C 118 dX11_cupAt_106 rfl (fun _ => ?_) (fun _ => ?_)
              · refine J_iload_n C 3 dX11_cupAt_118 rfl ?_
                refine J_iconst C dX11_cupAt_119 (zi9 rfl rfl) ?_
                refine J_ic_ne C 131 dX11_cupAt_120 rfl (fun _ => ?_) (fun _ => ?_)
                · refine J_bipush C dX11_cupAt_131 (zi9 rfl rfl) (by decide) ?_
                  exact J_iret C dX11_cupAt_133 (by decide) (by decide)
                · refine J_aload_n C 0 dX11_cupAt_123 rfl ?_
                  refine J_iload_n C 1 dX11_cupAt_124 rfl ?_
                  refine J_callVI (S := []) (avs := [.inl x1]) C zx64 yw_95 rfl (kX11_clerkOf _ _ _ _) dX11_cupAt_125 rfl (Nat.le_of_ble_eq_true rfl) (by decide) fun x_17 s_16 => ?_
                  refine J_goto C 133 dX11_cupAt_128 rfl ?_
                  exact J_iret C dX11_cupAt_133 (by decide) (by decide)
              · refine J_aload_n C 0 dX11_cupAt_109 rfl ?_
                refine gf_64_17 C dX11_cupAt_110 q_861 ?_
                refine J_nmR fun r_18 => ?_
                refine J_iload_n C 1 dX11_cupAt_113 rfl ?_
                refine J_bind fun i_19 e_20 => ?_
                subst e_20
                refine J_g fun h_21 => ?_
                refine J_iald (t := 83) (N := 24) C (Nat.le_of_ble_eq_true rfl) rfl rfl h_21 dX11_cupAt_114 ?_
                refine J_goto C 133 dX11_cupAt_115 rfl ?_
                exact J_iret C dX11_cupAt_133 (by decide) (by decide)
          · refine J_aload_n C 0 dX11_cupAt_90 rfl ?_
            refine gf_64_15 C dX11_cupAt_91 q_859 ?_
            refine J_nmR fun r_22 => ?_
            refine J_iload_n C 1 dX11_cupAt_94 rfl ?_
            refine J_bind fun i_23 e_24 => ?_
            subst e_24
            refine J_g fun h_25 => ?_
            refine J_iald (t := 81) (N := 24) C (Nat.le_of_ble_eq_true rfl) rfl rfl h_25 dX11_cupAt_95 ?_
            refine J_goto C 133 dX11_cupAt_96 rfl ?_
            exact J_iret C dX11_cupAt_133 (by decide) (by decide)
        · refine J_if (fun h_26 => ?_) (fun h_26 => ?_)
          · refine J_swIn C 134 dX11_cupAt_35 (by omega) (by omega) (by rw [h_26]; rfl) rfl ?_
            refine J_iload_n C 3 dX11_cupAt_134 rfl ?_
            refine J_iconst C dX11_cupAt_135 (zi9 rfl rfl) ?_
            refine J_ic_ne C 148 dX11_cupAt_136 rfl (fun _ => ?_) (fun _ => ?_)
            · refine J_iload_n C 3 dX11_cupAt_148 rfl ?_
              refine J_iconst C dX11_cupAt_149 (zi9 rfl rfl) ?_
              refine J_ic_eq C 164 dX11_cupAt_150 rfl (fun _ => ?_) (fun _ => ?_)
              · refine J_aload_n C 0 dX11_cupAt_164 rfl ?_
                refine gf_64_18 C dX11_cupAt_165 q_862 ?_
                refine J_nmR fun r_27 => ?_
                refine J_iload_n C 1 dX11_cupAt_168 rfl ?_
                refine J_bind fun i_28 e_29 => ?_
                subst e_29
                refine J_g fun h_30 => ?_
                refine J_iald (t := 84) (N := 24) C (Nat.le_of_ble_eq_true rfl) rfl rfl h_30 dX11_cupAt_169 ?_
                refine J_goto C 188 dX11_cupAt_170 rfl ?_
                exact J_iret C dX11_cupAt_188 (by decide) (by decide)
              · refine J_iload_n C 3 dX11_cupAt_153 rfl ?_
                refine J_iconst C dX11_cupAt_154 (zi9 rfl rfl) ?_
                refine J_ic_eq C 164 dX11_cupAt_155 rfl (fun _ => ?_) (fun _ => ?_)
                · refine J_aload_n C 0 dX11_cupAt_164 rfl ?_
                  refine gf_64_18 C dX11_cupAt_165 q_862 ?_
                  refine J_nmR fun r_31 => ?_
                  refine J_iload_n C 1 dX11_cupAt_168 rfl ?_
                  refine J_bind fun i_32 e_33 => ?_
                  subst e_33
                  refine J_g fun h_34 => ?_
                  refine J_iald (t := 84) (N := 24) C (Nat.le_of_ble_eq_true rfl) rfl rfl h_34 dX11_cupAt_169 ?_
                  refine J_goto C 188 dX11_cupAt_170 rfl ?_
                  exact J_iret C dX11_cupAt_188 (by decide) (by decide)
                · refine J_iload_n C 3 dX11_cupAt_158 rfl ?_
                  refine J_bipush C dX11_cupAt_159 (zi9 rfl rfl) (by decide) ?_
                  refine J_ic_ne C 173 dX11_cupAt_161 rfl (fun _ => ?_) (fun _ => ?_)
                  · refine J_iload_n C 3 dX11_cupAt_173 rfl ?_
                    refine J_iconst C dX11_cupAt_174 (zi9 rfl rfl) ?_
                    refine J_ic_ne C 186 dX11_cupAt_175 rfl (fun _ => ?_) (fun _ => ?_)
                    · refine J_bipush C dX11_cupAt_186 (zi9 rfl rfl) (by decide) ?_
                      exact J_iret C dX11_cupAt_188 (by decide) (by decide)
                    · refine J_aload_n C 0 dX11_cupAt_178 rfl ?_
                      refine J_iload_n C 1 dX11_cupAt_179 rfl ?_
                      refine J_callVI (S := []) (avs := [.inl x1]) C zx64 yw_96 rfl (kX11_leftOf _ _ _ _) dX11_cupAt_180 rfl (Nat.le_of_ble_eq_true rfl) (by decide) fun x_36 s_35 => ?_
                      refine J_goto C 188 dX11_cupAt_183 rfl ?_
                      exact J_iret C dX11_cupAt_188 (by decide) (by decide)
                  · refine J_aload_n C 0 dX11_cupAt_164 rfl ?_
                    refine gf_64_18 C dX11_cupAt_165 q_862 ?_
                    refine J_nmR fun r_37 => ?_
                    refine J_iload_n C 1 dX11_cupAt_168 rfl ?_
                    refine J_bind fun i_38 e_39 => ?_
                    subst e_39
                    refine J_g fun h_40 => ?_
                    refine J_iald (t := 84) (N := 24) C (Nat.le_of_ble_eq_true rfl) rfl rfl h_40 dX11_cupAt_169 ?_
                    refine J_goto C 188 dX11_cupAt_170 rfl ?_
                    exact J_iret C dX11_cupAt_188 (by decide) (by decide)
            · refine J_aload_n C 0 dX11_cupAt_139 rfl ?_
              refine gf_64_43 C dX11_cupAt_140 q_887 ?_
              refine J_nmR fun r_41 => ?_
              refine J_iload_n C 1 dX11_cupAt_143 rfl ?_
              refine J_bind fun i_42 e_43 => ?_
              subst e_43
              refine J_g fun h_44 => ?_
              refine J_iald (t := 109) (N := 24) C (Nat.le_of_ble_eq_true rfl) rfl rfl h_44 dX11_cupAt_144 ?_
              refine J_goto C 188 dX11_cupAt_145 rfl ?_
              exact J_iret C dX11_cupAt_188 (by decide) (by decide)
          · refine J_if (fun h_45 => ?_) (fun h_45 => ?_)
            · refine J_swIn C 189 dX11_cupAt_35 (by omega) (by omega) (by rw [h_45]; rfl) rfl ?_
              refine J_iload C 4 dX11_cupAt_189 rfl ?_
              refine J_if_eq C 211 dX11_cupAt_191 rfl (fun _ => ?_) (fun _ => ?_)
              · refine J_bipush C dX11_cupAt_211 (zi9 rfl rfl) (by decide) ?_
                exact J_iret C dX11_cupAt_213 (by decide) (by decide)
              · refine J_aload_n C 0 dX11_cupAt_194 rfl ?_
                refine gf_64_19 C dX11_cupAt_195 q_863 ?_
                refine J_nmR fun r_46 => ?_
                refine J_iload_n C 1 dX11_cupAt_198 rfl ?_
                refine J_bind fun i_47 e_48 => ?_
                subst e_48
                refine J_g fun h_49 => ?_
                refine J_bald (t := 85) (N := 24) C (Nat.le_of_ble_eq_true rfl) rfl rfl h_49 dX11_cupAt_199 ?_
                refine J_if_eq C 207 dX11_cupAt_200 rfl (fun _ => ?_) (fun _ => ?_)
                · refine J_iconst C dX11_cupAt_207 (zi9 rfl rfl) ?_
                  refine J_goto C 213 dX11_cupAt_208 rfl ?_
                  exact J_iret C dX11_cupAt_213 (by decide) (by decide)
                · refine J_iconst C dX11_cupAt_203 (zi9 rfl rfl) ?_
                  refine J_goto C 213 dX11_cupAt_204 rfl ?_
                  exact J_iret C dX11_cupAt_213 (by decide) (by decide)
            · refine J_if (fun h_50 => ?_) (fun h_50 => ?_)
              · refine J_swIn C 214 dX11_cupAt_35 (by omega) (by omega) (by rw [h_50]; rfl) rfl ?_
                refine J_iload_n C 3 dX11_cupAt_214 rfl ?_
                refine J_iconst C dX11_cupAt_215 (zi9 rfl rfl) ?_
                refine J_ic_ne C 237 dX11_cupAt_216 rfl (fun _ => ?_) (fun _ => ?_)
                · refine J_bipush C dX11_cupAt_237 (zi9 rfl rfl) (by decide) ?_
                  exact J_iret C dX11_cupAt_239 (by decide) (by decide)
                · refine J_aload_n C 0 dX11_cupAt_219 rfl ?_
                  refine gf_64_19 C dX11_cupAt_220 q_863 ?_
                  refine J_nmR fun r_51 => ?_
                  refine J_iload_n C 1 dX11_cupAt_223 rfl ?_
                  refine J_bind fun i_52 e_53 => ?_
                  subst e_53
                  refine J_g fun h_54 => ?_
                  refine J_bald (t := 85) (N := 24) C (Nat.le_of_ble_eq_true rfl) rfl rfl h_54 dX11_cupAt_224 ?_
                  refine J_if_ne C 237 dX11_cupAt_225 rfl (fun _ => ?_) (fun _ => ?_)
                  · refine J_bipush C dX11_cupAt_237 (zi9 rfl rfl) (by decide) ?_
                    exact J_iret C dX11_cupAt_239 (by decide) (by decide)
                  · refine J_aload_n C 0 dX11_cupAt_228 rfl ?_
                    refine gf_64_20 C dX11_cupAt_229 q_864 ?_
                    refine J_nmR fun r_55 => ?_
                    refine J_iload_n C 1 dX11_cupAt_232 rfl ?_
                    refine J_bind fun i_56 e_57 => ?_
                    subst e_57
                    refine J_g fun h_58 => ?_
                    refine J_iald (t := 86) (N := 24) C (Nat.le_of_ble_eq_true rfl) rfl rfl h_58 dX11_cupAt_233 ?_
                    refine J_goto C 239 dX11_cupAt_234 rfl ?_
                    exact J_iret C dX11_cupAt_239 (by decide) (by decide)
              · refine J_if (fun h_59 => ?_) (fun h_59 => ?_)
                · refine J_swIn C 240 dX11_cupAt_35 (by omega) (by omega) (by rw [h_59]; rfl) rfl ?_
                  refine J_aload_n C 0 dX11_cupAt_240 rfl ?_
                  refine gf_64_15 C dX11_cupAt_241 q_859 ?_
                  refine J_nmR fun r_60 => ?_
                  refine J_iload_n C 1 dX11_cupAt_244 rfl ?_
                  refine J_bind fun i_61 e_62 => ?_
                  subst e_62
                  refine J_g fun h_63 => ?_
                  refine J_iald (t := 81) (N := 24) C (Nat.le_of_ble_eq_true rfl) rfl rfl h_63 dX11_cupAt_245 ?_
                  exact J_iret C dX11_cupAt_246 (by decide) (by decide)
                · refine J_if (fun h_64 => ?_) (fun h_64 => ?_)
                  · refine J_swIn C 247 dX11_cupAt_35 (by omega) (by omega) (by rw [h_64]; rfl) rfl ?_
                    refine J_aload_n C 0 dX11_cupAt_247 rfl ?_
                    refine gf_64_22 C dX11_cupAt_248 q_866 ?_
                    refine J_nmR fun r_65 => ?_
                    refine J_iload_n C 1 dX11_cupAt_251 rfl ?_
                    refine J_bind fun i_66 e_67 => ?_
                    subst e_67
                    refine J_g fun h_68 => ?_
                    refine J_iald (t := 88) (N := 24) C (Nat.le_of_ble_eq_true rfl) rfl rfl h_68 dX11_cupAt_252 ?_
                    exact J_iret C dX11_cupAt_253 (by decide) (by decide)
                  · refine J_if (fun h_69 => ?_) (fun h_69 => ?_)
                    · refine J_swIn C 254 dX11_cupAt_35 (by omega) (by omega) (by rw [h_69]; rfl) rfl ?_
                      refine J_aload_n C 0 dX11_cupAt_254 rfl ?_
                      refine gf_64_22 C dX11_cupAt_255 q_866 ?_
                      refine J_nmR fun r_70 => ?_
                      refine J_iload_n C 1 dX11_cupAt_258 rfl ?_
                      refine J_bind fun i_71 e_72 => ?_
                      subst e_72
                      refine J_g fun h_73 => ?_
                      refine J_iald (t := 88) (N := 24) C (Nat.le_of_ble_eq_true rfl) rfl rfl h_73 dX11_cupAt_259 ?_
                      refine J_if_ne C 268 dX11_cupAt_260 rfl (fun _ => ?_) (fun _ => ?_)
                      · refine J_aload_n C 0 dX11_cupAt_268 rfl ?_
                        refine gf_64_23 C dX11_cupAt_269 q_867 ?_
                        refine J_nmR fun r_74 => ?_
                        refine J_iload_n C 1 dX11_cupAt_272 rfl ?_
                        refine J_bind fun i_75 e_76 => ?_
                        subst e_76
                        refine J_g fun h_77 => ?_
                        refine J_iald (t := 89) (N := 24) C (Nat.le_of_ble_eq_true rfl) rfl rfl h_77 dX11_cupAt_273 ?_
                        exact J_iret C dX11_cupAt_274 (by decide) (by decide)
                      · refine J_bipush C dX11_cupAt_263 (zi9 rfl rfl) (by decide) ?_
                        refine J_goto C 274 dX11_cupAt_265 rfl ?_
                        exact J_iret C dX11_cupAt_274 (by decide) (by decide)
                    · refine J_if (fun h_78 => ?_) (fun h_78 => ?_)
                      · refine J_swIn C 275 dX11_cupAt_35 (by omega) (by omega) (by rw [h_78]; rfl) rfl ?_
                        refine J_aload_n C 0 dX11_cupAt_275 rfl ?_
                        refine gf_64_22 C dX11_cupAt_276 q_866 ?_
                        refine J_nmR fun r_79 => ?_
                        refine J_iload_n C 1 dX11_cupAt_279 rfl ?_
                        refine J_bind fun i_80 e_81 => ?_
                        subst e_81
                        refine J_g fun h_82 => ?_
                        refine J_iald (t := 88) (N := 24) C (Nat.le_of_ble_eq_true rfl) rfl rfl h_82 dX11_cupAt_280 ?_
                        refine J_if_ne C 289 dX11_cupAt_281 rfl (fun _ => ?_) (fun _ => ?_)
                        · refine J_aload_n C 0 dX11_cupAt_289 rfl ?_
                          refine gf_64_24 C dX11_cupAt_290 q_868 ?_
                          refine J_nmR fun r_83 => ?_
                          refine J_iload_n C 1 dX11_cupAt_293 rfl ?_
                          refine J_bind fun i_84 e_85 => ?_
                          subst e_85
                          refine J_g fun h_86 => ?_
                          refine J_iald (t := 90) (N := 24) C (Nat.le_of_ble_eq_true rfl) rfl rfl h_86 dX11_cupAt_294 ?_
                          exact J_iret C dX11_cupAt_295 (by decide) (by decide)
                        · refine J_bipush C dX11_cupAt_284 (zi9 rfl rfl) (by decide) ?_
                          refine J_goto C 295 dX11_cupAt_286 rfl ?_
                          exact J_iret C dX11_cupAt_295 (by decide) (by decide)
                      · refine J_swOut C 296 dX11_cupAt_35 (by omega) rfl ?_
                        refine J_bipush C dX11_cupAt_296 (zi9 rfl rfl) (by decide) ?_
                        exact J_iret C dX11_cupAt_298 (by decide) (by decide)
    · refine J_join (fun j27 => ∀ (s_87 : zS), zJ zw 5 K (zQm zw eI 0 0 K) 0 0 27 [(0, .inr (64, some i0)), (1, .inl x1), (2, .inl x2), (3, .inl x_7)] [] s_87 (j27 s_87)) ?_ fun j27 hj27 => ?_
      · intro s_87
        refine J_iconst C dX11_cupAt_27 (zi9 rfl rfl) ?_
        refine J_goto C 32 dX11_cupAt_28 rfl ?_
        exact hj32 _ _
      · refine J_ic_eq C 27 dX11_cupAt_19 rfl (fun _ => ?_) (fun _ => ?_)
        · exact hj27 _
        · refine J_iload_n C 3 dX11_cupAt_22 rfl ?_
          refine J_iconst C dX11_cupAt_23 (zi9 rfl rfl) ?_
          refine J_ic_ne C 31 dX11_cupAt_24 rfl (fun _ => ?_) (fun _ => ?_)
          · refine J_iconst C dX11_cupAt_31 (zi9 rfl rfl) ?_
            exact hj32 _ _
          · exact hj27 _
  · refine J_iconst C dX11_cupAt_8 (zi9 rfl rfl) ?_
    exact J_iret C dX11_cupAt_9 (by decide) (by decide)
