def fX11_total_L12 (o0 : Nat) (c1 : Int) (nf : Nat) : Nat → zS → Int → Int → Int → Option (Int × zS)
  | 0, _, _, _, _ => none
  | n + 1, s0, x2, x3, x4 =>
    if x4 < gI s0 64 o0 14 then (nm_ (gR s0 64 o0 16) fun (r_11 : Option Nat) => Option.bind r_11 fun i_12 => g_ ((0 : Int) ≤ x4 ∧ (x4 : Int) < 24) (nm_ (fun (s_15 : zS) (u_16 : Int) => nm_ (wr (x2 + u_16)) fun (x_17 : Int) => cl_ (fX11_worthOf nf s_15 o0 x4) fun (x_19 : Int) (s_18 : zS) => nm_ (wr (x3 + x_19)) fun (x_20 : Int) => nm_ (wr (x4 + 1)) fun (x_21 : Int) => fX11_total_L12 o0 c1 nf n s_18 x_17 x_20 x_21) fun (j37 : zS → Int → Option (Int × zS)) => if gI s0 82 i_12 (Int.toNat (x4)) = 0 then (j37 s0 0) else (j37 s0 1))) else (if c1 = 0 then (some (gI s0 64 o0 0, s0)) else (if c1 = 1 then (some (gI s0 64 o0 14, s0)) else (if c1 = 2 then (some (gI s0 64 o0 13, s0)) else (if c1 = 3 then (some (x2, s0)) else (if c1 = 4 then (some (gI s0 64 o0 34, s0)) else (if c1 = 5 then (some (gI s0 64 o0 27, s0)) else (if c1 = 6 then (some (gI s0 64 o0 28, s0)) else (if c1 = 7 then (some (x3, s0)) else (some ((-2), s0))))))))))
def fX11_total (nf : Nat) (s0 : zS) (i0 : Nat) (x1 : Int) : Option (Int × zS) :=
  cl_ (fX11_till nf s0 i0 6) fun (x_2 : Int) (s_1 : zS) => fX11_total_L12 i0 x1 nf nf s_1 0 x_2 0
set_option maxHeartbeats 4000000 in
set_option maxRecDepth 20000 in
theorem kX11_total_L12 {K : zKx} (C : zC zw 5 K RX11 cX11_total "total" (some .int) 2 45 0 0)  (nf : Nat) (o0 : Nat) (c1 : Int) : ∀ (n : Nat) (s0 : zS) (x2 : Int) (x3 : Int) (x4 : Int), zJ zw 5 K (zQm zw eI 0 0 K) 0 0 12 [(0, .inr (64, some o0)), (1, .inl c1), (2, .inl x2), (3, .inl x3), (4, .inl x4)] [] s0 (fX11_total_L12 o0 c1 nf n s0 x2 x3 x4) := by
  intro n
  induction n with
  | zero => intro s0 x2 x3 x4; exact J_none
  | succ n ih =>
    intro s0 x2 x3 x4
    rw [fX11_total_L12]
    refine J_iload C 4 dX11_total_12 rfl ?_
    refine J_aload_n C 0 dX11_total_14 rfl ?_
    refine gf_64_14 C dX11_total_15 q_858 ?_
    refine J_ic_ge C 54 dX11_total_18 rfl (fun _ => ?_) (fun _ => ?_)
    · refine J_iload_n C 1 dX11_total_54 rfl ?_
      refine J_if (fun h_3 => ?_) (fun h_3 => ?_)
      · refine J_swIn C 100 dX11_total_55 (by omega) (by omega) (by rw [h_3]; rfl) rfl ?_
        refine J_aload_n C 0 dX11_total_100 rfl ?_
        refine gf_64_0 C dX11_total_101 q_844 ?_
        exact J_iret C dX11_total_104 (by decide) (by decide)
      · refine J_if (fun h_4 => ?_) (fun h_4 => ?_)
        · refine J_swIn C 105 dX11_total_55 (by omega) (by omega) (by rw [h_4]; rfl) rfl ?_
          refine J_aload_n C 0 dX11_total_105 rfl ?_
          refine gf_64_14 C dX11_total_106 q_858 ?_
          exact J_iret C dX11_total_109 (by decide) (by decide)
        · refine J_if (fun h_5 => ?_) (fun h_5 => ?_)
          · refine J_swIn C 110 dX11_total_55 (by omega) (by omega) (by rw [h_5]; rfl) rfl ?_
            refine J_aload_n C 0 dX11_total_110 rfl ?_
            refine gf_64_13 C dX11_total_111 q_857 ?_
            exact J_iret C dX11_total_114 (by decide) (by decide)
          · refine J_if (fun h_6 => ?_) (fun h_6 => ?_)
            · refine J_swIn C 115 dX11_total_55 (by omega) (by omega) (by rw [h_6]; rfl) rfl ?_
              refine J_iload_n C 2 dX11_total_115 rfl ?_
              exact J_iret C dX11_total_116 (by decide) (by decide)
            · refine J_if (fun h_7 => ?_) (fun h_7 => ?_)
              · refine J_swIn C 117 dX11_total_55 (by omega) (by omega) (by rw [h_7]; rfl) rfl ?_
                refine J_aload_n C 0 dX11_total_117 rfl ?_
                refine gf_64_34 C dX11_total_118 q_878 ?_
                exact J_iret C dX11_total_121 (by decide) (by decide)
              · refine J_if (fun h_8 => ?_) (fun h_8 => ?_)
                · refine J_swIn C 122 dX11_total_55 (by omega) (by omega) (by rw [h_8]; rfl) rfl ?_
                  refine J_aload_n C 0 dX11_total_122 rfl ?_
                  refine gf_64_27 C dX11_total_123 q_871 ?_
                  exact J_iret C dX11_total_126 (by decide) (by decide)
                · refine J_if (fun h_9 => ?_) (fun h_9 => ?_)
                  · refine J_swIn C 127 dX11_total_55 (by omega) (by omega) (by rw [h_9]; rfl) rfl ?_
                    refine J_aload_n C 0 dX11_total_127 rfl ?_
                    refine gf_64_28 C dX11_total_128 q_872 ?_
                    exact J_iret C dX11_total_131 (by decide) (by decide)
                  · refine J_if (fun h_10 => ?_) (fun h_10 => ?_)
                    · refine J_swIn C 132 dX11_total_55 (by omega) (by omega) (by rw [h_10]; rfl) rfl ?_
                      refine J_iload_n C 3 dX11_total_132 rfl ?_
                      exact J_iret C dX11_total_133 (by decide) (by decide)
                    · refine J_swOut C 134 dX11_total_55 (by omega) rfl ?_
                      refine J_bipush C dX11_total_134 (zi9 rfl rfl) (by decide) ?_
                      exact J_iret C dX11_total_136 (by decide) (by decide)
    · refine J_iload_n C 2 dX11_total_21 rfl ?_
      refine J_aload_n C 0 dX11_total_22 rfl ?_
      refine gf_64_16 C dX11_total_23 q_860 ?_
      refine J_nmR fun r_11 => ?_
      refine J_iload C 4 dX11_total_26 rfl ?_
      refine J_bind fun i_12 e_13 => ?_
      subst e_13
      refine J_g fun h_14 => ?_
      refine J_iald (t := 82) (N := 24) C (Nat.le_of_ble_eq_true rfl) rfl rfl h_14 dX11_total_28 ?_
      refine J_join (fun j37 => ∀ (s_15 : zS) (u_16 : Int), zJ zw 5 K (zQm zw eI 0 0 K) 0 0 37 [(0, .inr (64, some o0)), (1, .inl c1), (3, .inl x3), (4, .inl x4)] [.inl u_16, .inl x2] s_15 (j37 s_15 u_16)) ?_ fun j37 hj37 => ?_
      · intro s_15 u_16
        refine J_iadd C dX11_total_37 ?_
        refine J_nm fun x_17 => ?_
        refine J_istore_n (L' := [(0, .inr (64, some o0)), (1, .inl c1), (2, .inl x_17), (3, .inl x3), (4, .inl x4)]) C dX11_total_38 (Nat.le_of_ble_eq_true rfl) rfl ?_
        refine J_iload_n C 3 dX11_total_39 rfl ?_
        refine J_aload_n C 0 dX11_total_40 rfl ?_
        refine J_iload C 4 dX11_total_41 rfl ?_
        refine J_callVI (S := [.inl x3]) (avs := [.inl x4]) C zx64 yw_97 rfl (kX11_worthOf _ _ _ _) dX11_total_43 rfl (Nat.le_of_ble_eq_true rfl) (by decide) fun x_19 s_18 => ?_
        refine J_iadd C dX11_total_46 ?_
        refine J_nm fun x_20 => ?_
        refine J_istore_n (L' := [(0, .inr (64, some o0)), (1, .inl c1), (2, .inl x_17), (3, .inl x_20), (4, .inl x4)]) C dX11_total_47 (Nat.le_of_ble_eq_true rfl) rfl ?_
        refine J_iinc C 4 dX11_total_48 (zi9 rfl rfl) (Nat.le_of_ble_eq_true rfl) rfl fun x_21 => ?_
        refine J_goto C 12 dX11_total_51 rfl ?_
        exact ih _ _ _ _
      · refine J_if_ne C 36 dX11_total_29 rfl (fun _ => ?_) (fun _ => ?_)
        · refine J_iconst C dX11_total_36 (zi9 rfl rfl) ?_
          refine J_loc (L' := [(0, .inr (64, some o0)), (1, .inl c1), (3, .inl x3), (4, .inl x4)]) [0, 1, 3, 4] rfl ?_
          exact hj37 _ _
        · refine J_iconst C dX11_total_32 (zi9 rfl rfl) ?_
          refine J_goto C 37 dX11_total_33 rfl ?_
          refine J_loc (L' := [(0, .inr (64, some o0)), (1, .inl c1), (3, .inl x3), (4, .inl x4)]) [0, 1, 3, 4] rfl ?_
          exact hj37 _ _
set_option maxHeartbeats 4000000 in
set_option maxRecDepth 20000 in
theorem kX11_total (nf : Nat) (s0 : zS) (i0 : Nat) (x1 : Int) : zCt zw yX11_total cX11_total 5 (some .int) 2 45 0 0 eI [.inr (64, some i0), .inl x1] s0 (fX11_total nf s0 i0 x1) := by
  refine zCt_on (own := RX11) (nm := "total") rfl rfl (by decide) (Nat.le_of_ble_eq_true rfl) fun K C => ?_
  show zJ zw 5 K _ 0 0 0 [(0, .inr (64, some i0)), (1, .inl x1)] [] s0 (fX11_total nf s0 i0 x1)
  unfold fX11_total
  refine J_iconst C dX11_total_0 (zi9 rfl rfl) ?_
  refine J_istore_n (L' := [(0, .inr (64, some i0)), (1, .inl x1), (2, .inl 0)]) C dX11_total_1 (Nat.le_of_ble_eq_true rfl) rfl ?_
  refine J_aload_n C 0 dX11_total_2 rfl ?_
  refine J_bipush C dX11_total_3 (zi9 rfl rfl) (by decide) ?_
  refine J_callVI (S := []) (avs := [.inl 6]) C zx64 yw_132 rfl (kX11_till _ _ _ _) dX11_total_5 rfl (Nat.le_of_ble_eq_true rfl) (by decide) fun x_2 s_1 => ?_
  refine J_istore_n (L' := [(0, .inr (64, some i0)), (1, .inl x1), (2, .inl 0), (3, .inl x_2)]) C dX11_total_8 (Nat.le_of_ble_eq_true rfl) rfl ?_
  refine J_iconst C dX11_total_9 (zi9 rfl rfl) ?_
  refine J_istore (L' := [(0, .inr (64, some i0)), (1, .inl x1), (2, .inl 0), (3, .inl x_2), (4, .inl 0)]) C dX11_total_10 (Nat.le_of_ble_eq_true rfl) rfl ?_
  exact kX11_total_L12 C _ _ _ _ _ _ _ _
