/-! ===== the law's walk: two worlds side by side ===== -/
theorem yw_133 : zYV RL 13 yX10_post cX10_post 8 (some .int) 5 := ⟨q_308, q_309, q_310, q_1, q_311, by decide +kernel⟩
theorem yw_134 : zYV RL 17 yX11_post cX11_post 6 (some .int) 5 := ⟨q_1022, q_1023, q_1024, q_10, q_1025, by decide +kernel⟩
theorem yw_135 : zYV RL 18 yX10_joint cX10_joint 6 (some .int) 3 := ⟨q_319, q_320, q_321, q_1, q_322, by decide +kernel⟩
theorem yw_136 : zYV RL 22 yX11_joint cX11_joint 5 (some .int) 3 := ⟨q_1033, q_1034, q_1035, q_10, q_1036, by decide +kernel⟩
theorem yw_137 : zYV RL 23 yX10_about cX10_about 4 (some .int) 2 := ⟨q_330, q_331, q_332, q_1, q_333, by decide +kernel⟩
theorem yw_138 : zYV RL 27 yX11_about cX11_about 3 (some .int) 2 := ⟨q_1037, q_1038, q_1039, q_10, q_1040, by decide +kernel⟩
theorem yw_139 : zYV RL 28 yX10_cord cX10_cord 5 (some .int) 2 := ⟨q_334, q_335, q_336, q_1, q_337, by decide +kernel⟩
theorem yw_140 : zYV RL 32 yX11_cord cX11_cord 4 (some .int) 2 := ⟨q_1041, q_1042, q_1043, q_10, q_1044, by decide +kernel⟩
theorem yw_141 : zYV RL 33 yX10_cup cX10_cup 4 (some .int) 1 := ⟨q_342, q_343, q_344, q_1, q_345, by decide +kernel⟩
theorem yw_142 : zYV RL 37 yX11_cup cX11_cup 2 (some .int) 1 := ⟨q_1049, q_1050, q_1051, q_10, q_1052, by decide +kernel⟩
theorem yw_143 : zYV RL 38 yX10_clerk cX10_clerk 3 (some .int) 1 := ⟨q_414, q_415, q_416, q_1, q_417, by decide +kernel⟩
theorem yw_144 : zYV RL 41 yX11_clerk cX11_clerk 2 (some .int) 1 := ⟨q_1053, q_1054, q_1055, q_10, q_1056, by decide +kernel⟩
theorem yw_145 : zYV RL 42 yX10_order cX10_order 3 (some .int) 1 := ⟨q_440, q_441, q_442, q_1, q_443, by decide +kernel⟩
theorem yw_146 : zYV RL 45 yX11_order cX11_order 3 (some .int) 1 := ⟨q_1057, q_1058, q_1059, q_10, q_1060, by decide +kernel⟩
theorem yw_147 : zYV RL 46 yX10_drawer cX10_drawer 4 (some .int) 2 := ⟨q_444, q_445, q_446, q_1, q_447, by decide +kernel⟩
theorem yw_148 : zYV RL 49 yX11_drawer cX11_drawer 4 (some .int) 2 := ⟨q_1061, q_1062, q_1063, q_10, q_1064, by decide +kernel⟩
theorem yw_149 : zYV RL 50 yX10_fetch cX10_fetch 4 (some .int) 3 := ⟨q_448, q_449, q_450, q_1, q_451, by decide +kernel⟩
theorem yw_150 : zYV RL 53 yX11_fetch cX11_fetch 4 (some .int) 3 := ⟨q_1065, q_1066, q_1067, q_10, q_1068, by decide +kernel⟩
theorem yw_151 : zYV RL 54 yX10_send cX10_send 7 (some .int) 4 := ⟨q_456, q_457, q_458, q_1, q_459, by decide +kernel⟩
theorem yw_152 : zYV RL 58 yX11_send cX11_send 5 (some .int) 4 := ⟨q_1069, q_1070, q_1071, q_10, q_1072, by decide +kernel⟩
theorem yw_153 : zYV RL 59 yX10_resend cX10_resend 3 (some .int) 1 := ⟨q_474, q_475, q_476, q_1, q_477, by decide +kernel⟩
theorem yw_154 : zYV RL 62 yX11_resend cX11_resend 2 (some .int) 1 := ⟨q_1084, q_1085, q_1086, q_10, q_1087, by decide +kernel⟩
theorem yw_155 : zYV RL 63 yX10_porter cX10_porter 3 (some .int) 1 := ⟨q_478, q_479, q_480, q_1, q_481, by decide +kernel⟩
theorem yw_156 : zYV RL 66 yX11_porter cX11_porter 4 (some .int) 1 := ⟨q_1088, q_1089, q_1090, q_10, q_1091, by decide +kernel⟩
theorem yw_157 : zYV RL 67 yX10_cupAt cX10_cupAt 4 (some .int) 2 := ⟨q_492, q_493, q_494, q_1, q_495, by decide +kernel⟩
theorem yw_158 : zYV RL 70 yX11_cupAt cX11_cupAt 5 (some .int) 2 := ⟨q_1100, q_1101, q_1102, q_10, q_1103, by decide +kernel⟩
theorem yw_159 : zYV RL 71 yX10_coins cX10_coins 4 (some .int) 2 := ⟨q_504, q_505, q_506, q_1, q_507, by decide +kernel⟩
theorem yw_160 : zYV RL 74 yX11_coins cX11_coins 3 (some .int) 2 := ⟨q_1112, q_1113, q_1114, q_10, q_1115, by decide +kernel⟩
theorem yw_161 : zYV RL 75 yX10_tick cX10_tick 3 (some .int) 1 := ⟨q_517, q_518, q_519, q_1, q_520, by decide +kernel⟩
theorem yw_162 : zYV RL 78 yX11_tick cX11_tick 3 (some .int) 1 := ⟨q_1140, q_1141, q_1142, q_10, q_1143, by decide +kernel⟩
theorem yw_163 : zYV RL 79 yX10_row cX10_row 3 (some .int) 1 := ⟨q_680, q_681, q_682, q_1, q_683, by decide +kernel⟩
theorem yw_164 : zYV RL 82 yX11_row cX11_row 2 (some .int) 1 := ⟨q_1240, q_1241, q_1242, q_10, q_1243, by decide +kernel⟩
theorem yw_165 : zYV RL 83 yX10_clerkAt cX10_clerkAt 4 (some .int) 2 := ⟨q_688, q_689, q_690, q_1, q_691, by decide +kernel⟩
theorem yw_166 : zYV RL 86 yX11_clerkAt cX11_clerkAt 3 (some .int) 2 := ⟨q_1244, q_1245, q_1246, q_10, q_1247, by decide +kernel⟩
theorem yw_167 : zYV RL 87 yX10_till cX10_till 2 (some .int) 1 := ⟨q_692, q_693, q_694, q_1, q_695, by decide +kernel⟩
theorem yw_168 : zYV RL 90 yX11_till cX11_till 4 (some .int) 1 := ⟨q_1120, q_1121, q_1122, q_10, q_1123, by decide +kernel⟩
theorem yw_169 : zYV RL 91 yX10_could cX10_could 2 (some .int) 1 := ⟨q_696, q_697, q_698, q_1, q_699, by decide +kernel⟩
theorem yw_170 : zYV RL 94 yX11_could cX11_could 2 (some .int) 1 := ⟨q_1124, q_1125, q_1126, q_10, q_1127, by decide +kernel⟩
theorem yw_171 : zYV RL 95 yX10_gives cX10_gives 3 (some .int) 2 := ⟨q_700, q_701, q_702, q_1, q_703, by decide +kernel⟩
theorem yw_172 : zYV RL 98 yX11_gives cX11_gives 3 (some .int) 2 := ⟨q_1136, q_1137, q_1138, q_10, q_1139, by decide +kernel⟩
theorem yw_173 : zYV RL 99 yX10_on cX10_on 7 (some .int) 2 := ⟨q_704, q_705, q_706, q_1, q_707, by decide +kernel⟩
theorem yw_174 : zYV RL 102 yX11_on cX11_on 3 (some .int) 2 := ⟨q_1248, q_1249, q_1250, q_10, q_1251, by decide +kernel⟩
theorem yw_175 : zYV RL 103 yX10_waits cX10_waits 4 (some .int) 2 := ⟨q_708, q_709, q_710, q_1, q_711, by decide +kernel⟩
theorem yw_176 : zYV RL 106 yX11_waits cX11_waits 3 (some .int) 2 := ⟨q_1252, q_1253, q_1254, q_10, q_1255, by decide +kernel⟩
theorem yw_177 : zYV RL 107 yX10_worst cX10_worst 3 (some .int) 0 := ⟨q_712, q_713, q_714, q_1, q_715, by decide +kernel⟩
theorem yw_178 : zYV RL 111 yX11_worst cX11_worst 2 (some .int) 0 := ⟨q_1256, q_1257, q_1258, q_10, q_1259, by decide +kernel⟩
theorem yw_179 : zYV RL 112 yX10_best cX10_best 4 (some .int) 1 := ⟨q_751, q_752, q_753, q_1, q_754, by decide +kernel⟩
theorem yw_180 : zYV RL 115 yX11_best cX11_best 3 (some .int) 1 := ⟨q_1280, q_1281, q_1282, q_10, q_1283, by decide +kernel⟩
theorem yw_181 : zYV RL 116 yX10_worstBy cX10_worstBy 4 (some .int) 1 := ⟨q_759, q_760, q_761, q_1, q_762, by decide +kernel⟩
theorem yw_182 : zYV RL 119 yX11_worstBy cX11_worstBy 3 (some .int) 1 := ⟨q_1284, q_1285, q_1286, q_10, q_1287, by decide +kernel⟩
theorem yw_183 : zYV RL 120 yX10_rush cX10_rush 7 (some .int) 3 := ⟨q_767, q_768, q_769, q_1, q_770, by decide +kernel⟩
theorem yw_184 : zYV RL 123 yX11_rush cX11_rush 5 (some .int) 3 := ⟨q_1288, q_1289, q_1290, q_10, q_1291, by decide +kernel⟩
theorem yw_185 : zYV RL 124 yX10_load cX10_load 4 (some .int) 2 := ⟨q_771, q_772, q_773, q_1, q_774, by decide +kernel⟩
theorem yw_186 : zYV RL 127 yX11_load cX11_load 3 (some .int) 2 := ⟨q_1292, q_1293, q_1294, q_10, q_1295, by decide +kernel⟩
theorem yw_187 : zYV RL 128 yX10_lines cX10_lines 3 (some .int) 1 := ⟨q_775, q_776, q_777, q_1, q_778, by decide +kernel⟩
theorem yw_188 : zYV RL 131 yX11_lines cX11_lines 2 (some .int) 1 := ⟨q_1300, q_1301, q_1302, q_10, q_1303, by decide +kernel⟩
theorem yw_189 : zYV RL 132 yX10_wanted cX10_wanted 3 (some .int) 0 := ⟨q_784, q_785, q_786, q_1, q_787, by decide +kernel⟩
theorem yw_190 : zYV RL 135 yX11_wanted cX11_wanted 3 (some .int) 0 := ⟨q_1308, q_1309, q_1310, q_10, q_1311, by decide +kernel⟩
theorem yw_191 : zYV RL 136 yX10_vital cX10_vital 6 (some .int) 1 := ⟨q_788, q_789, q_790, q_1, q_791, by decide +kernel⟩
theorem yw_192 : zYV RL 139 yX11_vital cX11_vital 6 (some .int) 1 := ⟨q_1312, q_1313, q_1314, q_10, q_1315, by decide +kernel⟩
theorem yw_193 : zYV RL 140 yX10_loss cX10_loss 4 (some .int) 2 := ⟨q_796, q_797, q_798, q_1, q_799, by decide +kernel⟩
theorem yw_194 : zYV RL 143 yX11_loss cX11_loss 3 (some .int) 2 := ⟨q_1316, q_1317, q_1318, q_10, q_1319, by decide +kernel⟩
theorem yw_195 : zYV RL 144 yX10_bells cX10_bells 1 (some .int) 0 := ⟨q_800, q_801, q_802, q_1, q_803, by decide +kernel⟩
theorem yw_196 : zYV RL 147 yX11_bells cX11_bells 1 (some .int) 0 := ⟨q_1320, q_1321, q_1322, q_10, q_1323, by decide +kernel⟩
theorem yw_197 : zYV RL 148 yX10_bell cX10_bell 3 (some .int) 2 := ⟨q_804, q_805, q_806, q_1, q_807, by decide +kernel⟩
theorem yw_198 : zYV RL 151 yX11_bell cX11_bell 4 (some .int) 2 := ⟨q_1324, q_1325, q_1326, q_10, q_1327, by decide +kernel⟩
theorem yw_199 : zYV RL 152 yX10_mayBe cX10_mayBe 6 (some .int) 1 := ⟨q_816, q_817, q_818, q_1, q_819, by decide +kernel⟩
theorem yw_200 : zYV RL 155 yX11_mayBe cX11_mayBe 5 (some .int) 1 := ⟨q_1328, q_1329, q_1330, q_10, q_1331, by decide +kernel⟩
theorem yw_201 : zYV RL 156 yX10_total cX10_total 2 (some .int) 1 := ⟨q_826, q_827, q_828, q_1, q_829, by decide +kernel⟩
theorem yw_202 : zYV RL 159 yX11_total cX11_total 5 (some .int) 1 := ⟨q_1336, q_1337, q_1338, q_10, q_1339, by decide +kernel⟩
theorem yw_203 : zYI RL 9 yX10_init cX10_init 1 0 := ⟨q_18, rfl, q_19, q_1, q_20, by decide +kernel⟩
theorem yw_204 : zYI RL 12 yX11_init cX11_init 1 0 := ⟨q_840, rfl, q_841, q_10, q_842, by decide +kernel⟩
def lwA (s : State) : Nat → Prop := fun q => s.heap.size ≤ q
def zTwo (D : va_G) (dA : Nat → ClassId) (A : Nat → Prop) (φ : zF) (σ : zS) (ψ : zF) (τ : zS) (H : Heap) : Prop := zRep zw D dA A φ σ H ∧ zRep zw D dA A ψ τ H ∧ ∀ t i t' i', t < 200 → i < σ.1 t → t' < 200 → i' < τ.1 t' → φ t i ≠ ψ t' i'
theorem zTwo.symm {D : va_G} {dA : Nat → ClassId} {A : Nat → Prop} {φ ψ : zF} {σ τ : zS} {H : Heap} (h : zTwo D dA A φ σ ψ τ H) : zTwo D dA A ψ τ φ σ H := ⟨h.2.1, h.1, fun t i t' i' a b c d q => h.2.2 t' i' t i c d a b q.symm⟩
def R_law : String := "FlyingChangeLaw"
def lw_P (b : Addr) (xs : List Int32) (args : Array Value) (s : State) : Prop := args = #[.ref b] ∧ s.IntsAt b xs ∧ xs.length ≤ 3072 ∧ (Jvm.Cond.and given_1 narrow_1).before args s = true
def lw_Q (_ : Array Value) (s : State) (o : Outcome) (t : State) : Prop := o = .returned (some (.int 1)) ∧ Framed s o t [] 624092 7229972
def lw_Z (below : List Frame) (a : Array Value) (s : State) : State → Prop := fun t => ∃ o, t.status = .running ∧ Ended t below o ∧ lw_Q a s o t
/-- the law's own end, with 1 on the stack, nothing written that was there before, its room as the claim has it -/
theorem lw_ret {p : Program} {l : Launch} {e : Env} {s : State} {m : MethodId} {below : List Frame} {meth : Method} {c : Code} {b : Nat} (hx : p.tables.exec = Jvm.exec) (hb : c.code = code) (hr : meth.sig.returnType = ret) (hlocks : meth.locks = false) {pc : Nat} {H : Heap} {ls : Array Slot} (hdg : decode code pc = .ok (.ireturn, 1)) : W p l e room_1 s m #[Value.ref b] below meth c H [] 624092 7229972 (lw_Z below #[Value.ref b] s) (F0 m pc ls [.int 1]) := by
  intro T hT X
  obtain ⟨fs, hret, hrun, hended, hW, hframe⟩ := X.leave (v := some (.int 1)) (hlocks := hlocks) (fun h => by rw [hr] at h; cases h)
  have hmeth' : T.vm.method? m = some meth := X.method'
  refine ⟨T.setFrames fs, ?_, .returned (some (.int 1)), hrun, hended, rfl, ⟨_, rfl⟩, hW, hframe⟩
  jvm_step X.here [X.here.top, hx, hb, hdg, hmeth', hr, ret, narrow_b1]
  (try refine ⟨rfl, ?_⟩); (try refine ⟨rfl, ?_⟩)
  first | (intro acts; rw [hret _ acts rfl rfl rfl]) | rw [hret _ _ rfl rfl rfl]
  exact Steps.refl _
/-- what holds at the law's entry: the machine, the code, the tables' words (any of lw_tbl by 'hts w (by decide +kernel)'), the script of L ints xs at the cell b, what the Statement gives of the start (any of its parts by flat_of_before) -/
def lw_At (p : Program) (s : State) (m : MethodId) (meth : Method) (c : Code) (b L : Nat) (xs : Nat → Int32) : Prop :=
  p.tables.exec = Jvm.exec ∧ c.code = code ∧ meth.sig.returnType = ret ∧ c.maxLocals = 4 ∧ s.vm.findClass R_law = some m.cls ∧ (∀ w ∈ lw_tbl, w.before #[Value.ref b] s = true) ∧ va_X b L xs s s.heap ∧ b < s.heap.size ∧ meth.locks = false ∧ (Jvm.Cond.and given_1 narrow_1).before #[Value.ref b] s = true

def lwC (p : Program) (s : State) (m : MethodId) (meth : Method) (c : Code) (D : va_G) (dA : Nat → ClassId) (b L tW : Nat) (xs : Nat → Int32) : Prop := p.tables.exec = Jvm.exec ∧ c.code = code ∧ c.maxLocals = 4 ∧ s.vm.findClass RL = some m.cls ∧ (∀ v ∈ zT, v.before #[Value.ref b] s = true) ∧ va_K D vwCl (zTys dA) s ∧ zNst s ∧ zSt tW (lwA s) s s.heap ∧ va_X b L xs s s.heap ∧ b < s.heap.size ∧ meth.locks = false ∧ meth.sig.returnType = ret ∧ L ≤ 3072
def lwN (p : Program) (l : Launch) (e : Env) (s : State) (m : MethodId) (below : List Frame) (meth : Method) (c : Code) (D : va_G) (dA : Nat → ClassId) (b L tW : Nat) (xs : Nat → Int32) (i qx qm : Nat) : Prop :=
  ∀ (φ : zF) (σ : zS) (ψ : zF) (τ : zS) (H : Heap) (locs : List Loc), zTwo D dA (lwA s) φ σ ψ τ H → zR σ τ → φ 0 0 = qx → ψ 64 0 = qm → φ 1000 0 = tW → ψ 1000 0 = tW → va_S (lwA s) s.heap H locs → ∀ ls : Array Slot, lv_has ls 4 [(0, .ref b), (1, .ref qx), (2, .ref qm), (3, .int (nI i))] → W p l e room_1 s m #[Value.ref b] below meth c H locs (106 + i) (3060 + 10 * i) (lw_Z below #[Value.ref b] s) (F0 m 1293 ls [])
theorem zin_x (x : Int32) : zin x.toInt := ⟨Int32.le_toInt x, Int32.toInt_lt x⟩
theorem zin_b (c : Prop) [Decidable c] : zin (if c then 0 else 1) := by unfold zin; split <;> omega
theorem b01 (c : Prop) [Decidable c] : (if c then (0 : Int) else 1) = 0 ∨ (if c then (0 : Int) else 1) = 1 := by split <;> simp
section LW
variable {p : Program} {l : Launch} {e : Env} {s : State} {m : MethodId} {below : List Frame} {meth : Method} {c : Code} {D : va_G} {dA : Nat → ClassId} {b L tW i : Nat} {xs : Nat → Int32} {H : Heap} {locs : List Loc} {ls : Array Slot} {cl sl pc : Nat} {rest st0 : List Value} {Q : State → Prop}
theorem lw_arg {q1 q2 : Nat} {k : Int} {kn : Nat} (C : lwC p s m meth c D dA b L tW xs) (hS : va_S (lwA s) s.heap H locs) (hl : lv_has ls 4 [(0, .ref b), (1, .ref q1), (2, .ref q2), (3, .int (nI i))]) (hk : Int32.ofInt k = nI kn) (h : i + kn < L) (d0 : decode code pc = .ok (.aload_n 0, 1)) (d1 : decode code (pc + 1) = .ok (.iload_n 3, 1)) (d2 : decode code (pc + 2) = .ok (.iconst k, 1)) (d3 : decode code (pc + 3) = .ok (.iadd, 1)) (d4 : decode code (pc + 4) = .ok (.iaload, 1))
    (kk : W p l e room_1 s m #[Value.ref b] below meth c H locs cl sl Q (F0 m (pc + 5) ls (.int (zI (xs (i + kn)).toInt) :: rest))) : W p l e room_1 s m #[Value.ref b] below meth c H locs cl sl Q (F0 m pc ls rest) := by
  obtain ⟨hx, hb, hml, hown, hts, hK, hnst, hst, hX, hbl, hlk, hrt, hL9⟩ := C
  have hbA : ¬ lwA s b := Nat.not_le.mpr hbl
  refine lv_aload_n hx hb d0 rfl (lv_at hl 0 rfl) ?_
  refine lv_iload_n hx hb d1 rfl (lv_at hl 3 rfl) ?_
  refine lv_iconst (v := nI kn) hx hb d2 hk ?_
  refine lv_iadd hx hb d3 ?_
  rw [nI_add]
  refine va_sld hx hb hX hbl hbA hS (vp_in_nI h (by omega)) d4 ?_
  rw [nI_clamp (by omega), show xs (i + kn) = zI (xs (i + kn)).toInt from (zI_of rfl).symm]
  exact kk
theorem lw_bool {z : Int} (C : lwC p s m meth c D dA b L tW xs) (hz : zin z) (d0 : decode code pc = .ok (.ifCond .eq 7, 3)) (d1 : decode code (pc + 3) = .ok (.iconst 1, 1)) (d2 : decode code (pc + 4) = .ok (.goto 4, 3)) (d3 : decode code (pc + 7) = .ok (.iconst 0, 1))
    (kk : W p l e room_1 s m #[Value.ref b] below meth c H locs cl sl Q (F0 m (pc + 8) ls (.int (zI (if z = 0 then 0 else 1)) :: rest))) : W p l e room_1 s m #[Value.ref b] below meth c H locs cl sl Q (F0 m pc ls (.int (zI z) :: rest)) := by
  obtain ⟨hx, hb, -⟩ := C
  refine lv_if_eq (tgt := pc + 7) hx hb d0 (by omega) (fun q => ?_) (fun q => ?_)
  · have h : z = 0 := (zI_inj hz zin0).mp (q.trans zI0.symm)
    rw [if_pos h] at kk
    exact lv_iconst (v := zI 0) hx hb d3 rfl kk
  · have h : ¬ z = 0 := fun h => q (by rw [h, zI0])
    rw [if_neg h] at kk
    refine lv_iconst (v := zI 1) hx hb d1 rfl ?_
    exact lv_goto (tgt := pc + 8) hx hb d2 (by omega) kk
theorem lw_fin {φ ψ : zF} {σ τ : zS} {β : Type} {enc : β → List zV} {r1 : β} {σ1 : zS} {mc' ms' : Nat} {a : Array Value}
    (hr : va_Run p l e room_1 s m #[Value.ref b] below meth c H locs cl sl mc' ms' (F0 m pc ls st0) rest (zQ zw D dA (zA φ σ H.size) φ σ enc r1 σ1 a) (zA φ σ H.size)) (hT : zTwo D dA (lwA s) φ σ ψ τ H) (hS : va_S (lwA s) s.heap H locs) (henc : (enc r1).length ≤ 1)
    (kk : ∀ (φ' : zF) (H1 : Heap) (locs1 : List Loc), zTwo D dA (lwA s) φ' σ1 ψ τ H1 → zExt φ σ φ' σ1 → va_S (lwA s) s.heap H1 locs1 → W p l e room_1 s m #[Value.ref b] below meth c H1 locs1 (cl + mc') (sl + ms') Q (F0 m (pc + 3) ls ((enc r1).map (zcv φ') ++ rest))) : W p l e room_1 s m #[Value.ref b] below meth c H locs cl sl Q (F0 m pc ls st0) := by
  obtain ⟨hR, hO, hdis⟩ := hT
  have hAA : ∀ q, zA φ σ H.size q → lwA s q := by
    intro q hq
    rcases hq with ⟨t, i, ht, hi, rfl⟩ | hq
    · exact (hR.1 t i ht hi).2
    · exact Nat.le_trans hS.1 hq
  intro T hT X
  obtain ⟨v, st₀, t, T', L, h0, X', hL, e1, e2, ⟨φ', hv, hok, hR1, hE1, hz, hk⟩, st⟩ := hr T hT X
  rw [h0] at hz hk
  have hvl : v.toList = (enc r1).map (zcv φ') := by
    have hv2 : v = ((enc r1).map (zcv φ')).head? := by injection hv
    rw [hv2]
    cases he : enc r1 with
    | nil => rfl
    | cons x y => cases y with
      | nil => rfl
      | cons z y => rw [he] at henc; simp only [List.length_cons] at henc; omega
  have hkeep : ∀ q : Nat, q < H.size → ¬ zA φ σ H.size q → T'.heap[q]? = H[q]? := fun q h1 h2 => by rw [e1]; exact hk q h1 h2
  have hS1 : va_S (lwA s) s.heap T'.heap (locs ++ L) := by
    refine ⟨Nat.le_trans hS.1 (by rw [e1]; exact hz), fun q h1 h2 => ?_, fun q hq => ?_⟩
    · rw [hkeep q (Nat.lt_of_lt_of_le h1 hS.1) fun z => h2 (hAA q z)]
      exact hS.2.1 q h1 h2
    · rcases List.mem_append.mp hq with h | h
      · exact hS.2.2 q h
      · exact hAA _ (hL q h)
  have hapart : ∀ t' i', t' < 200 → i' < τ.1 t' → ψ t' i' < H.size ∧ ¬ zA φ σ H.size (ψ t' i') := by
    intro t' i' ht' hi'
    have hlt := (hO.1 t' i' ht' hi').1.lt
    refine ⟨hlt, fun q => ?_⟩
    rcases q with ⟨t2, i2, ht2, hi2, q⟩ | q
    · exact hdis t2 i2 t' i' ht2 hi2 ht' hi' q.symm
    · have hlt : ψ t' i' < H.size := hlt
      omega
  have hO1 : zRep zw D dA (lwA s) ψ τ T'.heap := by
    refine ⟨fun t' i' ht' hi' => ⟨(hO.1 t' i' ht' hi').1.kept ?_, (hO.1 t' i' ht' hi').2⟩, hO.2⟩
    exact hkeep _ (hapart t' i' ht' hi').1 (hapart t' i' ht' hi').2
  have hdis1 : ∀ t i t' i', t < 200 → i < σ1.1 t → t' < 200 → i' < τ.1 t' → φ' t i ≠ ψ t' i' := by
    intro t i t' i' ht hi ht' hi' q
    have h1 := (hR1.1 t i ht hi).2
    rw [q] at h1
    exact (hapart t' i' ht' hi').2 h1
  obtain ⟨t2, a1, b1⟩ := kk φ' T'.heap (locs ++ L) ⟨by rw [e1]; exact hR1.weaken fun _ _ _ _ h => hAA _ h, hO1, hdis1⟩ hE1 hS1 T' rfl X'
  refine ⟨t2, st t2 ?_, b1⟩
  rw [hvl]
  exact a1
theorem lw_pre {φ : zF} {σ : zS} {avs : List zV} (C : lwC p s m meth c D dA b L tW xs) (hR : zRep zw D dA (lwA s) φ σ H) (hW1 : φ 1000 0 = tW) (hS : va_S (lwA s) s.heap H locs) (hok : ∀ v ∈ avs, zok σ v) :
    ∀ U : State, U.heap = H → s.WarmedH U.vm → zPc zw D dA φ σ avs H.size (avs.map (zcv φ)).toArray U := by
  obtain ⟨hx, hb, hml, hown, hts, hK, hnst, hst, hX, hbl, hlk, hrt, hL9⟩ := C
  exact zpre_at (p := p) (m := m) (A := lwA s) (φ0 := φ) (σ0 := σ) hR zExt.rf hS (fun q hq => hq) hok hK hnst (by rw [hW1]; exact hst)
theorem lw_call {t0 ci N ix : Nat} {Cn : String} {T : u_T} {ty : Nat → FieldType} (X : zCls zw t0 ci N Cn T ty) {y : MethodName} {bytes : ByteArray} {maxL fr' lo' mc' ms' : Nat} {ret' : Option FieldType} {avs : List zV} {r : Int} {φ ψ : zF} {σ τ σ1 : zS} (C : lwC p s m meth c D dA b L tW xs)
    (Y : zYV RL ix y bytes maxL ret' avs.length) (hyc : y.cls = Cn) (hct : zCt zw y bytes maxL ret' fr' lo' mc' ms' eI (.inr (t0, some 0) :: avs) σ (some (r, σ1))) (hT : zTwo D dA (lwA s) φ σ ψ τ H) (h0 : 0 < σ.1 t0) (hW1 : φ 1000 0 = tW) (hav : ∀ v ∈ avs, zok σ v) (hS : va_S (lwA s) s.heap H locs) (hls : ls.size = 4) (hst : st0 = (avs.map (zcv φ)).reverse ++ .ref (φ t0 0) :: rest) (hrs : (rest.map fun v => v.category).sum ≤ 8) (hd : decode code pc = .ok (.invokevirtual ix, 3))
    (hrm : (fr' + 1 ≤ room_1.frames ∧ 8 + (maxL + 11) + lo' ≤ room_1.locals) ∧ cl + mc' ≤ room_1.cells ∧ sl + ms' ≤ room_1.slots)
    (kk : ∀ (φ' : zF) (H1 : Heap) (locs1 : List Loc), zTwo D dA (lwA s) φ' σ1 ψ τ H1 → zExt φ σ φ' σ1 → va_S (lwA s) s.heap H1 locs1 → W p l e room_1 s m #[Value.ref b] below meth c H1 locs1 (cl + mc') (sl + ms') Q (F0 m (pc + 3) ls (.int (zI r) :: rest))) : W p l e room_1 s m #[Value.ref b] below meth c H locs cl sl Q (F0 m pc ls st0) := by
  have hpre := lw_pre (avs := .inr (t0, some 0) :: avs) C hT.1 hW1 hS (tl_ok (fun i hi => by cases hi; exact Or.inl ⟨X.1, h0⟩) hav)
  obtain ⟨hx, hb, hml, hown, hts, hK, hnst, hst9, hX, hbl, hlk, hrt, hL9⟩ := C
  obtain ⟨ht, hw, hc, hin, hty, hnm⟩ := X
  obtain ⟨y1, y2, y3, y4, y5, y6⟩ := Y
  obtain ⟨q0, hq0⟩ := hT.1.at ht h0
  rw [zE_obj hw] at hq0
  subst hyc
  refine lw_fin (enc := eI) (va_runV (C := y.cls) (As := avs.map (zcv φ)) (rest := rest) (b := φ t0 0) ⟨hx, hb, hml, hown, hts⟩ (hct r σ1 rfl l D dA φ H.size) (cwV avs.length hts ?_ rfl rfl rfl ⟨rfl, y6⟩ hrm.1) ⟨zPc_blind, va_recv hK hT.1.P (ci := ci) hc hq0, hpre⟩ rfl (by simp) hls hst (lv_room hrs) hd hrm.2) hT hS (Nat.le_refl _) kk
  intro v hv
  unfold wsV at hv
  rcases List.mem_append.mp hv with hv | hv
  · have h1 : v ∈ zT := by
      simp only [List.mem_cons, List.not_mem_nil, or_false] at hv
      rcases hv with rfl | rfl | rfl | rfl
      · exact y1
      · exact y2
      · exact y3
      · exact y4
    exact ⟨h1, good_of_word (zT_of h1).2⟩
  · exact zgood_ws y5 v hv
end LW
set_option maxHeartbeats 4000000 in
set_option maxRecDepth 20000 in
theorem law_c0 {p : Program} {l : Launch} {e : Env} {s : State} {m : MethodId} {below : List Frame} {meth : Method} {c : Code} {D : va_G} {dA : Nat → ClassId} {b L tW i : Nat} {xs : Nat → Int32} {φ ψ : zF} {σ τ : zS} {H : Heap} {locs : List Loc} {ls : Array Slot} (C : lwC p s m meth c D dA b L tW xs) (hT : zTwo D dA (lwA s) φ σ ψ τ H) (hr : zR σ τ) (hW1 : φ 1000 0 = tW) (hW2 : ψ 1000 0 = tW) (hS : va_S (lwA s) s.heap H locs) (hi : i + 6 ≤ L) (hl : lv_has ls 4 [(0, .ref b), (1, .ref (φ 0 0)), (2, .ref (ψ 64 0)), (3, .int (nI i))]) (hn : lwN p l e s m below meth c D dA b L tW xs i (φ 0 0) (ψ 64 0)) : W p l e room_1 s m #[Value.ref b] below meth c H locs (100 + i) (3000 + 10 * i) (lw_Z below #[Value.ref b] s) (F0 m 188 ls []) := by
  obtain ⟨hx, hb, -⟩ := id C
  have hL9 : L ≤ 3072 := C.2.2.2.2.2.2.2.2.2.2.2.2
  obtain ⟨r, σ1, τ1, e1, e2, hr1⟩ := P_post hr (nf := 5000) (by decide) ((xs (i + 1)).toInt) (if (xs (i + 2)).toInt = 0 then 0 else 1) ((xs (i + 3)).toInt) ((xs (i + 4)).toInt) (if (xs (i + 5)).toInt = 0 then 0 else 1) (zin_x _) (b01 _) (zin_x _) (zin_x _) (b01 _)
  refine lv_aload_n hx hb dL_law_188 rfl (lv_at hl 1 rfl) ?_
  refine lw_arg (k := 1) (kn := 1) C hS hl rfl (by omega) dL_law_189 dL_law_190 dL_law_191 dL_law_192 dL_law_193 ?_
  refine lw_arg (k := 2) (kn := 2) C hS hl rfl (by omega) dL_law_194 dL_law_195 dL_law_196 dL_law_197 dL_law_198 ?_
  refine lw_bool C (zin_x _) dL_law_199 dL_law_202 dL_law_203 dL_law_206 ?_
  refine lw_arg (k := 3) (kn := 3) C hS hl rfl (by omega) dL_law_207 dL_law_208 dL_law_209 dL_law_210 dL_law_211 ?_
  refine lw_arg (k := 4) (kn := 4) C hS hl rfl (by omega) dL_law_212 dL_law_213 dL_law_214 dL_law_215 dL_law_216 ?_
  refine lw_arg (k := 5) (kn := 5) C hS hl rfl (by omega) dL_law_217 dL_law_218 dL_law_219 dL_law_220 dL_law_221 ?_
  refine lw_bool C (zin_x _) dL_law_222 dL_law_225 dL_law_226 dL_law_229 ?_
  refine lw_call (avs := [.inl ((xs (i + 1)).toInt), .inl (if (xs (i + 2)).toInt = 0 then 0 else 1), .inl ((xs (i + 3)).toInt), .inl ((xs (i + 4)).toInt), .inl (if (xs (i + 5)).toInt = 0 then 0 else 1)]) (rest := []) zx0 C yw_133 rfl (by have k9 := kX10_post σ 0 ((xs (i + 1)).toInt) (if (xs (i + 2)).toInt = 0 then 0 else 1) ((xs (i + 3)).toInt) ((xs (i + 4)).toInt) (if (xs (i + 5)).toInt = 0 then 0 else 1); rw [e1] at k9; exact k9) hT (zR_n hr).1 hW1 (fun v hv => by simp only [List.mem_cons, List.not_mem_nil, or_false] at hv; rcases hv with rfl | rfl | rfl | rfl | rfl <;> exact (by first | exact zin_x _ | exact zin_b _)) hS hl.1 rfl (Nat.le_of_ble_eq_true rfl) dL_law_230 ⟨⟨by decide, by decide⟩, by show _ ≤ 624092; omega, by show _ ≤ 7229972; omega⟩ fun φ1 H1 locs1 hT1 hE1 hS => ?_
  refine lv_aload_n hx hb dL_law_233 rfl (lv_at hl 2 rfl) ?_
  refine lw_arg (k := 1) (kn := 1) C hS hl rfl (by omega) dL_law_234 dL_law_235 dL_law_236 dL_law_237 dL_law_238 ?_
  refine lw_arg (k := 2) (kn := 2) C hS hl rfl (by omega) dL_law_239 dL_law_240 dL_law_241 dL_law_242 dL_law_243 ?_
  refine lw_bool C (zin_x _) dL_law_244 dL_law_247 dL_law_248 dL_law_251 ?_
  refine lw_arg (k := 3) (kn := 3) C hS hl rfl (by omega) dL_law_252 dL_law_253 dL_law_254 dL_law_255 dL_law_256 ?_
  refine lw_arg (k := 4) (kn := 4) C hS hl rfl (by omega) dL_law_257 dL_law_258 dL_law_259 dL_law_260 dL_law_261 ?_
  refine lw_arg (k := 5) (kn := 5) C hS hl rfl (by omega) dL_law_262 dL_law_263 dL_law_264 dL_law_265 dL_law_266 ?_
  refine lw_bool C (zin_x _) dL_law_267 dL_law_270 dL_law_271 dL_law_274 ?_
  refine lw_call (avs := [.inl ((xs (i + 1)).toInt), .inl (if (xs (i + 2)).toInt = 0 then 0 else 1), .inl ((xs (i + 3)).toInt), .inl ((xs (i + 4)).toInt), .inl (if (xs (i + 5)).toInt = 0 then 0 else 1)]) (rest := [.int (zI r)]) zx64 C yw_134 rfl (by have k9 := kX11_post τ 0 ((xs (i + 1)).toInt) (if (xs (i + 2)).toInt = 0 then 0 else 1) ((xs (i + 3)).toInt) ((xs (i + 4)).toInt) (if (xs (i + 5)).toInt = 0 then 0 else 1); rw [e2] at k9; exact k9) hT1.symm (zR_n hr).2 hW2 (fun v hv => by simp only [List.mem_cons, List.not_mem_nil, or_false] at hv; rcases hv with rfl | rfl | rfl | rfl | rfl <;> exact (by first | exact zin_x _ | exact zin_b _)) hS hl.1 rfl (Nat.le_of_ble_eq_true rfl) dL_law_275 ⟨⟨by decide, by decide⟩, by show _ ≤ 624092; omega, by show _ ≤ 7229972; omega⟩ fun ψ1 H2 locs2 hT2 hE2 hS => ?_
  refine lv_icmp_eq (tgt := 1293) hx hb dL_law_278 (by decide) (fun _ => ?_) (fun q => absurd rfl q)
  refine W.widen (k := 106 + i) (n := 3060 + 10 * i) (by omega) (by omega) ?_
  exact hn φ1 σ1 ψ1 τ1 H2 locs2 hT2.symm hr1 (hE1.1 0 0 (Or.inl ⟨by decide, (zR_n hr).1⟩)) (hE2.1 64 0 (Or.inl ⟨by decide, (zR_n hr).2⟩)) ((hE1.1 1000 0 (Or.inr (by decide))).trans hW1) ((hE2.1 1000 0 (Or.inr (by decide))).trans hW2) hS ls hl
set_option maxHeartbeats 4000000 in
set_option maxRecDepth 20000 in
theorem law_c1 {p : Program} {l : Launch} {e : Env} {s : State} {m : MethodId} {below : List Frame} {meth : Method} {c : Code} {D : va_G} {dA : Nat → ClassId} {b L tW i : Nat} {xs : Nat → Int32} {φ ψ : zF} {σ τ : zS} {H : Heap} {locs : List Loc} {ls : Array Slot} (C : lwC p s m meth c D dA b L tW xs) (hT : zTwo D dA (lwA s) φ σ ψ τ H) (hr : zR σ τ) (hW1 : φ 1000 0 = tW) (hW2 : ψ 1000 0 = tW) (hS : va_S (lwA s) s.heap H locs) (hi : i + 6 ≤ L) (hl : lv_has ls 4 [(0, .ref b), (1, .ref (φ 0 0)), (2, .ref (ψ 64 0)), (3, .int (nI i))]) (hn : lwN p l e s m below meth c D dA b L tW xs i (φ 0 0) (ψ 64 0)) : W p l e room_1 s m #[Value.ref b] below meth c H locs (100 + i) (3000 + 10 * i) (lw_Z below #[Value.ref b] s) (F0 m 283 ls []) := by
  obtain ⟨hx, hb, -⟩ := id C
  have hL9 : L ≤ 3072 := C.2.2.2.2.2.2.2.2.2.2.2.2
  obtain ⟨r, σ1, τ1, e1, e2, hr1⟩ := P_joint hr (nf := 5000) (by decide) ((xs (i + 1)).toInt) ((xs (i + 2)).toInt) ((xs (i + 3)).toInt) (zin_x _) (zin_x _) (zin_x _)
  refine lv_aload_n hx hb dL_law_283 rfl (lv_at hl 1 rfl) ?_
  refine lw_arg (k := 1) (kn := 1) C hS hl rfl (by omega) dL_law_284 dL_law_285 dL_law_286 dL_law_287 dL_law_288 ?_
  refine lw_arg (k := 2) (kn := 2) C hS hl rfl (by omega) dL_law_289 dL_law_290 dL_law_291 dL_law_292 dL_law_293 ?_
  refine lw_arg (k := 3) (kn := 3) C hS hl rfl (by omega) dL_law_294 dL_law_295 dL_law_296 dL_law_297 dL_law_298 ?_
  refine lw_call (avs := [.inl ((xs (i + 1)).toInt), .inl ((xs (i + 2)).toInt), .inl ((xs (i + 3)).toInt)]) (rest := []) zx0 C yw_135 rfl (by have k9 := kX10_joint σ 0 ((xs (i + 1)).toInt) ((xs (i + 2)).toInt) ((xs (i + 3)).toInt); rw [e1] at k9; exact k9) hT (zR_n hr).1 hW1 (fun v hv => by simp only [List.mem_cons, List.not_mem_nil, or_false] at hv; rcases hv with rfl | rfl | rfl <;> exact (by first | exact zin_x _ | exact zin_b _)) hS hl.1 rfl (Nat.le_of_ble_eq_true rfl) dL_law_299 ⟨⟨by decide, by decide⟩, by show _ ≤ 624092; omega, by show _ ≤ 7229972; omega⟩ fun φ1 H1 locs1 hT1 hE1 hS => ?_
  refine lv_aload_n hx hb dL_law_302 rfl (lv_at hl 2 rfl) ?_
  refine lw_arg (k := 1) (kn := 1) C hS hl rfl (by omega) dL_law_303 dL_law_304 dL_law_305 dL_law_306 dL_law_307 ?_
  refine lw_arg (k := 2) (kn := 2) C hS hl rfl (by omega) dL_law_308 dL_law_309 dL_law_310 dL_law_311 dL_law_312 ?_
  refine lw_arg (k := 3) (kn := 3) C hS hl rfl (by omega) dL_law_313 dL_law_314 dL_law_315 dL_law_316 dL_law_317 ?_
  refine lw_call (avs := [.inl ((xs (i + 1)).toInt), .inl ((xs (i + 2)).toInt), .inl ((xs (i + 3)).toInt)]) (rest := [.int (zI r)]) zx64 C yw_136 rfl (by have k9 := kX11_joint τ 0 ((xs (i + 1)).toInt) ((xs (i + 2)).toInt) ((xs (i + 3)).toInt); rw [e2] at k9; exact k9) hT1.symm (zR_n hr).2 hW2 (fun v hv => by simp only [List.mem_cons, List.not_mem_nil, or_false] at hv; rcases hv with rfl | rfl | rfl <;> exact (by first | exact zin_x _ | exact zin_b _)) hS hl.1 rfl (Nat.le_of_ble_eq_true rfl) dL_law_318 ⟨⟨by decide, by decide⟩, by show _ ≤ 624092; omega, by show _ ≤ 7229972; omega⟩ fun ψ1 H2 locs2 hT2 hE2 hS => ?_
  refine lv_icmp_eq (tgt := 1293) hx hb dL_law_321 (by decide) (fun _ => ?_) (fun q => absurd rfl q)
  refine W.widen (k := 106 + i) (n := 3060 + 10 * i) (by omega) (by omega) ?_
  exact hn φ1 σ1 ψ1 τ1 H2 locs2 hT2.symm hr1 (hE1.1 0 0 (Or.inl ⟨by decide, (zR_n hr).1⟩)) (hE2.1 64 0 (Or.inl ⟨by decide, (zR_n hr).2⟩)) ((hE1.1 1000 0 (Or.inr (by decide))).trans hW1) ((hE2.1 1000 0 (Or.inr (by decide))).trans hW2) hS ls hl
set_option maxHeartbeats 4000000 in
set_option maxRecDepth 20000 in
theorem law_c2 {p : Program} {l : Launch} {e : Env} {s : State} {m : MethodId} {below : List Frame} {meth : Method} {c : Code} {D : va_G} {dA : Nat → ClassId} {b L tW i : Nat} {xs : Nat → Int32} {φ ψ : zF} {σ τ : zS} {H : Heap} {locs : List Loc} {ls : Array Slot} (C : lwC p s m meth c D dA b L tW xs) (hT : zTwo D dA (lwA s) φ σ ψ τ H) (hr : zR σ τ) (hW1 : φ 1000 0 = tW) (hW2 : ψ 1000 0 = tW) (hS : va_S (lwA s) s.heap H locs) (hi : i + 6 ≤ L) (hl : lv_has ls 4 [(0, .ref b), (1, .ref (φ 0 0)), (2, .ref (ψ 64 0)), (3, .int (nI i))]) (hn : lwN p l e s m below meth c D dA b L tW xs i (φ 0 0) (ψ 64 0)) : W p l e room_1 s m #[Value.ref b] below meth c H locs (100 + i) (3000 + 10 * i) (lw_Z below #[Value.ref b] s) (F0 m 326 ls []) := by
  obtain ⟨hx, hb, -⟩ := id C
  have hL9 : L ≤ 3072 := C.2.2.2.2.2.2.2.2.2.2.2.2
  obtain ⟨r, σ1, τ1, e1, e2, hr1⟩ := P_about hr (nf := 5000) (by decide) ((xs (i + 1)).toInt) ((xs (i + 2)).toInt) (zin_x _) (zin_x _)
  refine lv_aload_n hx hb dL_law_326 rfl (lv_at hl 1 rfl) ?_
  refine lw_arg (k := 1) (kn := 1) C hS hl rfl (by omega) dL_law_327 dL_law_328 dL_law_329 dL_law_330 dL_law_331 ?_
  refine lw_arg (k := 2) (kn := 2) C hS hl rfl (by omega) dL_law_332 dL_law_333 dL_law_334 dL_law_335 dL_law_336 ?_
  refine lw_call (avs := [.inl ((xs (i + 1)).toInt), .inl ((xs (i + 2)).toInt)]) (rest := []) zx0 C yw_137 rfl (by have k9 := kX10_about σ 0 ((xs (i + 1)).toInt) ((xs (i + 2)).toInt); rw [e1] at k9; exact k9) hT (zR_n hr).1 hW1 (fun v hv => by simp only [List.mem_cons, List.not_mem_nil, or_false] at hv; rcases hv with rfl | rfl <;> exact (by first | exact zin_x _ | exact zin_b _)) hS hl.1 rfl (Nat.le_of_ble_eq_true rfl) dL_law_337 ⟨⟨by decide, by decide⟩, by show _ ≤ 624092; omega, by show _ ≤ 7229972; omega⟩ fun φ1 H1 locs1 hT1 hE1 hS => ?_
  refine lv_aload_n hx hb dL_law_340 rfl (lv_at hl 2 rfl) ?_
  refine lw_arg (k := 1) (kn := 1) C hS hl rfl (by omega) dL_law_341 dL_law_342 dL_law_343 dL_law_344 dL_law_345 ?_
  refine lw_arg (k := 2) (kn := 2) C hS hl rfl (by omega) dL_law_346 dL_law_347 dL_law_348 dL_law_349 dL_law_350 ?_
  refine lw_call (avs := [.inl ((xs (i + 1)).toInt), .inl ((xs (i + 2)).toInt)]) (rest := [.int (zI r)]) zx64 C yw_138 rfl (by have k9 := kX11_about τ 0 ((xs (i + 1)).toInt) ((xs (i + 2)).toInt); rw [e2] at k9; exact k9) hT1.symm (zR_n hr).2 hW2 (fun v hv => by simp only [List.mem_cons, List.not_mem_nil, or_false] at hv; rcases hv with rfl | rfl <;> exact (by first | exact zin_x _ | exact zin_b _)) hS hl.1 rfl (Nat.le_of_ble_eq_true rfl) dL_law_351 ⟨⟨by decide, by decide⟩, by show _ ≤ 624092; omega, by show _ ≤ 7229972; omega⟩ fun ψ1 H2 locs2 hT2 hE2 hS => ?_
  refine lv_icmp_eq (tgt := 1293) hx hb dL_law_354 (by decide) (fun _ => ?_) (fun q => absurd rfl q)
  refine W.widen (k := 106 + i) (n := 3060 + 10 * i) (by omega) (by omega) ?_
  exact hn φ1 σ1 ψ1 τ1 H2 locs2 hT2.symm hr1 (hE1.1 0 0 (Or.inl ⟨by decide, (zR_n hr).1⟩)) (hE2.1 64 0 (Or.inl ⟨by decide, (zR_n hr).2⟩)) ((hE1.1 1000 0 (Or.inr (by decide))).trans hW1) ((hE2.1 1000 0 (Or.inr (by decide))).trans hW2) hS ls hl
set_option maxHeartbeats 4000000 in
set_option maxRecDepth 20000 in
theorem law_c3 {p : Program} {l : Launch} {e : Env} {s : State} {m : MethodId} {below : List Frame} {meth : Method} {c : Code} {D : va_G} {dA : Nat → ClassId} {b L tW i : Nat} {xs : Nat → Int32} {φ ψ : zF} {σ τ : zS} {H : Heap} {locs : List Loc} {ls : Array Slot} (C : lwC p s m meth c D dA b L tW xs) (hT : zTwo D dA (lwA s) φ σ ψ τ H) (hr : zR σ τ) (hW1 : φ 1000 0 = tW) (hW2 : ψ 1000 0 = tW) (hS : va_S (lwA s) s.heap H locs) (hi : i + 6 ≤ L) (hl : lv_has ls 4 [(0, .ref b), (1, .ref (φ 0 0)), (2, .ref (ψ 64 0)), (3, .int (nI i))]) (hn : lwN p l e s m below meth c D dA b L tW xs i (φ 0 0) (ψ 64 0)) : W p l e room_1 s m #[Value.ref b] below meth c H locs (100 + i) (3000 + 10 * i) (lw_Z below #[Value.ref b] s) (F0 m 359 ls []) := by
  obtain ⟨hx, hb, -⟩ := id C
  have hL9 : L ≤ 3072 := C.2.2.2.2.2.2.2.2.2.2.2.2
  obtain ⟨r, σ1, τ1, e1, e2, hr1⟩ := P_cord hr (nf := 5000) (by decide) ((xs (i + 1)).toInt) (if (xs (i + 2)).toInt = 0 then 0 else 1) (zin_x _) (b01 _)
  refine lv_aload_n hx hb dL_law_359 rfl (lv_at hl 1 rfl) ?_
  refine lw_arg (k := 1) (kn := 1) C hS hl rfl (by omega) dL_law_360 dL_law_361 dL_law_362 dL_law_363 dL_law_364 ?_
  refine lw_arg (k := 2) (kn := 2) C hS hl rfl (by omega) dL_law_365 dL_law_366 dL_law_367 dL_law_368 dL_law_369 ?_
  refine lw_bool C (zin_x _) dL_law_370 dL_law_373 dL_law_374 dL_law_377 ?_
  refine lw_call (avs := [.inl ((xs (i + 1)).toInt), .inl (if (xs (i + 2)).toInt = 0 then 0 else 1)]) (rest := []) zx0 C yw_139 rfl (by have k9 := kX10_cord σ 0 ((xs (i + 1)).toInt) (if (xs (i + 2)).toInt = 0 then 0 else 1); rw [e1] at k9; exact k9) hT (zR_n hr).1 hW1 (fun v hv => by simp only [List.mem_cons, List.not_mem_nil, or_false] at hv; rcases hv with rfl | rfl <;> exact (by first | exact zin_x _ | exact zin_b _)) hS hl.1 rfl (Nat.le_of_ble_eq_true rfl) dL_law_378 ⟨⟨by decide, by decide⟩, by show _ ≤ 624092; omega, by show _ ≤ 7229972; omega⟩ fun φ1 H1 locs1 hT1 hE1 hS => ?_
  refine lv_aload_n hx hb dL_law_381 rfl (lv_at hl 2 rfl) ?_
  refine lw_arg (k := 1) (kn := 1) C hS hl rfl (by omega) dL_law_382 dL_law_383 dL_law_384 dL_law_385 dL_law_386 ?_
  refine lw_arg (k := 2) (kn := 2) C hS hl rfl (by omega) dL_law_387 dL_law_388 dL_law_389 dL_law_390 dL_law_391 ?_
  refine lw_bool C (zin_x _) dL_law_392 dL_law_395 dL_law_396 dL_law_399 ?_
  refine lw_call (avs := [.inl ((xs (i + 1)).toInt), .inl (if (xs (i + 2)).toInt = 0 then 0 else 1)]) (rest := [.int (zI r)]) zx64 C yw_140 rfl (by have k9 := kX11_cord τ 0 ((xs (i + 1)).toInt) (if (xs (i + 2)).toInt = 0 then 0 else 1); rw [e2] at k9; exact k9) hT1.symm (zR_n hr).2 hW2 (fun v hv => by simp only [List.mem_cons, List.not_mem_nil, or_false] at hv; rcases hv with rfl | rfl <;> exact (by first | exact zin_x _ | exact zin_b _)) hS hl.1 rfl (Nat.le_of_ble_eq_true rfl) dL_law_400 ⟨⟨by decide, by decide⟩, by show _ ≤ 624092; omega, by show _ ≤ 7229972; omega⟩ fun ψ1 H2 locs2 hT2 hE2 hS => ?_
  refine lv_icmp_eq (tgt := 1293) hx hb dL_law_403 (by decide) (fun _ => ?_) (fun q => absurd rfl q)
  refine W.widen (k := 106 + i) (n := 3060 + 10 * i) (by omega) (by omega) ?_
  exact hn φ1 σ1 ψ1 τ1 H2 locs2 hT2.symm hr1 (hE1.1 0 0 (Or.inl ⟨by decide, (zR_n hr).1⟩)) (hE2.1 64 0 (Or.inl ⟨by decide, (zR_n hr).2⟩)) ((hE1.1 1000 0 (Or.inr (by decide))).trans hW1) ((hE2.1 1000 0 (Or.inr (by decide))).trans hW2) hS ls hl
set_option maxHeartbeats 4000000 in
set_option maxRecDepth 20000 in
theorem law_c4 {p : Program} {l : Launch} {e : Env} {s : State} {m : MethodId} {below : List Frame} {meth : Method} {c : Code} {D : va_G} {dA : Nat → ClassId} {b L tW i : Nat} {xs : Nat → Int32} {φ ψ : zF} {σ τ : zS} {H : Heap} {locs : List Loc} {ls : Array Slot} (C : lwC p s m meth c D dA b L tW xs) (hT : zTwo D dA (lwA s) φ σ ψ τ H) (hr : zR σ τ) (hW1 : φ 1000 0 = tW) (hW2 : ψ 1000 0 = tW) (hS : va_S (lwA s) s.heap H locs) (hi : i + 6 ≤ L) (hl : lv_has ls 4 [(0, .ref b), (1, .ref (φ 0 0)), (2, .ref (ψ 64 0)), (3, .int (nI i))]) (hn : lwN p l e s m below meth c D dA b L tW xs i (φ 0 0) (ψ 64 0)) : W p l e room_1 s m #[Value.ref b] below meth c H locs (100 + i) (3000 + 10 * i) (lw_Z below #[Value.ref b] s) (F0 m 408 ls []) := by
  obtain ⟨hx, hb, -⟩ := id C
  have hL9 : L ≤ 3072 := C.2.2.2.2.2.2.2.2.2.2.2.2
  obtain ⟨r, σ1, τ1, e1, e2, hr1⟩ := P_cup hr (nf := 5000) (by decide) ((xs (i + 1)).toInt) (zin_x _)
  refine lv_aload_n hx hb dL_law_408 rfl (lv_at hl 1 rfl) ?_
  refine lw_arg (k := 1) (kn := 1) C hS hl rfl (by omega) dL_law_409 dL_law_410 dL_law_411 dL_law_412 dL_law_413 ?_
  refine lw_call (avs := [.inl ((xs (i + 1)).toInt)]) (rest := []) zx0 C yw_141 rfl (by have k9 := kX10_cup σ 0 ((xs (i + 1)).toInt); rw [e1] at k9; exact k9) hT (zR_n hr).1 hW1 (fun v hv => by simp only [List.mem_cons, List.not_mem_nil, or_false] at hv; rcases hv with rfl <;> exact (by first | exact zin_x _ | exact zin_b _)) hS hl.1 rfl (Nat.le_of_ble_eq_true rfl) dL_law_414 ⟨⟨by decide, by decide⟩, by show _ ≤ 624092; omega, by show _ ≤ 7229972; omega⟩ fun φ1 H1 locs1 hT1 hE1 hS => ?_
  refine lv_aload_n hx hb dL_law_417 rfl (lv_at hl 2 rfl) ?_
  refine lw_arg (k := 1) (kn := 1) C hS hl rfl (by omega) dL_law_418 dL_law_419 dL_law_420 dL_law_421 dL_law_422 ?_
  refine lw_call (avs := [.inl ((xs (i + 1)).toInt)]) (rest := [.int (zI r)]) zx64 C yw_142 rfl (by have k9 := kX11_cup τ 0 ((xs (i + 1)).toInt); rw [e2] at k9; exact k9) hT1.symm (zR_n hr).2 hW2 (fun v hv => by simp only [List.mem_cons, List.not_mem_nil, or_false] at hv; rcases hv with rfl <;> exact (by first | exact zin_x _ | exact zin_b _)) hS hl.1 rfl (Nat.le_of_ble_eq_true rfl) dL_law_423 ⟨⟨by decide, by decide⟩, by show _ ≤ 624092; omega, by show _ ≤ 7229972; omega⟩ fun ψ1 H2 locs2 hT2 hE2 hS => ?_
  refine lv_icmp_eq (tgt := 1293) hx hb dL_law_426 (by decide) (fun _ => ?_) (fun q => absurd rfl q)
  refine W.widen (k := 106 + i) (n := 3060 + 10 * i) (by omega) (by omega) ?_
  exact hn φ1 σ1 ψ1 τ1 H2 locs2 hT2.symm hr1 (hE1.1 0 0 (Or.inl ⟨by decide, (zR_n hr).1⟩)) (hE2.1 64 0 (Or.inl ⟨by decide, (zR_n hr).2⟩)) ((hE1.1 1000 0 (Or.inr (by decide))).trans hW1) ((hE2.1 1000 0 (Or.inr (by decide))).trans hW2) hS ls hl
set_option maxHeartbeats 4000000 in
set_option maxRecDepth 20000 in
theorem law_c5 {p : Program} {l : Launch} {e : Env} {s : State} {m : MethodId} {below : List Frame} {meth : Method} {c : Code} {D : va_G} {dA : Nat → ClassId} {b L tW i : Nat} {xs : Nat → Int32} {φ ψ : zF} {σ τ : zS} {H : Heap} {locs : List Loc} {ls : Array Slot} (C : lwC p s m meth c D dA b L tW xs) (hT : zTwo D dA (lwA s) φ σ ψ τ H) (hr : zR σ τ) (hW1 : φ 1000 0 = tW) (hW2 : ψ 1000 0 = tW) (hS : va_S (lwA s) s.heap H locs) (hi : i + 6 ≤ L) (hl : lv_has ls 4 [(0, .ref b), (1, .ref (φ 0 0)), (2, .ref (ψ 64 0)), (3, .int (nI i))]) (hn : lwN p l e s m below meth c D dA b L tW xs i (φ 0 0) (ψ 64 0)) : W p l e room_1 s m #[Value.ref b] below meth c H locs (100 + i) (3000 + 10 * i) (lw_Z below #[Value.ref b] s) (F0 m 431 ls []) := by
  obtain ⟨hx, hb, -⟩ := id C
  have hL9 : L ≤ 3072 := C.2.2.2.2.2.2.2.2.2.2.2.2
  obtain ⟨r, σ1, τ1, e1, e2, hr1⟩ := P_clerk hr (nf := 5000) (by decide) ((xs (i + 1)).toInt) (zin_x _)
  refine lv_aload_n hx hb dL_law_431 rfl (lv_at hl 1 rfl) ?_
  refine lw_arg (k := 1) (kn := 1) C hS hl rfl (by omega) dL_law_432 dL_law_433 dL_law_434 dL_law_435 dL_law_436 ?_
  refine lw_call (avs := [.inl ((xs (i + 1)).toInt)]) (rest := []) zx0 C yw_143 rfl (by have k9 := kX10_clerk σ 0 ((xs (i + 1)).toInt); rw [e1] at k9; exact k9) hT (zR_n hr).1 hW1 (fun v hv => by simp only [List.mem_cons, List.not_mem_nil, or_false] at hv; rcases hv with rfl <;> exact (by first | exact zin_x _ | exact zin_b _)) hS hl.1 rfl (Nat.le_of_ble_eq_true rfl) dL_law_437 ⟨⟨by decide, by decide⟩, by show _ ≤ 624092; omega, by show _ ≤ 7229972; omega⟩ fun φ1 H1 locs1 hT1 hE1 hS => ?_
  refine lv_aload_n hx hb dL_law_440 rfl (lv_at hl 2 rfl) ?_
  refine lw_arg (k := 1) (kn := 1) C hS hl rfl (by omega) dL_law_441 dL_law_442 dL_law_443 dL_law_444 dL_law_445 ?_
  refine lw_call (avs := [.inl ((xs (i + 1)).toInt)]) (rest := [.int (zI r)]) zx64 C yw_144 rfl (by have k9 := kX11_clerk τ 0 ((xs (i + 1)).toInt); rw [e2] at k9; exact k9) hT1.symm (zR_n hr).2 hW2 (fun v hv => by simp only [List.mem_cons, List.not_mem_nil, or_false] at hv; rcases hv with rfl <;> exact (by first | exact zin_x _ | exact zin_b _)) hS hl.1 rfl (Nat.le_of_ble_eq_true rfl) dL_law_446 ⟨⟨by decide, by decide⟩, by show _ ≤ 624092; omega, by show _ ≤ 7229972; omega⟩ fun ψ1 H2 locs2 hT2 hE2 hS => ?_
  refine lv_icmp_eq (tgt := 1293) hx hb dL_law_449 (by decide) (fun _ => ?_) (fun q => absurd rfl q)
  refine W.widen (k := 106 + i) (n := 3060 + 10 * i) (by omega) (by omega) ?_
  exact hn φ1 σ1 ψ1 τ1 H2 locs2 hT2.symm hr1 (hE1.1 0 0 (Or.inl ⟨by decide, (zR_n hr).1⟩)) (hE2.1 64 0 (Or.inl ⟨by decide, (zR_n hr).2⟩)) ((hE1.1 1000 0 (Or.inr (by decide))).trans hW1) ((hE2.1 1000 0 (Or.inr (by decide))).trans hW2) hS ls hl
set_option maxHeartbeats 4000000 in
set_option maxRecDepth 20000 in
theorem law_c6 {p : Program} {l : Launch} {e : Env} {s : State} {m : MethodId} {below : List Frame} {meth : Method} {c : Code} {D : va_G} {dA : Nat → ClassId} {b L tW i : Nat} {xs : Nat → Int32} {φ ψ : zF} {σ τ : zS} {H : Heap} {locs : List Loc} {ls : Array Slot} (C : lwC p s m meth c D dA b L tW xs) (hT : zTwo D dA (lwA s) φ σ ψ τ H) (hr : zR σ τ) (hW1 : φ 1000 0 = tW) (hW2 : ψ 1000 0 = tW) (hS : va_S (lwA s) s.heap H locs) (hi : i + 6 ≤ L) (hl : lv_has ls 4 [(0, .ref b), (1, .ref (φ 0 0)), (2, .ref (ψ 64 0)), (3, .int (nI i))]) (hn : lwN p l e s m below meth c D dA b L tW xs i (φ 0 0) (ψ 64 0)) : W p l e room_1 s m #[Value.ref b] below meth c H locs (100 + i) (3000 + 10 * i) (lw_Z below #[Value.ref b] s) (F0 m 454 ls []) := by
  obtain ⟨hx, hb, -⟩ := id C
  have hL9 : L ≤ 3072 := C.2.2.2.2.2.2.2.2.2.2.2.2
  obtain ⟨r, σ1, τ1, e1, e2, hr1⟩ := P_order hr (nf := 5000) (by decide) ((xs (i + 1)).toInt) (zin_x _)
  refine lv_aload_n hx hb dL_law_454 rfl (lv_at hl 1 rfl) ?_
  refine lw_arg (k := 1) (kn := 1) C hS hl rfl (by omega) dL_law_455 dL_law_456 dL_law_457 dL_law_458 dL_law_459 ?_
  refine lw_call (avs := [.inl ((xs (i + 1)).toInt)]) (rest := []) zx0 C yw_145 rfl (by have k9 := kX10_order σ 0 ((xs (i + 1)).toInt); rw [e1] at k9; exact k9) hT (zR_n hr).1 hW1 (fun v hv => by simp only [List.mem_cons, List.not_mem_nil, or_false] at hv; rcases hv with rfl <;> exact (by first | exact zin_x _ | exact zin_b _)) hS hl.1 rfl (Nat.le_of_ble_eq_true rfl) dL_law_460 ⟨⟨by decide, by decide⟩, by show _ ≤ 624092; omega, by show _ ≤ 7229972; omega⟩ fun φ1 H1 locs1 hT1 hE1 hS => ?_
  refine lv_aload_n hx hb dL_law_463 rfl (lv_at hl 2 rfl) ?_
  refine lw_arg (k := 1) (kn := 1) C hS hl rfl (by omega) dL_law_464 dL_law_465 dL_law_466 dL_law_467 dL_law_468 ?_
  refine lw_call (avs := [.inl ((xs (i + 1)).toInt)]) (rest := [.int (zI r)]) zx64 C yw_146 rfl (by have k9 := kX11_order τ 0 ((xs (i + 1)).toInt); rw [e2] at k9; exact k9) hT1.symm (zR_n hr).2 hW2 (fun v hv => by simp only [List.mem_cons, List.not_mem_nil, or_false] at hv; rcases hv with rfl <;> exact (by first | exact zin_x _ | exact zin_b _)) hS hl.1 rfl (Nat.le_of_ble_eq_true rfl) dL_law_469 ⟨⟨by decide, by decide⟩, by show _ ≤ 624092; omega, by show _ ≤ 7229972; omega⟩ fun ψ1 H2 locs2 hT2 hE2 hS => ?_
  refine lv_icmp_eq (tgt := 1293) hx hb dL_law_472 (by decide) (fun _ => ?_) (fun q => absurd rfl q)
  refine W.widen (k := 106 + i) (n := 3060 + 10 * i) (by omega) (by omega) ?_
  exact hn φ1 σ1 ψ1 τ1 H2 locs2 hT2.symm hr1 (hE1.1 0 0 (Or.inl ⟨by decide, (zR_n hr).1⟩)) (hE2.1 64 0 (Or.inl ⟨by decide, (zR_n hr).2⟩)) ((hE1.1 1000 0 (Or.inr (by decide))).trans hW1) ((hE2.1 1000 0 (Or.inr (by decide))).trans hW2) hS ls hl
set_option maxHeartbeats 4000000 in
set_option maxRecDepth 20000 in
theorem law_c7 {p : Program} {l : Launch} {e : Env} {s : State} {m : MethodId} {below : List Frame} {meth : Method} {c : Code} {D : va_G} {dA : Nat → ClassId} {b L tW i : Nat} {xs : Nat → Int32} {φ ψ : zF} {σ τ : zS} {H : Heap} {locs : List Loc} {ls : Array Slot} (C : lwC p s m meth c D dA b L tW xs) (hT : zTwo D dA (lwA s) φ σ ψ τ H) (hr : zR σ τ) (hW1 : φ 1000 0 = tW) (hW2 : ψ 1000 0 = tW) (hS : va_S (lwA s) s.heap H locs) (hi : i + 6 ≤ L) (hl : lv_has ls 4 [(0, .ref b), (1, .ref (φ 0 0)), (2, .ref (ψ 64 0)), (3, .int (nI i))]) (hn : lwN p l e s m below meth c D dA b L tW xs i (φ 0 0) (ψ 64 0)) : W p l e room_1 s m #[Value.ref b] below meth c H locs (100 + i) (3000 + 10 * i) (lw_Z below #[Value.ref b] s) (F0 m 477 ls []) := by
  obtain ⟨hx, hb, -⟩ := id C
  have hL9 : L ≤ 3072 := C.2.2.2.2.2.2.2.2.2.2.2.2
  obtain ⟨r, σ1, τ1, e1, e2, hr1⟩ := P_drawer hr (nf := 5000) (by decide) ((xs (i + 1)).toInt) ((xs (i + 2)).toInt) (zin_x _) (zin_x _)
  refine lv_aload_n hx hb dL_law_477 rfl (lv_at hl 1 rfl) ?_
  refine lw_arg (k := 1) (kn := 1) C hS hl rfl (by omega) dL_law_478 dL_law_479 dL_law_480 dL_law_481 dL_law_482 ?_
  refine lw_arg (k := 2) (kn := 2) C hS hl rfl (by omega) dL_law_483 dL_law_484 dL_law_485 dL_law_486 dL_law_487 ?_
  refine lw_call (avs := [.inl ((xs (i + 1)).toInt), .inl ((xs (i + 2)).toInt)]) (rest := []) zx0 C yw_147 rfl (by have k9 := kX10_drawer σ 0 ((xs (i + 1)).toInt) ((xs (i + 2)).toInt); rw [e1] at k9; exact k9) hT (zR_n hr).1 hW1 (fun v hv => by simp only [List.mem_cons, List.not_mem_nil, or_false] at hv; rcases hv with rfl | rfl <;> exact (by first | exact zin_x _ | exact zin_b _)) hS hl.1 rfl (Nat.le_of_ble_eq_true rfl) dL_law_488 ⟨⟨by decide, by decide⟩, by show _ ≤ 624092; omega, by show _ ≤ 7229972; omega⟩ fun φ1 H1 locs1 hT1 hE1 hS => ?_
  refine lv_aload_n hx hb dL_law_491 rfl (lv_at hl 2 rfl) ?_
  refine lw_arg (k := 1) (kn := 1) C hS hl rfl (by omega) dL_law_492 dL_law_493 dL_law_494 dL_law_495 dL_law_496 ?_
  refine lw_arg (k := 2) (kn := 2) C hS hl rfl (by omega) dL_law_497 dL_law_498 dL_law_499 dL_law_500 dL_law_501 ?_
  refine lw_call (avs := [.inl ((xs (i + 1)).toInt), .inl ((xs (i + 2)).toInt)]) (rest := [.int (zI r)]) zx64 C yw_148 rfl (by have k9 := kX11_drawer τ 0 ((xs (i + 1)).toInt) ((xs (i + 2)).toInt); rw [e2] at k9; exact k9) hT1.symm (zR_n hr).2 hW2 (fun v hv => by simp only [List.mem_cons, List.not_mem_nil, or_false] at hv; rcases hv with rfl | rfl <;> exact (by first | exact zin_x _ | exact zin_b _)) hS hl.1 rfl (Nat.le_of_ble_eq_true rfl) dL_law_502 ⟨⟨by decide, by decide⟩, by show _ ≤ 624092; omega, by show _ ≤ 7229972; omega⟩ fun ψ1 H2 locs2 hT2 hE2 hS => ?_
  refine lv_icmp_eq (tgt := 1293) hx hb dL_law_505 (by decide) (fun _ => ?_) (fun q => absurd rfl q)
  refine W.widen (k := 106 + i) (n := 3060 + 10 * i) (by omega) (by omega) ?_
  exact hn φ1 σ1 ψ1 τ1 H2 locs2 hT2.symm hr1 (hE1.1 0 0 (Or.inl ⟨by decide, (zR_n hr).1⟩)) (hE2.1 64 0 (Or.inl ⟨by decide, (zR_n hr).2⟩)) ((hE1.1 1000 0 (Or.inr (by decide))).trans hW1) ((hE2.1 1000 0 (Or.inr (by decide))).trans hW2) hS ls hl
set_option maxHeartbeats 4000000 in
set_option maxRecDepth 20000 in
theorem law_c8 {p : Program} {l : Launch} {e : Env} {s : State} {m : MethodId} {below : List Frame} {meth : Method} {c : Code} {D : va_G} {dA : Nat → ClassId} {b L tW i : Nat} {xs : Nat → Int32} {φ ψ : zF} {σ τ : zS} {H : Heap} {locs : List Loc} {ls : Array Slot} (C : lwC p s m meth c D dA b L tW xs) (hT : zTwo D dA (lwA s) φ σ ψ τ H) (hr : zR σ τ) (hW1 : φ 1000 0 = tW) (hW2 : ψ 1000 0 = tW) (hS : va_S (lwA s) s.heap H locs) (hi : i + 6 ≤ L) (hl : lv_has ls 4 [(0, .ref b), (1, .ref (φ 0 0)), (2, .ref (ψ 64 0)), (3, .int (nI i))]) (hn : lwN p l e s m below meth c D dA b L tW xs i (φ 0 0) (ψ 64 0)) : W p l e room_1 s m #[Value.ref b] below meth c H locs (100 + i) (3000 + 10 * i) (lw_Z below #[Value.ref b] s) (F0 m 510 ls []) := by
  obtain ⟨hx, hb, -⟩ := id C
  have hL9 : L ≤ 3072 := C.2.2.2.2.2.2.2.2.2.2.2.2
  obtain ⟨r, σ1, τ1, e1, e2, hr1⟩ := P_fetch hr (nf := 5000) (by decide) ((xs (i + 1)).toInt) ((xs (i + 2)).toInt) ((xs (i + 3)).toInt) (zin_x _) (zin_x _) (zin_x _)
  refine lv_aload_n hx hb dL_law_510 rfl (lv_at hl 1 rfl) ?_
  refine lw_arg (k := 1) (kn := 1) C hS hl rfl (by omega) dL_law_511 dL_law_512 dL_law_513 dL_law_514 dL_law_515 ?_
  refine lw_arg (k := 2) (kn := 2) C hS hl rfl (by omega) dL_law_516 dL_law_517 dL_law_518 dL_law_519 dL_law_520 ?_
  refine lw_arg (k := 3) (kn := 3) C hS hl rfl (by omega) dL_law_521 dL_law_522 dL_law_523 dL_law_524 dL_law_525 ?_
  refine lw_call (avs := [.inl ((xs (i + 1)).toInt), .inl ((xs (i + 2)).toInt), .inl ((xs (i + 3)).toInt)]) (rest := []) zx0 C yw_149 rfl (by have k9 := kX10_fetch σ 0 ((xs (i + 1)).toInt) ((xs (i + 2)).toInt) ((xs (i + 3)).toInt); rw [e1] at k9; exact k9) hT (zR_n hr).1 hW1 (fun v hv => by simp only [List.mem_cons, List.not_mem_nil, or_false] at hv; rcases hv with rfl | rfl | rfl <;> exact (by first | exact zin_x _ | exact zin_b _)) hS hl.1 rfl (Nat.le_of_ble_eq_true rfl) dL_law_526 ⟨⟨by decide, by decide⟩, by show _ ≤ 624092; omega, by show _ ≤ 7229972; omega⟩ fun φ1 H1 locs1 hT1 hE1 hS => ?_
  refine lv_aload_n hx hb dL_law_529 rfl (lv_at hl 2 rfl) ?_
  refine lw_arg (k := 1) (kn := 1) C hS hl rfl (by omega) dL_law_530 dL_law_531 dL_law_532 dL_law_533 dL_law_534 ?_
  refine lw_arg (k := 2) (kn := 2) C hS hl rfl (by omega) dL_law_535 dL_law_536 dL_law_537 dL_law_538 dL_law_539 ?_
  refine lw_arg (k := 3) (kn := 3) C hS hl rfl (by omega) dL_law_540 dL_law_541 dL_law_542 dL_law_543 dL_law_544 ?_
  refine lw_call (avs := [.inl ((xs (i + 1)).toInt), .inl ((xs (i + 2)).toInt), .inl ((xs (i + 3)).toInt)]) (rest := [.int (zI r)]) zx64 C yw_150 rfl (by have k9 := kX11_fetch τ 0 ((xs (i + 1)).toInt) ((xs (i + 2)).toInt) ((xs (i + 3)).toInt); rw [e2] at k9; exact k9) hT1.symm (zR_n hr).2 hW2 (fun v hv => by simp only [List.mem_cons, List.not_mem_nil, or_false] at hv; rcases hv with rfl | rfl | rfl <;> exact (by first | exact zin_x _ | exact zin_b _)) hS hl.1 rfl (Nat.le_of_ble_eq_true rfl) dL_law_545 ⟨⟨by decide, by decide⟩, by show _ ≤ 624092; omega, by show _ ≤ 7229972; omega⟩ fun ψ1 H2 locs2 hT2 hE2 hS => ?_
  refine lv_icmp_eq (tgt := 1293) hx hb dL_law_548 (by decide) (fun _ => ?_) (fun q => absurd rfl q)
  refine W.widen (k := 106 + i) (n := 3060 + 10 * i) (by omega) (by omega) ?_
  exact hn φ1 σ1 ψ1 τ1 H2 locs2 hT2.symm hr1 (hE1.1 0 0 (Or.inl ⟨by decide, (zR_n hr).1⟩)) (hE2.1 64 0 (Or.inl ⟨by decide, (zR_n hr).2⟩)) ((hE1.1 1000 0 (Or.inr (by decide))).trans hW1) ((hE2.1 1000 0 (Or.inr (by decide))).trans hW2) hS ls hl
set_option maxHeartbeats 4000000 in
set_option maxRecDepth 20000 in
theorem law_c9 {p : Program} {l : Launch} {e : Env} {s : State} {m : MethodId} {below : List Frame} {meth : Method} {c : Code} {D : va_G} {dA : Nat → ClassId} {b L tW i : Nat} {xs : Nat → Int32} {φ ψ : zF} {σ τ : zS} {H : Heap} {locs : List Loc} {ls : Array Slot} (C : lwC p s m meth c D dA b L tW xs) (hT : zTwo D dA (lwA s) φ σ ψ τ H) (hr : zR σ τ) (hW1 : φ 1000 0 = tW) (hW2 : ψ 1000 0 = tW) (hS : va_S (lwA s) s.heap H locs) (hi : i + 6 ≤ L) (hl : lv_has ls 4 [(0, .ref b), (1, .ref (φ 0 0)), (2, .ref (ψ 64 0)), (3, .int (nI i))]) (hn : lwN p l e s m below meth c D dA b L tW xs i (φ 0 0) (ψ 64 0)) : W p l e room_1 s m #[Value.ref b] below meth c H locs (100 + i) (3000 + 10 * i) (lw_Z below #[Value.ref b] s) (F0 m 553 ls []) := by
  obtain ⟨hx, hb, -⟩ := id C
  have hL9 : L ≤ 3072 := C.2.2.2.2.2.2.2.2.2.2.2.2
  obtain ⟨r, σ1, τ1, e1, e2, hr1⟩ := P_send hr (nf := 5000) (by decide) ((xs (i + 1)).toInt) ((xs (i + 2)).toInt) ((xs (i + 3)).toInt) ((xs (i + 4)).toInt) (zin_x _) (zin_x _) (zin_x _) (zin_x _)
  refine lv_aload_n hx hb dL_law_553 rfl (lv_at hl 1 rfl) ?_
  refine lw_arg (k := 1) (kn := 1) C hS hl rfl (by omega) dL_law_554 dL_law_555 dL_law_556 dL_law_557 dL_law_558 ?_
  refine lw_arg (k := 2) (kn := 2) C hS hl rfl (by omega) dL_law_559 dL_law_560 dL_law_561 dL_law_562 dL_law_563 ?_
  refine lw_arg (k := 3) (kn := 3) C hS hl rfl (by omega) dL_law_564 dL_law_565 dL_law_566 dL_law_567 dL_law_568 ?_
  refine lw_arg (k := 4) (kn := 4) C hS hl rfl (by omega) dL_law_569 dL_law_570 dL_law_571 dL_law_572 dL_law_573 ?_
  refine lw_call (avs := [.inl ((xs (i + 1)).toInt), .inl ((xs (i + 2)).toInt), .inl ((xs (i + 3)).toInt), .inl ((xs (i + 4)).toInt)]) (rest := []) zx0 C yw_151 rfl (by have k9 := kX10_send σ 0 ((xs (i + 1)).toInt) ((xs (i + 2)).toInt) ((xs (i + 3)).toInt) ((xs (i + 4)).toInt); rw [e1] at k9; exact k9) hT (zR_n hr).1 hW1 (fun v hv => by simp only [List.mem_cons, List.not_mem_nil, or_false] at hv; rcases hv with rfl | rfl | rfl | rfl <;> exact (by first | exact zin_x _ | exact zin_b _)) hS hl.1 rfl (Nat.le_of_ble_eq_true rfl) dL_law_574 ⟨⟨by decide, by decide⟩, by show _ ≤ 624092; omega, by show _ ≤ 7229972; omega⟩ fun φ1 H1 locs1 hT1 hE1 hS => ?_
  refine lv_aload_n hx hb dL_law_577 rfl (lv_at hl 2 rfl) ?_
  refine lw_arg (k := 1) (kn := 1) C hS hl rfl (by omega) dL_law_578 dL_law_579 dL_law_580 dL_law_581 dL_law_582 ?_
  refine lw_arg (k := 2) (kn := 2) C hS hl rfl (by omega) dL_law_583 dL_law_584 dL_law_585 dL_law_586 dL_law_587 ?_
  refine lw_arg (k := 3) (kn := 3) C hS hl rfl (by omega) dL_law_588 dL_law_589 dL_law_590 dL_law_591 dL_law_592 ?_
  refine lw_arg (k := 4) (kn := 4) C hS hl rfl (by omega) dL_law_593 dL_law_594 dL_law_595 dL_law_596 dL_law_597 ?_
  refine lw_call (avs := [.inl ((xs (i + 1)).toInt), .inl ((xs (i + 2)).toInt), .inl ((xs (i + 3)).toInt), .inl ((xs (i + 4)).toInt)]) (rest := [.int (zI r)]) zx64 C yw_152 rfl (by have k9 := kX11_send τ 0 ((xs (i + 1)).toInt) ((xs (i + 2)).toInt) ((xs (i + 3)).toInt) ((xs (i + 4)).toInt); rw [e2] at k9; exact k9) hT1.symm (zR_n hr).2 hW2 (fun v hv => by simp only [List.mem_cons, List.not_mem_nil, or_false] at hv; rcases hv with rfl | rfl | rfl | rfl <;> exact (by first | exact zin_x _ | exact zin_b _)) hS hl.1 rfl (Nat.le_of_ble_eq_true rfl) dL_law_598 ⟨⟨by decide, by decide⟩, by show _ ≤ 624092; omega, by show _ ≤ 7229972; omega⟩ fun ψ1 H2 locs2 hT2 hE2 hS => ?_
  refine lv_icmp_eq (tgt := 1293) hx hb dL_law_601 (by decide) (fun _ => ?_) (fun q => absurd rfl q)
  refine W.widen (k := 106 + i) (n := 3060 + 10 * i) (by omega) (by omega) ?_
  exact hn φ1 σ1 ψ1 τ1 H2 locs2 hT2.symm hr1 (hE1.1 0 0 (Or.inl ⟨by decide, (zR_n hr).1⟩)) (hE2.1 64 0 (Or.inl ⟨by decide, (zR_n hr).2⟩)) ((hE1.1 1000 0 (Or.inr (by decide))).trans hW1) ((hE2.1 1000 0 (Or.inr (by decide))).trans hW2) hS ls hl
set_option maxHeartbeats 4000000 in
set_option maxRecDepth 20000 in
theorem law_c10 {p : Program} {l : Launch} {e : Env} {s : State} {m : MethodId} {below : List Frame} {meth : Method} {c : Code} {D : va_G} {dA : Nat → ClassId} {b L tW i : Nat} {xs : Nat → Int32} {φ ψ : zF} {σ τ : zS} {H : Heap} {locs : List Loc} {ls : Array Slot} (C : lwC p s m meth c D dA b L tW xs) (hT : zTwo D dA (lwA s) φ σ ψ τ H) (hr : zR σ τ) (hW1 : φ 1000 0 = tW) (hW2 : ψ 1000 0 = tW) (hS : va_S (lwA s) s.heap H locs) (hi : i + 6 ≤ L) (hl : lv_has ls 4 [(0, .ref b), (1, .ref (φ 0 0)), (2, .ref (ψ 64 0)), (3, .int (nI i))]) (hn : lwN p l e s m below meth c D dA b L tW xs i (φ 0 0) (ψ 64 0)) : W p l e room_1 s m #[Value.ref b] below meth c H locs (100 + i) (3000 + 10 * i) (lw_Z below #[Value.ref b] s) (F0 m 606 ls []) := by
  obtain ⟨hx, hb, -⟩ := id C
  have hL9 : L ≤ 3072 := C.2.2.2.2.2.2.2.2.2.2.2.2
  obtain ⟨r, σ1, τ1, e1, e2, hr1⟩ := P_resend hr (nf := 5000) (by decide) ((xs (i + 1)).toInt) (zin_x _)
  refine lv_aload_n hx hb dL_law_606 rfl (lv_at hl 1 rfl) ?_
  refine lw_arg (k := 1) (kn := 1) C hS hl rfl (by omega) dL_law_607 dL_law_608 dL_law_609 dL_law_610 dL_law_611 ?_
  refine lw_call (avs := [.inl ((xs (i + 1)).toInt)]) (rest := []) zx0 C yw_153 rfl (by have k9 := kX10_resend σ 0 ((xs (i + 1)).toInt); rw [e1] at k9; exact k9) hT (zR_n hr).1 hW1 (fun v hv => by simp only [List.mem_cons, List.not_mem_nil, or_false] at hv; rcases hv with rfl <;> exact (by first | exact zin_x _ | exact zin_b _)) hS hl.1 rfl (Nat.le_of_ble_eq_true rfl) dL_law_612 ⟨⟨by decide, by decide⟩, by show _ ≤ 624092; omega, by show _ ≤ 7229972; omega⟩ fun φ1 H1 locs1 hT1 hE1 hS => ?_
  refine lv_aload_n hx hb dL_law_615 rfl (lv_at hl 2 rfl) ?_
  refine lw_arg (k := 1) (kn := 1) C hS hl rfl (by omega) dL_law_616 dL_law_617 dL_law_618 dL_law_619 dL_law_620 ?_
  refine lw_call (avs := [.inl ((xs (i + 1)).toInt)]) (rest := [.int (zI r)]) zx64 C yw_154 rfl (by have k9 := kX11_resend τ 0 ((xs (i + 1)).toInt); rw [e2] at k9; exact k9) hT1.symm (zR_n hr).2 hW2 (fun v hv => by simp only [List.mem_cons, List.not_mem_nil, or_false] at hv; rcases hv with rfl <;> exact (by first | exact zin_x _ | exact zin_b _)) hS hl.1 rfl (Nat.le_of_ble_eq_true rfl) dL_law_621 ⟨⟨by decide, by decide⟩, by show _ ≤ 624092; omega, by show _ ≤ 7229972; omega⟩ fun ψ1 H2 locs2 hT2 hE2 hS => ?_
  refine lv_icmp_eq (tgt := 1293) hx hb dL_law_624 (by decide) (fun _ => ?_) (fun q => absurd rfl q)
  refine W.widen (k := 106 + i) (n := 3060 + 10 * i) (by omega) (by omega) ?_
  exact hn φ1 σ1 ψ1 τ1 H2 locs2 hT2.symm hr1 (hE1.1 0 0 (Or.inl ⟨by decide, (zR_n hr).1⟩)) (hE2.1 64 0 (Or.inl ⟨by decide, (zR_n hr).2⟩)) ((hE1.1 1000 0 (Or.inr (by decide))).trans hW1) ((hE2.1 1000 0 (Or.inr (by decide))).trans hW2) hS ls hl
set_option maxHeartbeats 4000000 in
set_option maxRecDepth 20000 in
theorem law_c11 {p : Program} {l : Launch} {e : Env} {s : State} {m : MethodId} {below : List Frame} {meth : Method} {c : Code} {D : va_G} {dA : Nat → ClassId} {b L tW i : Nat} {xs : Nat → Int32} {φ ψ : zF} {σ τ : zS} {H : Heap} {locs : List Loc} {ls : Array Slot} (C : lwC p s m meth c D dA b L tW xs) (hT : zTwo D dA (lwA s) φ σ ψ τ H) (hr : zR σ τ) (hW1 : φ 1000 0 = tW) (hW2 : ψ 1000 0 = tW) (hS : va_S (lwA s) s.heap H locs) (hi : i + 6 ≤ L) (hl : lv_has ls 4 [(0, .ref b), (1, .ref (φ 0 0)), (2, .ref (ψ 64 0)), (3, .int (nI i))]) (hn : lwN p l e s m below meth c D dA b L tW xs i (φ 0 0) (ψ 64 0)) : W p l e room_1 s m #[Value.ref b] below meth c H locs (100 + i) (3000 + 10 * i) (lw_Z below #[Value.ref b] s) (F0 m 629 ls []) := by
  obtain ⟨hx, hb, -⟩ := id C
  have hL9 : L ≤ 3072 := C.2.2.2.2.2.2.2.2.2.2.2.2
  obtain ⟨r, σ1, τ1, e1, e2, hr1⟩ := P_porter hr (nf := 5000) (by decide) ((xs (i + 1)).toInt) (zin_x _)
  refine lv_aload_n hx hb dL_law_629 rfl (lv_at hl 1 rfl) ?_
  refine lw_arg (k := 1) (kn := 1) C hS hl rfl (by omega) dL_law_630 dL_law_631 dL_law_632 dL_law_633 dL_law_634 ?_
  refine lw_call (avs := [.inl ((xs (i + 1)).toInt)]) (rest := []) zx0 C yw_155 rfl (by have k9 := kX10_porter 5000 σ 0 ((xs (i + 1)).toInt); rw [e1] at k9; exact k9) hT (zR_n hr).1 hW1 (fun v hv => by simp only [List.mem_cons, List.not_mem_nil, or_false] at hv; rcases hv with rfl <;> exact (by first | exact zin_x _ | exact zin_b _)) hS hl.1 rfl (Nat.le_of_ble_eq_true rfl) dL_law_635 ⟨⟨by decide, by decide⟩, by show _ ≤ 624092; omega, by show _ ≤ 7229972; omega⟩ fun φ1 H1 locs1 hT1 hE1 hS => ?_
  refine lv_aload_n hx hb dL_law_638 rfl (lv_at hl 2 rfl) ?_
  refine lw_arg (k := 1) (kn := 1) C hS hl rfl (by omega) dL_law_639 dL_law_640 dL_law_641 dL_law_642 dL_law_643 ?_
  refine lw_call (avs := [.inl ((xs (i + 1)).toInt)]) (rest := [.int (zI r)]) zx64 C yw_156 rfl (by have k9 := kX11_porter 5000 τ 0 ((xs (i + 1)).toInt); rw [e2] at k9; exact k9) hT1.symm (zR_n hr).2 hW2 (fun v hv => by simp only [List.mem_cons, List.not_mem_nil, or_false] at hv; rcases hv with rfl <;> exact (by first | exact zin_x _ | exact zin_b _)) hS hl.1 rfl (Nat.le_of_ble_eq_true rfl) dL_law_644 ⟨⟨by decide, by decide⟩, by show _ ≤ 624092; omega, by show _ ≤ 7229972; omega⟩ fun ψ1 H2 locs2 hT2 hE2 hS => ?_
  refine lv_icmp_eq (tgt := 1293) hx hb dL_law_647 (by decide) (fun _ => ?_) (fun q => absurd rfl q)
  refine W.widen (k := 106 + i) (n := 3060 + 10 * i) (by omega) (by omega) ?_
  exact hn φ1 σ1 ψ1 τ1 H2 locs2 hT2.symm hr1 (hE1.1 0 0 (Or.inl ⟨by decide, (zR_n hr).1⟩)) (hE2.1 64 0 (Or.inl ⟨by decide, (zR_n hr).2⟩)) ((hE1.1 1000 0 (Or.inr (by decide))).trans hW1) ((hE2.1 1000 0 (Or.inr (by decide))).trans hW2) hS ls hl
set_option maxHeartbeats 4000000 in
set_option maxRecDepth 20000 in
theorem law_c12 {p : Program} {l : Launch} {e : Env} {s : State} {m : MethodId} {below : List Frame} {meth : Method} {c : Code} {D : va_G} {dA : Nat → ClassId} {b L tW i : Nat} {xs : Nat → Int32} {φ ψ : zF} {σ τ : zS} {H : Heap} {locs : List Loc} {ls : Array Slot} (C : lwC p s m meth c D dA b L tW xs) (hT : zTwo D dA (lwA s) φ σ ψ τ H) (hr : zR σ τ) (hW1 : φ 1000 0 = tW) (hW2 : ψ 1000 0 = tW) (hS : va_S (lwA s) s.heap H locs) (hi : i + 6 ≤ L) (hl : lv_has ls 4 [(0, .ref b), (1, .ref (φ 0 0)), (2, .ref (ψ 64 0)), (3, .int (nI i))]) (hn : lwN p l e s m below meth c D dA b L tW xs i (φ 0 0) (ψ 64 0)) : W p l e room_1 s m #[Value.ref b] below meth c H locs (100 + i) (3000 + 10 * i) (lw_Z below #[Value.ref b] s) (F0 m 652 ls []) := by
  obtain ⟨hx, hb, -⟩ := id C
  have hL9 : L ≤ 3072 := C.2.2.2.2.2.2.2.2.2.2.2.2
  obtain ⟨r, σ1, τ1, e1, e2, hr1⟩ := P_cupAt hr (nf := 5000) (by decide) ((xs (i + 1)).toInt) ((xs (i + 2)).toInt) (zin_x _) (zin_x _)
  refine lv_aload_n hx hb dL_law_652 rfl (lv_at hl 1 rfl) ?_
  refine lw_arg (k := 1) (kn := 1) C hS hl rfl (by omega) dL_law_653 dL_law_654 dL_law_655 dL_law_656 dL_law_657 ?_
  refine lw_arg (k := 2) (kn := 2) C hS hl rfl (by omega) dL_law_658 dL_law_659 dL_law_660 dL_law_661 dL_law_662 ?_
  refine lw_call (avs := [.inl ((xs (i + 1)).toInt), .inl ((xs (i + 2)).toInt)]) (rest := []) zx0 C yw_157 rfl (by have k9 := kX10_cupAt σ 0 ((xs (i + 1)).toInt) ((xs (i + 2)).toInt); rw [e1] at k9; exact k9) hT (zR_n hr).1 hW1 (fun v hv => by simp only [List.mem_cons, List.not_mem_nil, or_false] at hv; rcases hv with rfl | rfl <;> exact (by first | exact zin_x _ | exact zin_b _)) hS hl.1 rfl (Nat.le_of_ble_eq_true rfl) dL_law_663 ⟨⟨by decide, by decide⟩, by show _ ≤ 624092; omega, by show _ ≤ 7229972; omega⟩ fun φ1 H1 locs1 hT1 hE1 hS => ?_
  refine lv_aload_n hx hb dL_law_666 rfl (lv_at hl 2 rfl) ?_
  refine lw_arg (k := 1) (kn := 1) C hS hl rfl (by omega) dL_law_667 dL_law_668 dL_law_669 dL_law_670 dL_law_671 ?_
  refine lw_arg (k := 2) (kn := 2) C hS hl rfl (by omega) dL_law_672 dL_law_673 dL_law_674 dL_law_675 dL_law_676 ?_
  refine lw_call (avs := [.inl ((xs (i + 1)).toInt), .inl ((xs (i + 2)).toInt)]) (rest := [.int (zI r)]) zx64 C yw_158 rfl (by have k9 := kX11_cupAt 5000 τ 0 ((xs (i + 1)).toInt) ((xs (i + 2)).toInt); rw [e2] at k9; exact k9) hT1.symm (zR_n hr).2 hW2 (fun v hv => by simp only [List.mem_cons, List.not_mem_nil, or_false] at hv; rcases hv with rfl | rfl <;> exact (by first | exact zin_x _ | exact zin_b _)) hS hl.1 rfl (Nat.le_of_ble_eq_true rfl) dL_law_677 ⟨⟨by decide, by decide⟩, by show _ ≤ 624092; omega, by show _ ≤ 7229972; omega⟩ fun ψ1 H2 locs2 hT2 hE2 hS => ?_
  refine lv_icmp_eq (tgt := 1293) hx hb dL_law_680 (by decide) (fun _ => ?_) (fun q => absurd rfl q)
  refine W.widen (k := 106 + i) (n := 3060 + 10 * i) (by omega) (by omega) ?_
  exact hn φ1 σ1 ψ1 τ1 H2 locs2 hT2.symm hr1 (hE1.1 0 0 (Or.inl ⟨by decide, (zR_n hr).1⟩)) (hE2.1 64 0 (Or.inl ⟨by decide, (zR_n hr).2⟩)) ((hE1.1 1000 0 (Or.inr (by decide))).trans hW1) ((hE2.1 1000 0 (Or.inr (by decide))).trans hW2) hS ls hl
set_option maxHeartbeats 4000000 in
set_option maxRecDepth 20000 in
theorem law_c13 {p : Program} {l : Launch} {e : Env} {s : State} {m : MethodId} {below : List Frame} {meth : Method} {c : Code} {D : va_G} {dA : Nat → ClassId} {b L tW i : Nat} {xs : Nat → Int32} {φ ψ : zF} {σ τ : zS} {H : Heap} {locs : List Loc} {ls : Array Slot} (C : lwC p s m meth c D dA b L tW xs) (hT : zTwo D dA (lwA s) φ σ ψ τ H) (hr : zR σ τ) (hW1 : φ 1000 0 = tW) (hW2 : ψ 1000 0 = tW) (hS : va_S (lwA s) s.heap H locs) (hi : i + 6 ≤ L) (hl : lv_has ls 4 [(0, .ref b), (1, .ref (φ 0 0)), (2, .ref (ψ 64 0)), (3, .int (nI i))]) (hn : lwN p l e s m below meth c D dA b L tW xs i (φ 0 0) (ψ 64 0)) : W p l e room_1 s m #[Value.ref b] below meth c H locs (100 + i) (3000 + 10 * i) (lw_Z below #[Value.ref b] s) (F0 m 685 ls []) := by
  obtain ⟨hx, hb, -⟩ := id C
  have hL9 : L ≤ 3072 := C.2.2.2.2.2.2.2.2.2.2.2.2
  obtain ⟨r, σ1, τ1, e1, e2, hr1⟩ := P_coins hr (nf := 5000) (by decide) ((xs (i + 1)).toInt) ((xs (i + 2)).toInt) (zin_x _) (zin_x _)
  refine lv_aload_n hx hb dL_law_685 rfl (lv_at hl 1 rfl) ?_
  refine lw_arg (k := 1) (kn := 1) C hS hl rfl (by omega) dL_law_686 dL_law_687 dL_law_688 dL_law_689 dL_law_690 ?_
  refine lw_arg (k := 2) (kn := 2) C hS hl rfl (by omega) dL_law_691 dL_law_692 dL_law_693 dL_law_694 dL_law_695 ?_
  refine lw_call (avs := [.inl ((xs (i + 1)).toInt), .inl ((xs (i + 2)).toInt)]) (rest := []) zx0 C yw_159 rfl (by have k9 := kX10_coins 5000 σ 0 ((xs (i + 1)).toInt) ((xs (i + 2)).toInt); rw [e1] at k9; exact k9) hT (zR_n hr).1 hW1 (fun v hv => by simp only [List.mem_cons, List.not_mem_nil, or_false] at hv; rcases hv with rfl | rfl <;> exact (by first | exact zin_x _ | exact zin_b _)) hS hl.1 rfl (Nat.le_of_ble_eq_true rfl) dL_law_696 ⟨⟨by decide, by decide⟩, by show _ ≤ 624092; omega, by show _ ≤ 7229972; omega⟩ fun φ1 H1 locs1 hT1 hE1 hS => ?_
  refine lv_aload_n hx hb dL_law_699 rfl (lv_at hl 2 rfl) ?_
  refine lw_arg (k := 1) (kn := 1) C hS hl rfl (by omega) dL_law_700 dL_law_701 dL_law_702 dL_law_703 dL_law_704 ?_
  refine lw_arg (k := 2) (kn := 2) C hS hl rfl (by omega) dL_law_705 dL_law_706 dL_law_707 dL_law_708 dL_law_709 ?_
  refine lw_call (avs := [.inl ((xs (i + 1)).toInt), .inl ((xs (i + 2)).toInt)]) (rest := [.int (zI r)]) zx64 C yw_160 rfl (by have k9 := kX11_coins 5000 τ 0 ((xs (i + 1)).toInt) ((xs (i + 2)).toInt); rw [e2] at k9; exact k9) hT1.symm (zR_n hr).2 hW2 (fun v hv => by simp only [List.mem_cons, List.not_mem_nil, or_false] at hv; rcases hv with rfl | rfl <;> exact (by first | exact zin_x _ | exact zin_b _)) hS hl.1 rfl (Nat.le_of_ble_eq_true rfl) dL_law_710 ⟨⟨by decide, by decide⟩, by show _ ≤ 624092; omega, by show _ ≤ 7229972; omega⟩ fun ψ1 H2 locs2 hT2 hE2 hS => ?_
  refine lv_icmp_eq (tgt := 1293) hx hb dL_law_713 (by decide) (fun _ => ?_) (fun q => absurd rfl q)
  refine W.widen (k := 106 + i) (n := 3060 + 10 * i) (by omega) (by omega) ?_
  exact hn φ1 σ1 ψ1 τ1 H2 locs2 hT2.symm hr1 (hE1.1 0 0 (Or.inl ⟨by decide, (zR_n hr).1⟩)) (hE2.1 64 0 (Or.inl ⟨by decide, (zR_n hr).2⟩)) ((hE1.1 1000 0 (Or.inr (by decide))).trans hW1) ((hE2.1 1000 0 (Or.inr (by decide))).trans hW2) hS ls hl
set_option maxHeartbeats 4000000 in
set_option maxRecDepth 20000 in
theorem law_c14 {p : Program} {l : Launch} {e : Env} {s : State} {m : MethodId} {below : List Frame} {meth : Method} {c : Code} {D : va_G} {dA : Nat → ClassId} {b L tW i : Nat} {xs : Nat → Int32} {φ ψ : zF} {σ τ : zS} {H : Heap} {locs : List Loc} {ls : Array Slot} (C : lwC p s m meth c D dA b L tW xs) (hT : zTwo D dA (lwA s) φ σ ψ τ H) (hr : zR σ τ) (hW1 : φ 1000 0 = tW) (hW2 : ψ 1000 0 = tW) (hS : va_S (lwA s) s.heap H locs) (hi : i + 6 ≤ L) (hl : lv_has ls 4 [(0, .ref b), (1, .ref (φ 0 0)), (2, .ref (ψ 64 0)), (3, .int (nI i))]) (hn : lwN p l e s m below meth c D dA b L tW xs i (φ 0 0) (ψ 64 0)) : W p l e room_1 s m #[Value.ref b] below meth c H locs (100 + i) (3000 + 10 * i) (lw_Z below #[Value.ref b] s) (F0 m 718 ls []) := by
  obtain ⟨hx, hb, -⟩ := id C
  have hL9 : L ≤ 3072 := C.2.2.2.2.2.2.2.2.2.2.2.2
  obtain ⟨r, σ1, τ1, e1, e2, hr1⟩ := P_tick hr (nf := 5000) (by decide) ((xs (i + 1)).toInt) (zin_x _)
  refine lv_aload_n hx hb dL_law_718 rfl (lv_at hl 1 rfl) ?_
  refine lw_arg (k := 1) (kn := 1) C hS hl rfl (by omega) dL_law_719 dL_law_720 dL_law_721 dL_law_722 dL_law_723 ?_
  refine lw_call (avs := [.inl ((xs (i + 1)).toInt)]) (rest := []) zx0 C yw_161 rfl (by have k9 := kX10_tick 5000 σ 0 ((xs (i + 1)).toInt); rw [e1] at k9; exact k9) hT (zR_n hr).1 hW1 (fun v hv => by simp only [List.mem_cons, List.not_mem_nil, or_false] at hv; rcases hv with rfl <;> exact (by first | exact zin_x _ | exact zin_b _)) hS hl.1 rfl (Nat.le_of_ble_eq_true rfl) dL_law_724 ⟨⟨by decide, by decide⟩, by show _ ≤ 624092; omega, by show _ ≤ 7229972; omega⟩ fun φ1 H1 locs1 hT1 hE1 hS => ?_
  refine lv_aload_n hx hb dL_law_727 rfl (lv_at hl 2 rfl) ?_
  refine lw_arg (k := 1) (kn := 1) C hS hl rfl (by omega) dL_law_728 dL_law_729 dL_law_730 dL_law_731 dL_law_732 ?_
  refine lw_call (avs := [.inl ((xs (i + 1)).toInt)]) (rest := [.int (zI r)]) zx64 C yw_162 rfl (by have k9 := kX11_tick 5000 τ 0 ((xs (i + 1)).toInt); rw [e2] at k9; exact k9) hT1.symm (zR_n hr).2 hW2 (fun v hv => by simp only [List.mem_cons, List.not_mem_nil, or_false] at hv; rcases hv with rfl <;> exact (by first | exact zin_x _ | exact zin_b _)) hS hl.1 rfl (Nat.le_of_ble_eq_true rfl) dL_law_733 ⟨⟨by decide, by decide⟩, by show _ ≤ 624092; omega, by show _ ≤ 7229972; omega⟩ fun ψ1 H2 locs2 hT2 hE2 hS => ?_
  refine lv_icmp_eq (tgt := 1293) hx hb dL_law_736 (by decide) (fun _ => ?_) (fun q => absurd rfl q)
  refine W.widen (k := 106 + i) (n := 3060 + 10 * i) (by omega) (by omega) ?_
  exact hn φ1 σ1 ψ1 τ1 H2 locs2 hT2.symm hr1 (hE1.1 0 0 (Or.inl ⟨by decide, (zR_n hr).1⟩)) (hE2.1 64 0 (Or.inl ⟨by decide, (zR_n hr).2⟩)) ((hE1.1 1000 0 (Or.inr (by decide))).trans hW1) ((hE2.1 1000 0 (Or.inr (by decide))).trans hW2) hS ls hl
set_option maxHeartbeats 4000000 in
set_option maxRecDepth 20000 in
theorem law_c15 {p : Program} {l : Launch} {e : Env} {s : State} {m : MethodId} {below : List Frame} {meth : Method} {c : Code} {D : va_G} {dA : Nat → ClassId} {b L tW i : Nat} {xs : Nat → Int32} {φ ψ : zF} {σ τ : zS} {H : Heap} {locs : List Loc} {ls : Array Slot} (C : lwC p s m meth c D dA b L tW xs) (hT : zTwo D dA (lwA s) φ σ ψ τ H) (hr : zR σ τ) (hW1 : φ 1000 0 = tW) (hW2 : ψ 1000 0 = tW) (hS : va_S (lwA s) s.heap H locs) (hi : i + 6 ≤ L) (hl : lv_has ls 4 [(0, .ref b), (1, .ref (φ 0 0)), (2, .ref (ψ 64 0)), (3, .int (nI i))]) (hn : lwN p l e s m below meth c D dA b L tW xs i (φ 0 0) (ψ 64 0)) : W p l e room_1 s m #[Value.ref b] below meth c H locs (100 + i) (3000 + 10 * i) (lw_Z below #[Value.ref b] s) (F0 m 741 ls []) := by
  obtain ⟨hx, hb, -⟩ := id C
  have hL9 : L ≤ 3072 := C.2.2.2.2.2.2.2.2.2.2.2.2
  obtain ⟨r, σ1, τ1, e1, e2, hr1⟩ := P_row hr (nf := 5000) (by decide) ((xs (i + 1)).toInt) (zin_x _)
  refine lv_aload_n hx hb dL_law_741 rfl (lv_at hl 1 rfl) ?_
  refine lw_arg (k := 1) (kn := 1) C hS hl rfl (by omega) dL_law_742 dL_law_743 dL_law_744 dL_law_745 dL_law_746 ?_
  refine lw_call (avs := [.inl ((xs (i + 1)).toInt)]) (rest := []) zx0 C yw_163 rfl (by have k9 := kX10_row 5000 σ 0 ((xs (i + 1)).toInt); rw [e1] at k9; exact k9) hT (zR_n hr).1 hW1 (fun v hv => by simp only [List.mem_cons, List.not_mem_nil, or_false] at hv; rcases hv with rfl <;> exact (by first | exact zin_x _ | exact zin_b _)) hS hl.1 rfl (Nat.le_of_ble_eq_true rfl) dL_law_747 ⟨⟨by decide, by decide⟩, by show _ ≤ 624092; omega, by show _ ≤ 7229972; omega⟩ fun φ1 H1 locs1 hT1 hE1 hS => ?_
  refine lv_aload_n hx hb dL_law_750 rfl (lv_at hl 2 rfl) ?_
  refine lw_arg (k := 1) (kn := 1) C hS hl rfl (by omega) dL_law_751 dL_law_752 dL_law_753 dL_law_754 dL_law_755 ?_
  refine lw_call (avs := [.inl ((xs (i + 1)).toInt)]) (rest := [.int (zI r)]) zx64 C yw_164 rfl (by have k9 := kX11_row 5000 τ 0 ((xs (i + 1)).toInt); rw [e2] at k9; exact k9) hT1.symm (zR_n hr).2 hW2 (fun v hv => by simp only [List.mem_cons, List.not_mem_nil, or_false] at hv; rcases hv with rfl <;> exact (by first | exact zin_x _ | exact zin_b _)) hS hl.1 rfl (Nat.le_of_ble_eq_true rfl) dL_law_756 ⟨⟨by decide, by decide⟩, by show _ ≤ 624092; omega, by show _ ≤ 7229972; omega⟩ fun ψ1 H2 locs2 hT2 hE2 hS => ?_
  refine lv_icmp_eq (tgt := 1293) hx hb dL_law_759 (by decide) (fun _ => ?_) (fun q => absurd rfl q)
  refine W.widen (k := 106 + i) (n := 3060 + 10 * i) (by omega) (by omega) ?_
  exact hn φ1 σ1 ψ1 τ1 H2 locs2 hT2.symm hr1 (hE1.1 0 0 (Or.inl ⟨by decide, (zR_n hr).1⟩)) (hE2.1 64 0 (Or.inl ⟨by decide, (zR_n hr).2⟩)) ((hE1.1 1000 0 (Or.inr (by decide))).trans hW1) ((hE2.1 1000 0 (Or.inr (by decide))).trans hW2) hS ls hl
set_option maxHeartbeats 4000000 in
set_option maxRecDepth 20000 in
theorem law_c16 {p : Program} {l : Launch} {e : Env} {s : State} {m : MethodId} {below : List Frame} {meth : Method} {c : Code} {D : va_G} {dA : Nat → ClassId} {b L tW i : Nat} {xs : Nat → Int32} {φ ψ : zF} {σ τ : zS} {H : Heap} {locs : List Loc} {ls : Array Slot} (C : lwC p s m meth c D dA b L tW xs) (hT : zTwo D dA (lwA s) φ σ ψ τ H) (hr : zR σ τ) (hW1 : φ 1000 0 = tW) (hW2 : ψ 1000 0 = tW) (hS : va_S (lwA s) s.heap H locs) (hi : i + 6 ≤ L) (hl : lv_has ls 4 [(0, .ref b), (1, .ref (φ 0 0)), (2, .ref (ψ 64 0)), (3, .int (nI i))]) (hn : lwN p l e s m below meth c D dA b L tW xs i (φ 0 0) (ψ 64 0)) : W p l e room_1 s m #[Value.ref b] below meth c H locs (100 + i) (3000 + 10 * i) (lw_Z below #[Value.ref b] s) (F0 m 764 ls []) := by
  obtain ⟨hx, hb, -⟩ := id C
  have hL9 : L ≤ 3072 := C.2.2.2.2.2.2.2.2.2.2.2.2
  obtain ⟨r, σ1, τ1, e1, e2, hr1⟩ := P_clerkAt hr (nf := 5000) (by decide) ((xs (i + 1)).toInt) ((xs (i + 2)).toInt) (zin_x _) (zin_x _)
  refine lv_aload_n hx hb dL_law_764 rfl (lv_at hl 1 rfl) ?_
  refine lw_arg (k := 1) (kn := 1) C hS hl rfl (by omega) dL_law_765 dL_law_766 dL_law_767 dL_law_768 dL_law_769 ?_
  refine lw_arg (k := 2) (kn := 2) C hS hl rfl (by omega) dL_law_770 dL_law_771 dL_law_772 dL_law_773 dL_law_774 ?_
  refine lw_call (avs := [.inl ((xs (i + 1)).toInt), .inl ((xs (i + 2)).toInt)]) (rest := []) zx0 C yw_165 rfl (by have k9 := kX10_clerkAt σ 0 ((xs (i + 1)).toInt) ((xs (i + 2)).toInt); rw [e1] at k9; exact k9) hT (zR_n hr).1 hW1 (fun v hv => by simp only [List.mem_cons, List.not_mem_nil, or_false] at hv; rcases hv with rfl | rfl <;> exact (by first | exact zin_x _ | exact zin_b _)) hS hl.1 rfl (Nat.le_of_ble_eq_true rfl) dL_law_775 ⟨⟨by decide, by decide⟩, by show _ ≤ 624092; omega, by show _ ≤ 7229972; omega⟩ fun φ1 H1 locs1 hT1 hE1 hS => ?_
  refine lv_aload_n hx hb dL_law_778 rfl (lv_at hl 2 rfl) ?_
  refine lw_arg (k := 1) (kn := 1) C hS hl rfl (by omega) dL_law_779 dL_law_780 dL_law_781 dL_law_782 dL_law_783 ?_
  refine lw_arg (k := 2) (kn := 2) C hS hl rfl (by omega) dL_law_784 dL_law_785 dL_law_786 dL_law_787 dL_law_788 ?_
  refine lw_call (avs := [.inl ((xs (i + 1)).toInt), .inl ((xs (i + 2)).toInt)]) (rest := [.int (zI r)]) zx64 C yw_166 rfl (by have k9 := kX11_clerkAt τ 0 ((xs (i + 1)).toInt) ((xs (i + 2)).toInt); rw [e2] at k9; exact k9) hT1.symm (zR_n hr).2 hW2 (fun v hv => by simp only [List.mem_cons, List.not_mem_nil, or_false] at hv; rcases hv with rfl | rfl <;> exact (by first | exact zin_x _ | exact zin_b _)) hS hl.1 rfl (Nat.le_of_ble_eq_true rfl) dL_law_789 ⟨⟨by decide, by decide⟩, by show _ ≤ 624092; omega, by show _ ≤ 7229972; omega⟩ fun ψ1 H2 locs2 hT2 hE2 hS => ?_
  refine lv_icmp_eq (tgt := 1293) hx hb dL_law_792 (by decide) (fun _ => ?_) (fun q => absurd rfl q)
  refine W.widen (k := 106 + i) (n := 3060 + 10 * i) (by omega) (by omega) ?_
  exact hn φ1 σ1 ψ1 τ1 H2 locs2 hT2.symm hr1 (hE1.1 0 0 (Or.inl ⟨by decide, (zR_n hr).1⟩)) (hE2.1 64 0 (Or.inl ⟨by decide, (zR_n hr).2⟩)) ((hE1.1 1000 0 (Or.inr (by decide))).trans hW1) ((hE2.1 1000 0 (Or.inr (by decide))).trans hW2) hS ls hl
set_option maxHeartbeats 4000000 in
set_option maxRecDepth 20000 in
theorem law_c17 {p : Program} {l : Launch} {e : Env} {s : State} {m : MethodId} {below : List Frame} {meth : Method} {c : Code} {D : va_G} {dA : Nat → ClassId} {b L tW i : Nat} {xs : Nat → Int32} {φ ψ : zF} {σ τ : zS} {H : Heap} {locs : List Loc} {ls : Array Slot} (C : lwC p s m meth c D dA b L tW xs) (hT : zTwo D dA (lwA s) φ σ ψ τ H) (hr : zR σ τ) (hW1 : φ 1000 0 = tW) (hW2 : ψ 1000 0 = tW) (hS : va_S (lwA s) s.heap H locs) (hi : i + 6 ≤ L) (hl : lv_has ls 4 [(0, .ref b), (1, .ref (φ 0 0)), (2, .ref (ψ 64 0)), (3, .int (nI i))]) (hn : lwN p l e s m below meth c D dA b L tW xs i (φ 0 0) (ψ 64 0)) : W p l e room_1 s m #[Value.ref b] below meth c H locs (100 + i) (3000 + 10 * i) (lw_Z below #[Value.ref b] s) (F0 m 797 ls []) := by
  obtain ⟨hx, hb, -⟩ := id C
  have hL9 : L ≤ 3072 := C.2.2.2.2.2.2.2.2.2.2.2.2
  obtain ⟨r, σ1, τ1, e1, e2, hr1⟩ := P_till hr (nf := 5000) (by decide) ((xs (i + 1)).toInt) (zin_x _)
  refine lv_aload_n hx hb dL_law_797 rfl (lv_at hl 1 rfl) ?_
  refine lw_arg (k := 1) (kn := 1) C hS hl rfl (by omega) dL_law_798 dL_law_799 dL_law_800 dL_law_801 dL_law_802 ?_
  refine lw_call (avs := [.inl ((xs (i + 1)).toInt)]) (rest := []) zx0 C yw_167 rfl (by have k9 := kX10_till 5000 σ 0 ((xs (i + 1)).toInt); rw [e1] at k9; exact k9) hT (zR_n hr).1 hW1 (fun v hv => by simp only [List.mem_cons, List.not_mem_nil, or_false] at hv; rcases hv with rfl <;> exact (by first | exact zin_x _ | exact zin_b _)) hS hl.1 rfl (Nat.le_of_ble_eq_true rfl) dL_law_803 ⟨⟨by decide, by decide⟩, by show _ ≤ 624092; omega, by show _ ≤ 7229972; omega⟩ fun φ1 H1 locs1 hT1 hE1 hS => ?_
  refine lv_aload_n hx hb dL_law_806 rfl (lv_at hl 2 rfl) ?_
  refine lw_arg (k := 1) (kn := 1) C hS hl rfl (by omega) dL_law_807 dL_law_808 dL_law_809 dL_law_810 dL_law_811 ?_
  refine lw_call (avs := [.inl ((xs (i + 1)).toInt)]) (rest := [.int (zI r)]) zx64 C yw_168 rfl (by have k9 := kX11_till 5000 τ 0 ((xs (i + 1)).toInt); rw [e2] at k9; exact k9) hT1.symm (zR_n hr).2 hW2 (fun v hv => by simp only [List.mem_cons, List.not_mem_nil, or_false] at hv; rcases hv with rfl <;> exact (by first | exact zin_x _ | exact zin_b _)) hS hl.1 rfl (Nat.le_of_ble_eq_true rfl) dL_law_812 ⟨⟨by decide, by decide⟩, by show _ ≤ 624092; omega, by show _ ≤ 7229972; omega⟩ fun ψ1 H2 locs2 hT2 hE2 hS => ?_
  refine lv_icmp_eq (tgt := 1293) hx hb dL_law_815 (by decide) (fun _ => ?_) (fun q => absurd rfl q)
  refine W.widen (k := 106 + i) (n := 3060 + 10 * i) (by omega) (by omega) ?_
  exact hn φ1 σ1 ψ1 τ1 H2 locs2 hT2.symm hr1 (hE1.1 0 0 (Or.inl ⟨by decide, (zR_n hr).1⟩)) (hE2.1 64 0 (Or.inl ⟨by decide, (zR_n hr).2⟩)) ((hE1.1 1000 0 (Or.inr (by decide))).trans hW1) ((hE2.1 1000 0 (Or.inr (by decide))).trans hW2) hS ls hl
set_option maxHeartbeats 4000000 in
set_option maxRecDepth 20000 in
theorem law_c18 {p : Program} {l : Launch} {e : Env} {s : State} {m : MethodId} {below : List Frame} {meth : Method} {c : Code} {D : va_G} {dA : Nat → ClassId} {b L tW i : Nat} {xs : Nat → Int32} {φ ψ : zF} {σ τ : zS} {H : Heap} {locs : List Loc} {ls : Array Slot} (C : lwC p s m meth c D dA b L tW xs) (hT : zTwo D dA (lwA s) φ σ ψ τ H) (hr : zR σ τ) (hW1 : φ 1000 0 = tW) (hW2 : ψ 1000 0 = tW) (hS : va_S (lwA s) s.heap H locs) (hi : i + 6 ≤ L) (hl : lv_has ls 4 [(0, .ref b), (1, .ref (φ 0 0)), (2, .ref (ψ 64 0)), (3, .int (nI i))]) (hn : lwN p l e s m below meth c D dA b L tW xs i (φ 0 0) (ψ 64 0)) : W p l e room_1 s m #[Value.ref b] below meth c H locs (100 + i) (3000 + 10 * i) (lw_Z below #[Value.ref b] s) (F0 m 820 ls []) := by
  obtain ⟨hx, hb, -⟩ := id C
  have hL9 : L ≤ 3072 := C.2.2.2.2.2.2.2.2.2.2.2.2
  obtain ⟨r, σ1, τ1, e1, e2, hr1⟩ := P_could hr (nf := 5000) (by decide) ((xs (i + 1)).toInt) (zin_x _)
  refine lv_aload_n hx hb dL_law_820 rfl (lv_at hl 1 rfl) ?_
  refine lw_arg (k := 1) (kn := 1) C hS hl rfl (by omega) dL_law_821 dL_law_822 dL_law_823 dL_law_824 dL_law_825 ?_
  refine lw_call (avs := [.inl ((xs (i + 1)).toInt)]) (rest := []) zx0 C yw_169 rfl (by have k9 := kX10_could 5000 σ 0 ((xs (i + 1)).toInt); rw [e1] at k9; exact k9) hT (zR_n hr).1 hW1 (fun v hv => by simp only [List.mem_cons, List.not_mem_nil, or_false] at hv; rcases hv with rfl <;> exact (by first | exact zin_x _ | exact zin_b _)) hS hl.1 rfl (Nat.le_of_ble_eq_true rfl) dL_law_826 ⟨⟨by decide, by decide⟩, by show _ ≤ 624092; omega, by show _ ≤ 7229972; omega⟩ fun φ1 H1 locs1 hT1 hE1 hS => ?_
  refine lv_aload_n hx hb dL_law_829 rfl (lv_at hl 2 rfl) ?_
  refine lw_arg (k := 1) (kn := 1) C hS hl rfl (by omega) dL_law_830 dL_law_831 dL_law_832 dL_law_833 dL_law_834 ?_
  refine lw_call (avs := [.inl ((xs (i + 1)).toInt)]) (rest := [.int (zI r)]) zx64 C yw_170 rfl (by have k9 := kX11_could 5000 τ 0 ((xs (i + 1)).toInt); rw [e2] at k9; exact k9) hT1.symm (zR_n hr).2 hW2 (fun v hv => by simp only [List.mem_cons, List.not_mem_nil, or_false] at hv; rcases hv with rfl <;> exact (by first | exact zin_x _ | exact zin_b _)) hS hl.1 rfl (Nat.le_of_ble_eq_true rfl) dL_law_835 ⟨⟨by decide, by decide⟩, by show _ ≤ 624092; omega, by show _ ≤ 7229972; omega⟩ fun ψ1 H2 locs2 hT2 hE2 hS => ?_
  refine lv_icmp_eq (tgt := 1293) hx hb dL_law_838 (by decide) (fun _ => ?_) (fun q => absurd rfl q)
  refine W.widen (k := 106 + i) (n := 3060 + 10 * i) (by omega) (by omega) ?_
  exact hn φ1 σ1 ψ1 τ1 H2 locs2 hT2.symm hr1 (hE1.1 0 0 (Or.inl ⟨by decide, (zR_n hr).1⟩)) (hE2.1 64 0 (Or.inl ⟨by decide, (zR_n hr).2⟩)) ((hE1.1 1000 0 (Or.inr (by decide))).trans hW1) ((hE2.1 1000 0 (Or.inr (by decide))).trans hW2) hS ls hl
set_option maxHeartbeats 4000000 in
set_option maxRecDepth 20000 in
theorem law_c19 {p : Program} {l : Launch} {e : Env} {s : State} {m : MethodId} {below : List Frame} {meth : Method} {c : Code} {D : va_G} {dA : Nat → ClassId} {b L tW i : Nat} {xs : Nat → Int32} {φ ψ : zF} {σ τ : zS} {H : Heap} {locs : List Loc} {ls : Array Slot} (C : lwC p s m meth c D dA b L tW xs) (hT : zTwo D dA (lwA s) φ σ ψ τ H) (hr : zR σ τ) (hW1 : φ 1000 0 = tW) (hW2 : ψ 1000 0 = tW) (hS : va_S (lwA s) s.heap H locs) (hi : i + 6 ≤ L) (hl : lv_has ls 4 [(0, .ref b), (1, .ref (φ 0 0)), (2, .ref (ψ 64 0)), (3, .int (nI i))]) (hn : lwN p l e s m below meth c D dA b L tW xs i (φ 0 0) (ψ 64 0)) : W p l e room_1 s m #[Value.ref b] below meth c H locs (100 + i) (3000 + 10 * i) (lw_Z below #[Value.ref b] s) (F0 m 843 ls []) := by
  obtain ⟨hx, hb, -⟩ := id C
  have hL9 : L ≤ 3072 := C.2.2.2.2.2.2.2.2.2.2.2.2
  obtain ⟨r, σ1, τ1, e1, e2, hr1⟩ := P_gives hr (nf := 5000) (by decide) ((xs (i + 1)).toInt) ((xs (i + 2)).toInt) (zin_x _) (zin_x _)
  refine lv_aload_n hx hb dL_law_843 rfl (lv_at hl 1 rfl) ?_
  refine lw_arg (k := 1) (kn := 1) C hS hl rfl (by omega) dL_law_844 dL_law_845 dL_law_846 dL_law_847 dL_law_848 ?_
  refine lw_arg (k := 2) (kn := 2) C hS hl rfl (by omega) dL_law_849 dL_law_850 dL_law_851 dL_law_852 dL_law_853 ?_
  refine lw_call (avs := [.inl ((xs (i + 1)).toInt), .inl ((xs (i + 2)).toInt)]) (rest := []) zx0 C yw_171 rfl (by have k9 := kX10_gives 5000 σ 0 ((xs (i + 1)).toInt) ((xs (i + 2)).toInt); rw [e1] at k9; exact k9) hT (zR_n hr).1 hW1 (fun v hv => by simp only [List.mem_cons, List.not_mem_nil, or_false] at hv; rcases hv with rfl | rfl <;> exact (by first | exact zin_x _ | exact zin_b _)) hS hl.1 rfl (Nat.le_of_ble_eq_true rfl) dL_law_854 ⟨⟨by decide, by decide⟩, by show _ ≤ 624092; omega, by show _ ≤ 7229972; omega⟩ fun φ1 H1 locs1 hT1 hE1 hS => ?_
  refine lv_aload_n hx hb dL_law_857 rfl (lv_at hl 2 rfl) ?_
  refine lw_arg (k := 1) (kn := 1) C hS hl rfl (by omega) dL_law_858 dL_law_859 dL_law_860 dL_law_861 dL_law_862 ?_
  refine lw_arg (k := 2) (kn := 2) C hS hl rfl (by omega) dL_law_863 dL_law_864 dL_law_865 dL_law_866 dL_law_867 ?_
  refine lw_call (avs := [.inl ((xs (i + 1)).toInt), .inl ((xs (i + 2)).toInt)]) (rest := [.int (zI r)]) zx64 C yw_172 rfl (by have k9 := kX11_gives 5000 τ 0 ((xs (i + 1)).toInt) ((xs (i + 2)).toInt); rw [e2] at k9; exact k9) hT1.symm (zR_n hr).2 hW2 (fun v hv => by simp only [List.mem_cons, List.not_mem_nil, or_false] at hv; rcases hv with rfl | rfl <;> exact (by first | exact zin_x _ | exact zin_b _)) hS hl.1 rfl (Nat.le_of_ble_eq_true rfl) dL_law_868 ⟨⟨by decide, by decide⟩, by show _ ≤ 624092; omega, by show _ ≤ 7229972; omega⟩ fun ψ1 H2 locs2 hT2 hE2 hS => ?_
  refine lv_icmp_eq (tgt := 1293) hx hb dL_law_871 (by decide) (fun _ => ?_) (fun q => absurd rfl q)
  refine W.widen (k := 106 + i) (n := 3060 + 10 * i) (by omega) (by omega) ?_
  exact hn φ1 σ1 ψ1 τ1 H2 locs2 hT2.symm hr1 (hE1.1 0 0 (Or.inl ⟨by decide, (zR_n hr).1⟩)) (hE2.1 64 0 (Or.inl ⟨by decide, (zR_n hr).2⟩)) ((hE1.1 1000 0 (Or.inr (by decide))).trans hW1) ((hE2.1 1000 0 (Or.inr (by decide))).trans hW2) hS ls hl
set_option maxHeartbeats 4000000 in
set_option maxRecDepth 20000 in
theorem law_c20 {p : Program} {l : Launch} {e : Env} {s : State} {m : MethodId} {below : List Frame} {meth : Method} {c : Code} {D : va_G} {dA : Nat → ClassId} {b L tW i : Nat} {xs : Nat → Int32} {φ ψ : zF} {σ τ : zS} {H : Heap} {locs : List Loc} {ls : Array Slot} (C : lwC p s m meth c D dA b L tW xs) (hT : zTwo D dA (lwA s) φ σ ψ τ H) (hr : zR σ τ) (hW1 : φ 1000 0 = tW) (hW2 : ψ 1000 0 = tW) (hS : va_S (lwA s) s.heap H locs) (hi : i + 6 ≤ L) (hl : lv_has ls 4 [(0, .ref b), (1, .ref (φ 0 0)), (2, .ref (ψ 64 0)), (3, .int (nI i))]) (hn : lwN p l e s m below meth c D dA b L tW xs i (φ 0 0) (ψ 64 0)) : W p l e room_1 s m #[Value.ref b] below meth c H locs (100 + i) (3000 + 10 * i) (lw_Z below #[Value.ref b] s) (F0 m 876 ls []) := by
  obtain ⟨hx, hb, -⟩ := id C
  have hL9 : L ≤ 3072 := C.2.2.2.2.2.2.2.2.2.2.2.2
  obtain ⟨r, σ1, τ1, e1, e2, hr1⟩ := P_on hr (nf := 5000) (by decide) ((xs (i + 1)).toInt) (if (xs (i + 2)).toInt = 0 then 0 else 1) (zin_x _) (b01 _)
  refine lv_aload_n hx hb dL_law_876 rfl (lv_at hl 1 rfl) ?_
  refine lw_arg (k := 1) (kn := 1) C hS hl rfl (by omega) dL_law_877 dL_law_878 dL_law_879 dL_law_880 dL_law_881 ?_
  refine lw_arg (k := 2) (kn := 2) C hS hl rfl (by omega) dL_law_882 dL_law_883 dL_law_884 dL_law_885 dL_law_886 ?_
  refine lw_bool C (zin_x _) dL_law_887 dL_law_890 dL_law_891 dL_law_894 ?_
  refine lw_call (avs := [.inl ((xs (i + 1)).toInt), .inl (if (xs (i + 2)).toInt = 0 then 0 else 1)]) (rest := []) zx0 C yw_173 rfl (by have k9 := kX10_on 5000 σ 0 ((xs (i + 1)).toInt) (if (xs (i + 2)).toInt = 0 then 0 else 1); rw [e1] at k9; exact k9) hT (zR_n hr).1 hW1 (fun v hv => by simp only [List.mem_cons, List.not_mem_nil, or_false] at hv; rcases hv with rfl | rfl <;> exact (by first | exact zin_x _ | exact zin_b _)) hS hl.1 rfl (Nat.le_of_ble_eq_true rfl) dL_law_895 ⟨⟨by decide, by decide⟩, by show _ ≤ 624092; omega, by show _ ≤ 7229972; omega⟩ fun φ1 H1 locs1 hT1 hE1 hS => ?_
  refine lv_aload_n hx hb dL_law_898 rfl (lv_at hl 2 rfl) ?_
  refine lw_arg (k := 1) (kn := 1) C hS hl rfl (by omega) dL_law_899 dL_law_900 dL_law_901 dL_law_902 dL_law_903 ?_
  refine lw_arg (k := 2) (kn := 2) C hS hl rfl (by omega) dL_law_904 dL_law_905 dL_law_906 dL_law_907 dL_law_908 ?_
  refine lw_bool C (zin_x _) dL_law_909 dL_law_912 dL_law_913 dL_law_916 ?_
  refine lw_call (avs := [.inl ((xs (i + 1)).toInt), .inl (if (xs (i + 2)).toInt = 0 then 0 else 1)]) (rest := [.int (zI r)]) zx64 C yw_174 rfl (by have k9 := kX11_on 5000 τ 0 ((xs (i + 1)).toInt) (if (xs (i + 2)).toInt = 0 then 0 else 1); rw [e2] at k9; exact k9) hT1.symm (zR_n hr).2 hW2 (fun v hv => by simp only [List.mem_cons, List.not_mem_nil, or_false] at hv; rcases hv with rfl | rfl <;> exact (by first | exact zin_x _ | exact zin_b _)) hS hl.1 rfl (Nat.le_of_ble_eq_true rfl) dL_law_917 ⟨⟨by decide, by decide⟩, by show _ ≤ 624092; omega, by show _ ≤ 7229972; omega⟩ fun ψ1 H2 locs2 hT2 hE2 hS => ?_
  refine lv_icmp_eq (tgt := 1293) hx hb dL_law_920 (by decide) (fun _ => ?_) (fun q => absurd rfl q)
  refine W.widen (k := 106 + i) (n := 3060 + 10 * i) (by omega) (by omega) ?_
  exact hn φ1 σ1 ψ1 τ1 H2 locs2 hT2.symm hr1 (hE1.1 0 0 (Or.inl ⟨by decide, (zR_n hr).1⟩)) (hE2.1 64 0 (Or.inl ⟨by decide, (zR_n hr).2⟩)) ((hE1.1 1000 0 (Or.inr (by decide))).trans hW1) ((hE2.1 1000 0 (Or.inr (by decide))).trans hW2) hS ls hl
set_option maxHeartbeats 4000000 in
set_option maxRecDepth 20000 in
theorem law_c21 {p : Program} {l : Launch} {e : Env} {s : State} {m : MethodId} {below : List Frame} {meth : Method} {c : Code} {D : va_G} {dA : Nat → ClassId} {b L tW i : Nat} {xs : Nat → Int32} {φ ψ : zF} {σ τ : zS} {H : Heap} {locs : List Loc} {ls : Array Slot} (C : lwC p s m meth c D dA b L tW xs) (hT : zTwo D dA (lwA s) φ σ ψ τ H) (hr : zR σ τ) (hW1 : φ 1000 0 = tW) (hW2 : ψ 1000 0 = tW) (hS : va_S (lwA s) s.heap H locs) (hi : i + 6 ≤ L) (hl : lv_has ls 4 [(0, .ref b), (1, .ref (φ 0 0)), (2, .ref (ψ 64 0)), (3, .int (nI i))]) (hn : lwN p l e s m below meth c D dA b L tW xs i (φ 0 0) (ψ 64 0)) : W p l e room_1 s m #[Value.ref b] below meth c H locs (100 + i) (3000 + 10 * i) (lw_Z below #[Value.ref b] s) (F0 m 925 ls []) := by
  obtain ⟨hx, hb, -⟩ := id C
  have hL9 : L ≤ 3072 := C.2.2.2.2.2.2.2.2.2.2.2.2
  obtain ⟨r, σ1, τ1, e1, e2, hr1⟩ := P_waits hr (nf := 5000) (by decide) ((xs (i + 1)).toInt) ((xs (i + 2)).toInt) (zin_x _) (zin_x _)
  refine lv_aload_n hx hb dL_law_925 rfl (lv_at hl 1 rfl) ?_
  refine lw_arg (k := 1) (kn := 1) C hS hl rfl (by omega) dL_law_926 dL_law_927 dL_law_928 dL_law_929 dL_law_930 ?_
  refine lw_arg (k := 2) (kn := 2) C hS hl rfl (by omega) dL_law_931 dL_law_932 dL_law_933 dL_law_934 dL_law_935 ?_
  refine lw_call (avs := [.inl ((xs (i + 1)).toInt), .inl ((xs (i + 2)).toInt)]) (rest := []) zx0 C yw_175 rfl (by have k9 := kX10_waits σ 0 ((xs (i + 1)).toInt) ((xs (i + 2)).toInt); rw [e1] at k9; exact k9) hT (zR_n hr).1 hW1 (fun v hv => by simp only [List.mem_cons, List.not_mem_nil, or_false] at hv; rcases hv with rfl | rfl <;> exact (by first | exact zin_x _ | exact zin_b _)) hS hl.1 rfl (Nat.le_of_ble_eq_true rfl) dL_law_936 ⟨⟨by decide, by decide⟩, by show _ ≤ 624092; omega, by show _ ≤ 7229972; omega⟩ fun φ1 H1 locs1 hT1 hE1 hS => ?_
  refine lv_aload_n hx hb dL_law_939 rfl (lv_at hl 2 rfl) ?_
  refine lw_arg (k := 1) (kn := 1) C hS hl rfl (by omega) dL_law_940 dL_law_941 dL_law_942 dL_law_943 dL_law_944 ?_
  refine lw_arg (k := 2) (kn := 2) C hS hl rfl (by omega) dL_law_945 dL_law_946 dL_law_947 dL_law_948 dL_law_949 ?_
  refine lw_call (avs := [.inl ((xs (i + 1)).toInt), .inl ((xs (i + 2)).toInt)]) (rest := [.int (zI r)]) zx64 C yw_176 rfl (by have k9 := kX11_waits τ 0 ((xs (i + 1)).toInt) ((xs (i + 2)).toInt); rw [e2] at k9; exact k9) hT1.symm (zR_n hr).2 hW2 (fun v hv => by simp only [List.mem_cons, List.not_mem_nil, or_false] at hv; rcases hv with rfl | rfl <;> exact (by first | exact zin_x _ | exact zin_b _)) hS hl.1 rfl (Nat.le_of_ble_eq_true rfl) dL_law_950 ⟨⟨by decide, by decide⟩, by show _ ≤ 624092; omega, by show _ ≤ 7229972; omega⟩ fun ψ1 H2 locs2 hT2 hE2 hS => ?_
  refine lv_icmp_eq (tgt := 1293) hx hb dL_law_953 (by decide) (fun _ => ?_) (fun q => absurd rfl q)
  refine W.widen (k := 106 + i) (n := 3060 + 10 * i) (by omega) (by omega) ?_
  exact hn φ1 σ1 ψ1 τ1 H2 locs2 hT2.symm hr1 (hE1.1 0 0 (Or.inl ⟨by decide, (zR_n hr).1⟩)) (hE2.1 64 0 (Or.inl ⟨by decide, (zR_n hr).2⟩)) ((hE1.1 1000 0 (Or.inr (by decide))).trans hW1) ((hE2.1 1000 0 (Or.inr (by decide))).trans hW2) hS ls hl
set_option maxHeartbeats 4000000 in
set_option maxRecDepth 20000 in
theorem law_c22 {p : Program} {l : Launch} {e : Env} {s : State} {m : MethodId} {below : List Frame} {meth : Method} {c : Code} {D : va_G} {dA : Nat → ClassId} {b L tW i : Nat} {xs : Nat → Int32} {φ ψ : zF} {σ τ : zS} {H : Heap} {locs : List Loc} {ls : Array Slot} (C : lwC p s m meth c D dA b L tW xs) (hT : zTwo D dA (lwA s) φ σ ψ τ H) (hr : zR σ τ) (hW1 : φ 1000 0 = tW) (hW2 : ψ 1000 0 = tW) (hS : va_S (lwA s) s.heap H locs) (hi : i + 6 ≤ L) (hl : lv_has ls 4 [(0, .ref b), (1, .ref (φ 0 0)), (2, .ref (ψ 64 0)), (3, .int (nI i))]) (hn : lwN p l e s m below meth c D dA b L tW xs i (φ 0 0) (ψ 64 0)) : W p l e room_1 s m #[Value.ref b] below meth c H locs (100 + i) (3000 + 10 * i) (lw_Z below #[Value.ref b] s) (F0 m 958 ls []) := by
  obtain ⟨hx, hb, -⟩ := id C
  have hL9 : L ≤ 3072 := C.2.2.2.2.2.2.2.2.2.2.2.2
  obtain ⟨r, σ1, τ1, e1, e2, hr1⟩ := P_worst hr (nf := 5000) (by decide)
  refine lv_aload_n hx hb dL_law_958 rfl (lv_at hl 1 rfl) ?_
  refine lw_call (avs := []) (rest := []) zx0 C yw_177 rfl (by have k9 := kX10_worst 5000 σ 0; rw [e1] at k9; exact k9) hT (zR_n hr).1 hW1 (fun v hv => absurd hv List.not_mem_nil) hS hl.1 rfl (Nat.le_of_ble_eq_true rfl) dL_law_959 ⟨⟨by decide, by decide⟩, by show _ ≤ 624092; omega, by show _ ≤ 7229972; omega⟩ fun φ1 H1 locs1 hT1 hE1 hS => ?_
  refine lv_aload_n hx hb dL_law_962 rfl (lv_at hl 2 rfl) ?_
  refine lw_call (avs := []) (rest := [.int (zI r)]) zx64 C yw_178 rfl (by have k9 := kX11_worst 5000 τ 0; rw [e2] at k9; exact k9) hT1.symm (zR_n hr).2 hW2 (fun v hv => absurd hv List.not_mem_nil) hS hl.1 rfl (Nat.le_of_ble_eq_true rfl) dL_law_963 ⟨⟨by decide, by decide⟩, by show _ ≤ 624092; omega, by show _ ≤ 7229972; omega⟩ fun ψ1 H2 locs2 hT2 hE2 hS => ?_
  refine lv_icmp_eq (tgt := 1293) hx hb dL_law_966 (by decide) (fun _ => ?_) (fun q => absurd rfl q)
  refine W.widen (k := 106 + i) (n := 3060 + 10 * i) (by omega) (by omega) ?_
  exact hn φ1 σ1 ψ1 τ1 H2 locs2 hT2.symm hr1 (hE1.1 0 0 (Or.inl ⟨by decide, (zR_n hr).1⟩)) (hE2.1 64 0 (Or.inl ⟨by decide, (zR_n hr).2⟩)) ((hE1.1 1000 0 (Or.inr (by decide))).trans hW1) ((hE2.1 1000 0 (Or.inr (by decide))).trans hW2) hS ls hl
set_option maxHeartbeats 4000000 in
set_option maxRecDepth 20000 in
theorem law_c23 {p : Program} {l : Launch} {e : Env} {s : State} {m : MethodId} {below : List Frame} {meth : Method} {c : Code} {D : va_G} {dA : Nat → ClassId} {b L tW i : Nat} {xs : Nat → Int32} {φ ψ : zF} {σ τ : zS} {H : Heap} {locs : List Loc} {ls : Array Slot} (C : lwC p s m meth c D dA b L tW xs) (hT : zTwo D dA (lwA s) φ σ ψ τ H) (hr : zR σ τ) (hW1 : φ 1000 0 = tW) (hW2 : ψ 1000 0 = tW) (hS : va_S (lwA s) s.heap H locs) (hi : i + 6 ≤ L) (hl : lv_has ls 4 [(0, .ref b), (1, .ref (φ 0 0)), (2, .ref (ψ 64 0)), (3, .int (nI i))]) (hn : lwN p l e s m below meth c D dA b L tW xs i (φ 0 0) (ψ 64 0)) : W p l e room_1 s m #[Value.ref b] below meth c H locs (100 + i) (3000 + 10 * i) (lw_Z below #[Value.ref b] s) (F0 m 971 ls []) := by
  obtain ⟨hx, hb, -⟩ := id C
  have hL9 : L ≤ 3072 := C.2.2.2.2.2.2.2.2.2.2.2.2
  obtain ⟨r, σ1, τ1, e1, e2, hr1⟩ := P_best hr (nf := 5000) (by decide) ((xs (i + 1)).toInt) (zin_x _)
  refine lv_aload_n hx hb dL_law_971 rfl (lv_at hl 1 rfl) ?_
  refine lw_arg (k := 1) (kn := 1) C hS hl rfl (by omega) dL_law_972 dL_law_973 dL_law_974 dL_law_975 dL_law_976 ?_
  refine lw_call (avs := [.inl ((xs (i + 1)).toInt)]) (rest := []) zx0 C yw_179 rfl (by have k9 := kX10_best 5000 σ 0 ((xs (i + 1)).toInt); rw [e1] at k9; exact k9) hT (zR_n hr).1 hW1 (fun v hv => by simp only [List.mem_cons, List.not_mem_nil, or_false] at hv; rcases hv with rfl <;> exact (by first | exact zin_x _ | exact zin_b _)) hS hl.1 rfl (Nat.le_of_ble_eq_true rfl) dL_law_977 ⟨⟨by decide, by decide⟩, by show _ ≤ 624092; omega, by show _ ≤ 7229972; omega⟩ fun φ1 H1 locs1 hT1 hE1 hS => ?_
  refine lv_aload_n hx hb dL_law_980 rfl (lv_at hl 2 rfl) ?_
  refine lw_arg (k := 1) (kn := 1) C hS hl rfl (by omega) dL_law_981 dL_law_982 dL_law_983 dL_law_984 dL_law_985 ?_
  refine lw_call (avs := [.inl ((xs (i + 1)).toInt)]) (rest := [.int (zI r)]) zx64 C yw_180 rfl (by have k9 := kX11_best 5000 τ 0 ((xs (i + 1)).toInt); rw [e2] at k9; exact k9) hT1.symm (zR_n hr).2 hW2 (fun v hv => by simp only [List.mem_cons, List.not_mem_nil, or_false] at hv; rcases hv with rfl <;> exact (by first | exact zin_x _ | exact zin_b _)) hS hl.1 rfl (Nat.le_of_ble_eq_true rfl) dL_law_986 ⟨⟨by decide, by decide⟩, by show _ ≤ 624092; omega, by show _ ≤ 7229972; omega⟩ fun ψ1 H2 locs2 hT2 hE2 hS => ?_
  refine lv_icmp_eq (tgt := 1293) hx hb dL_law_989 (by decide) (fun _ => ?_) (fun q => absurd rfl q)
  refine W.widen (k := 106 + i) (n := 3060 + 10 * i) (by omega) (by omega) ?_
  exact hn φ1 σ1 ψ1 τ1 H2 locs2 hT2.symm hr1 (hE1.1 0 0 (Or.inl ⟨by decide, (zR_n hr).1⟩)) (hE2.1 64 0 (Or.inl ⟨by decide, (zR_n hr).2⟩)) ((hE1.1 1000 0 (Or.inr (by decide))).trans hW1) ((hE2.1 1000 0 (Or.inr (by decide))).trans hW2) hS ls hl
set_option maxHeartbeats 4000000 in
set_option maxRecDepth 20000 in
theorem law_c24 {p : Program} {l : Launch} {e : Env} {s : State} {m : MethodId} {below : List Frame} {meth : Method} {c : Code} {D : va_G} {dA : Nat → ClassId} {b L tW i : Nat} {xs : Nat → Int32} {φ ψ : zF} {σ τ : zS} {H : Heap} {locs : List Loc} {ls : Array Slot} (C : lwC p s m meth c D dA b L tW xs) (hT : zTwo D dA (lwA s) φ σ ψ τ H) (hr : zR σ τ) (hW1 : φ 1000 0 = tW) (hW2 : ψ 1000 0 = tW) (hS : va_S (lwA s) s.heap H locs) (hi : i + 6 ≤ L) (hl : lv_has ls 4 [(0, .ref b), (1, .ref (φ 0 0)), (2, .ref (ψ 64 0)), (3, .int (nI i))]) (hn : lwN p l e s m below meth c D dA b L tW xs i (φ 0 0) (ψ 64 0)) : W p l e room_1 s m #[Value.ref b] below meth c H locs (100 + i) (3000 + 10 * i) (lw_Z below #[Value.ref b] s) (F0 m 994 ls []) := by
  obtain ⟨hx, hb, -⟩ := id C
  have hL9 : L ≤ 3072 := C.2.2.2.2.2.2.2.2.2.2.2.2
  obtain ⟨r, σ1, τ1, e1, e2, hr1⟩ := P_worstBy hr (nf := 5000) (by decide) ((xs (i + 1)).toInt) (zin_x _)
  refine lv_aload_n hx hb dL_law_994 rfl (lv_at hl 1 rfl) ?_
  refine lw_arg (k := 1) (kn := 1) C hS hl rfl (by omega) dL_law_995 dL_law_996 dL_law_997 dL_law_998 dL_law_999 ?_
  refine lw_call (avs := [.inl ((xs (i + 1)).toInt)]) (rest := []) zx0 C yw_181 rfl (by have k9 := kX10_worstBy 5000 σ 0 ((xs (i + 1)).toInt); rw [e1] at k9; exact k9) hT (zR_n hr).1 hW1 (fun v hv => by simp only [List.mem_cons, List.not_mem_nil, or_false] at hv; rcases hv with rfl <;> exact (by first | exact zin_x _ | exact zin_b _)) hS hl.1 rfl (Nat.le_of_ble_eq_true rfl) dL_law_1000 ⟨⟨by decide, by decide⟩, by show _ ≤ 624092; omega, by show _ ≤ 7229972; omega⟩ fun φ1 H1 locs1 hT1 hE1 hS => ?_
  refine lv_aload_n hx hb dL_law_1003 rfl (lv_at hl 2 rfl) ?_
  refine lw_arg (k := 1) (kn := 1) C hS hl rfl (by omega) dL_law_1004 dL_law_1005 dL_law_1006 dL_law_1007 dL_law_1008 ?_
  refine lw_call (avs := [.inl ((xs (i + 1)).toInt)]) (rest := [.int (zI r)]) zx64 C yw_182 rfl (by have k9 := kX11_worstBy 5000 τ 0 ((xs (i + 1)).toInt); rw [e2] at k9; exact k9) hT1.symm (zR_n hr).2 hW2 (fun v hv => by simp only [List.mem_cons, List.not_mem_nil, or_false] at hv; rcases hv with rfl <;> exact (by first | exact zin_x _ | exact zin_b _)) hS hl.1 rfl (Nat.le_of_ble_eq_true rfl) dL_law_1009 ⟨⟨by decide, by decide⟩, by show _ ≤ 624092; omega, by show _ ≤ 7229972; omega⟩ fun ψ1 H2 locs2 hT2 hE2 hS => ?_
  refine lv_icmp_eq (tgt := 1293) hx hb dL_law_1012 (by decide) (fun _ => ?_) (fun q => absurd rfl q)
  refine W.widen (k := 106 + i) (n := 3060 + 10 * i) (by omega) (by omega) ?_
  exact hn φ1 σ1 ψ1 τ1 H2 locs2 hT2.symm hr1 (hE1.1 0 0 (Or.inl ⟨by decide, (zR_n hr).1⟩)) (hE2.1 64 0 (Or.inl ⟨by decide, (zR_n hr).2⟩)) ((hE1.1 1000 0 (Or.inr (by decide))).trans hW1) ((hE2.1 1000 0 (Or.inr (by decide))).trans hW2) hS ls hl
set_option maxHeartbeats 4000000 in
set_option maxRecDepth 20000 in
theorem law_c25 {p : Program} {l : Launch} {e : Env} {s : State} {m : MethodId} {below : List Frame} {meth : Method} {c : Code} {D : va_G} {dA : Nat → ClassId} {b L tW i : Nat} {xs : Nat → Int32} {φ ψ : zF} {σ τ : zS} {H : Heap} {locs : List Loc} {ls : Array Slot} (C : lwC p s m meth c D dA b L tW xs) (hT : zTwo D dA (lwA s) φ σ ψ τ H) (hr : zR σ τ) (hW1 : φ 1000 0 = tW) (hW2 : ψ 1000 0 = tW) (hS : va_S (lwA s) s.heap H locs) (hi : i + 6 ≤ L) (hl : lv_has ls 4 [(0, .ref b), (1, .ref (φ 0 0)), (2, .ref (ψ 64 0)), (3, .int (nI i))]) (hn : lwN p l e s m below meth c D dA b L tW xs i (φ 0 0) (ψ 64 0)) : W p l e room_1 s m #[Value.ref b] below meth c H locs (100 + i) (3000 + 10 * i) (lw_Z below #[Value.ref b] s) (F0 m 1017 ls []) := by
  obtain ⟨hx, hb, -⟩ := id C
  have hL9 : L ≤ 3072 := C.2.2.2.2.2.2.2.2.2.2.2.2
  obtain ⟨r, σ1, τ1, e1, e2, hr1⟩ := P_rush hr (nf := 5000) (by decide) ((xs (i + 1)).toInt) ((xs (i + 2)).toInt) ((xs (i + 3)).toInt) (zin_x _) (zin_x _) (zin_x _)
  refine lv_aload_n hx hb dL_law_1017 rfl (lv_at hl 1 rfl) ?_
  refine lw_arg (k := 1) (kn := 1) C hS hl rfl (by omega) dL_law_1018 dL_law_1019 dL_law_1020 dL_law_1021 dL_law_1022 ?_
  refine lw_arg (k := 2) (kn := 2) C hS hl rfl (by omega) dL_law_1023 dL_law_1024 dL_law_1025 dL_law_1026 dL_law_1027 ?_
  refine lw_arg (k := 3) (kn := 3) C hS hl rfl (by omega) dL_law_1028 dL_law_1029 dL_law_1030 dL_law_1031 dL_law_1032 ?_
  refine lw_call (avs := [.inl ((xs (i + 1)).toInt), .inl ((xs (i + 2)).toInt), .inl ((xs (i + 3)).toInt)]) (rest := []) zx0 C yw_183 rfl (by have k9 := kX10_rush 5000 σ 0 ((xs (i + 1)).toInt) ((xs (i + 2)).toInt) ((xs (i + 3)).toInt); rw [e1] at k9; exact k9) hT (zR_n hr).1 hW1 (fun v hv => by simp only [List.mem_cons, List.not_mem_nil, or_false] at hv; rcases hv with rfl | rfl | rfl <;> exact (by first | exact zin_x _ | exact zin_b _)) hS hl.1 rfl (Nat.le_of_ble_eq_true rfl) dL_law_1033 ⟨⟨by decide, by decide⟩, by show _ ≤ 624092; omega, by show _ ≤ 7229972; omega⟩ fun φ1 H1 locs1 hT1 hE1 hS => ?_
  refine lv_aload_n hx hb dL_law_1036 rfl (lv_at hl 2 rfl) ?_
  refine lw_arg (k := 1) (kn := 1) C hS hl rfl (by omega) dL_law_1037 dL_law_1038 dL_law_1039 dL_law_1040 dL_law_1041 ?_
  refine lw_arg (k := 2) (kn := 2) C hS hl rfl (by omega) dL_law_1042 dL_law_1043 dL_law_1044 dL_law_1045 dL_law_1046 ?_
  refine lw_arg (k := 3) (kn := 3) C hS hl rfl (by omega) dL_law_1047 dL_law_1048 dL_law_1049 dL_law_1050 dL_law_1051 ?_
  refine lw_call (avs := [.inl ((xs (i + 1)).toInt), .inl ((xs (i + 2)).toInt), .inl ((xs (i + 3)).toInt)]) (rest := [.int (zI r)]) zx64 C yw_184 rfl (by have k9 := kX11_rush τ 0 ((xs (i + 1)).toInt) ((xs (i + 2)).toInt) ((xs (i + 3)).toInt); rw [e2] at k9; exact k9) hT1.symm (zR_n hr).2 hW2 (fun v hv => by simp only [List.mem_cons, List.not_mem_nil, or_false] at hv; rcases hv with rfl | rfl | rfl <;> exact (by first | exact zin_x _ | exact zin_b _)) hS hl.1 rfl (Nat.le_of_ble_eq_true rfl) dL_law_1052 ⟨⟨by decide, by decide⟩, by show _ ≤ 624092; omega, by show _ ≤ 7229972; omega⟩ fun ψ1 H2 locs2 hT2 hE2 hS => ?_
  refine lv_icmp_eq (tgt := 1293) hx hb dL_law_1055 (by decide) (fun _ => ?_) (fun q => absurd rfl q)
  refine W.widen (k := 106 + i) (n := 3060 + 10 * i) (by omega) (by omega) ?_
  exact hn φ1 σ1 ψ1 τ1 H2 locs2 hT2.symm hr1 (hE1.1 0 0 (Or.inl ⟨by decide, (zR_n hr).1⟩)) (hE2.1 64 0 (Or.inl ⟨by decide, (zR_n hr).2⟩)) ((hE1.1 1000 0 (Or.inr (by decide))).trans hW1) ((hE2.1 1000 0 (Or.inr (by decide))).trans hW2) hS ls hl
set_option maxHeartbeats 4000000 in
set_option maxRecDepth 20000 in
theorem law_c26 {p : Program} {l : Launch} {e : Env} {s : State} {m : MethodId} {below : List Frame} {meth : Method} {c : Code} {D : va_G} {dA : Nat → ClassId} {b L tW i : Nat} {xs : Nat → Int32} {φ ψ : zF} {σ τ : zS} {H : Heap} {locs : List Loc} {ls : Array Slot} (C : lwC p s m meth c D dA b L tW xs) (hT : zTwo D dA (lwA s) φ σ ψ τ H) (hr : zR σ τ) (hW1 : φ 1000 0 = tW) (hW2 : ψ 1000 0 = tW) (hS : va_S (lwA s) s.heap H locs) (hi : i + 6 ≤ L) (hl : lv_has ls 4 [(0, .ref b), (1, .ref (φ 0 0)), (2, .ref (ψ 64 0)), (3, .int (nI i))]) (hn : lwN p l e s m below meth c D dA b L tW xs i (φ 0 0) (ψ 64 0)) : W p l e room_1 s m #[Value.ref b] below meth c H locs (100 + i) (3000 + 10 * i) (lw_Z below #[Value.ref b] s) (F0 m 1060 ls []) := by
  obtain ⟨hx, hb, -⟩ := id C
  have hL9 : L ≤ 3072 := C.2.2.2.2.2.2.2.2.2.2.2.2
  obtain ⟨r, σ1, τ1, e1, e2, hr1⟩ := P_load hr (nf := 5000) (by decide) ((xs (i + 1)).toInt) ((xs (i + 2)).toInt) (zin_x _) (zin_x _)
  refine lv_aload_n hx hb dL_law_1060 rfl (lv_at hl 1 rfl) ?_
  refine lw_arg (k := 1) (kn := 1) C hS hl rfl (by omega) dL_law_1061 dL_law_1062 dL_law_1063 dL_law_1064 dL_law_1065 ?_
  refine lw_arg (k := 2) (kn := 2) C hS hl rfl (by omega) dL_law_1066 dL_law_1067 dL_law_1068 dL_law_1069 dL_law_1070 ?_
  refine lw_call (avs := [.inl ((xs (i + 1)).toInt), .inl ((xs (i + 2)).toInt)]) (rest := []) zx0 C yw_185 rfl (by have k9 := kX10_load σ 0 ((xs (i + 1)).toInt) ((xs (i + 2)).toInt); rw [e1] at k9; exact k9) hT (zR_n hr).1 hW1 (fun v hv => by simp only [List.mem_cons, List.not_mem_nil, or_false] at hv; rcases hv with rfl | rfl <;> exact (by first | exact zin_x _ | exact zin_b _)) hS hl.1 rfl (Nat.le_of_ble_eq_true rfl) dL_law_1071 ⟨⟨by decide, by decide⟩, by show _ ≤ 624092; omega, by show _ ≤ 7229972; omega⟩ fun φ1 H1 locs1 hT1 hE1 hS => ?_
  refine lv_aload_n hx hb dL_law_1074 rfl (lv_at hl 2 rfl) ?_
  refine lw_arg (k := 1) (kn := 1) C hS hl rfl (by omega) dL_law_1075 dL_law_1076 dL_law_1077 dL_law_1078 dL_law_1079 ?_
  refine lw_arg (k := 2) (kn := 2) C hS hl rfl (by omega) dL_law_1080 dL_law_1081 dL_law_1082 dL_law_1083 dL_law_1084 ?_
  refine lw_call (avs := [.inl ((xs (i + 1)).toInt), .inl ((xs (i + 2)).toInt)]) (rest := [.int (zI r)]) zx64 C yw_186 rfl (by have k9 := kX11_load 5000 τ 0 ((xs (i + 1)).toInt) ((xs (i + 2)).toInt); rw [e2] at k9; exact k9) hT1.symm (zR_n hr).2 hW2 (fun v hv => by simp only [List.mem_cons, List.not_mem_nil, or_false] at hv; rcases hv with rfl | rfl <;> exact (by first | exact zin_x _ | exact zin_b _)) hS hl.1 rfl (Nat.le_of_ble_eq_true rfl) dL_law_1085 ⟨⟨by decide, by decide⟩, by show _ ≤ 624092; omega, by show _ ≤ 7229972; omega⟩ fun ψ1 H2 locs2 hT2 hE2 hS => ?_
  refine lv_icmp_eq (tgt := 1293) hx hb dL_law_1088 (by decide) (fun _ => ?_) (fun q => absurd rfl q)
  refine W.widen (k := 106 + i) (n := 3060 + 10 * i) (by omega) (by omega) ?_
  exact hn φ1 σ1 ψ1 τ1 H2 locs2 hT2.symm hr1 (hE1.1 0 0 (Or.inl ⟨by decide, (zR_n hr).1⟩)) (hE2.1 64 0 (Or.inl ⟨by decide, (zR_n hr).2⟩)) ((hE1.1 1000 0 (Or.inr (by decide))).trans hW1) ((hE2.1 1000 0 (Or.inr (by decide))).trans hW2) hS ls hl
set_option maxHeartbeats 4000000 in
set_option maxRecDepth 20000 in
theorem law_c27 {p : Program} {l : Launch} {e : Env} {s : State} {m : MethodId} {below : List Frame} {meth : Method} {c : Code} {D : va_G} {dA : Nat → ClassId} {b L tW i : Nat} {xs : Nat → Int32} {φ ψ : zF} {σ τ : zS} {H : Heap} {locs : List Loc} {ls : Array Slot} (C : lwC p s m meth c D dA b L tW xs) (hT : zTwo D dA (lwA s) φ σ ψ τ H) (hr : zR σ τ) (hW1 : φ 1000 0 = tW) (hW2 : ψ 1000 0 = tW) (hS : va_S (lwA s) s.heap H locs) (hi : i + 6 ≤ L) (hl : lv_has ls 4 [(0, .ref b), (1, .ref (φ 0 0)), (2, .ref (ψ 64 0)), (3, .int (nI i))]) (hn : lwN p l e s m below meth c D dA b L tW xs i (φ 0 0) (ψ 64 0)) : W p l e room_1 s m #[Value.ref b] below meth c H locs (100 + i) (3000 + 10 * i) (lw_Z below #[Value.ref b] s) (F0 m 1093 ls []) := by
  obtain ⟨hx, hb, -⟩ := id C
  have hL9 : L ≤ 3072 := C.2.2.2.2.2.2.2.2.2.2.2.2
  obtain ⟨r, σ1, τ1, e1, e2, hr1⟩ := P_lines hr (nf := 5000) (by decide) ((xs (i + 1)).toInt) (zin_x _)
  refine lv_aload_n hx hb dL_law_1093 rfl (lv_at hl 1 rfl) ?_
  refine lw_arg (k := 1) (kn := 1) C hS hl rfl (by omega) dL_law_1094 dL_law_1095 dL_law_1096 dL_law_1097 dL_law_1098 ?_
  refine lw_call (avs := [.inl ((xs (i + 1)).toInt)]) (rest := []) zx0 C yw_187 rfl (by have k9 := kX10_lines 5000 σ 0 ((xs (i + 1)).toInt); rw [e1] at k9; exact k9) hT (zR_n hr).1 hW1 (fun v hv => by simp only [List.mem_cons, List.not_mem_nil, or_false] at hv; rcases hv with rfl <;> exact (by first | exact zin_x _ | exact zin_b _)) hS hl.1 rfl (Nat.le_of_ble_eq_true rfl) dL_law_1099 ⟨⟨by decide, by decide⟩, by show _ ≤ 624092; omega, by show _ ≤ 7229972; omega⟩ fun φ1 H1 locs1 hT1 hE1 hS => ?_
  refine lv_aload_n hx hb dL_law_1102 rfl (lv_at hl 2 rfl) ?_
  refine lw_arg (k := 1) (kn := 1) C hS hl rfl (by omega) dL_law_1103 dL_law_1104 dL_law_1105 dL_law_1106 dL_law_1107 ?_
  refine lw_call (avs := [.inl ((xs (i + 1)).toInt)]) (rest := [.int (zI r)]) zx64 C yw_188 rfl (by have k9 := kX11_lines 5000 τ 0 ((xs (i + 1)).toInt); rw [e2] at k9; exact k9) hT1.symm (zR_n hr).2 hW2 (fun v hv => by simp only [List.mem_cons, List.not_mem_nil, or_false] at hv; rcases hv with rfl <;> exact (by first | exact zin_x _ | exact zin_b _)) hS hl.1 rfl (Nat.le_of_ble_eq_true rfl) dL_law_1108 ⟨⟨by decide, by decide⟩, by show _ ≤ 624092; omega, by show _ ≤ 7229972; omega⟩ fun ψ1 H2 locs2 hT2 hE2 hS => ?_
  refine lv_icmp_eq (tgt := 1293) hx hb dL_law_1111 (by decide) (fun _ => ?_) (fun q => absurd rfl q)
  refine W.widen (k := 106 + i) (n := 3060 + 10 * i) (by omega) (by omega) ?_
  exact hn φ1 σ1 ψ1 τ1 H2 locs2 hT2.symm hr1 (hE1.1 0 0 (Or.inl ⟨by decide, (zR_n hr).1⟩)) (hE2.1 64 0 (Or.inl ⟨by decide, (zR_n hr).2⟩)) ((hE1.1 1000 0 (Or.inr (by decide))).trans hW1) ((hE2.1 1000 0 (Or.inr (by decide))).trans hW2) hS ls hl
set_option maxHeartbeats 4000000 in
set_option maxRecDepth 20000 in
theorem law_c28 {p : Program} {l : Launch} {e : Env} {s : State} {m : MethodId} {below : List Frame} {meth : Method} {c : Code} {D : va_G} {dA : Nat → ClassId} {b L tW i : Nat} {xs : Nat → Int32} {φ ψ : zF} {σ τ : zS} {H : Heap} {locs : List Loc} {ls : Array Slot} (C : lwC p s m meth c D dA b L tW xs) (hT : zTwo D dA (lwA s) φ σ ψ τ H) (hr : zR σ τ) (hW1 : φ 1000 0 = tW) (hW2 : ψ 1000 0 = tW) (hS : va_S (lwA s) s.heap H locs) (hi : i + 6 ≤ L) (hl : lv_has ls 4 [(0, .ref b), (1, .ref (φ 0 0)), (2, .ref (ψ 64 0)), (3, .int (nI i))]) (hn : lwN p l e s m below meth c D dA b L tW xs i (φ 0 0) (ψ 64 0)) : W p l e room_1 s m #[Value.ref b] below meth c H locs (100 + i) (3000 + 10 * i) (lw_Z below #[Value.ref b] s) (F0 m 1116 ls []) := by
  obtain ⟨hx, hb, -⟩ := id C
  have hL9 : L ≤ 3072 := C.2.2.2.2.2.2.2.2.2.2.2.2
  obtain ⟨r, σ1, τ1, e1, e2, hr1⟩ := P_wanted hr (nf := 5000) (by decide)
  refine lv_aload_n hx hb dL_law_1116 rfl (lv_at hl 1 rfl) ?_
  refine lw_call (avs := []) (rest := []) zx0 C yw_189 rfl (by have k9 := kX10_wanted 5000 σ 0; rw [e1] at k9; exact k9) hT (zR_n hr).1 hW1 (fun v hv => absurd hv List.not_mem_nil) hS hl.1 rfl (Nat.le_of_ble_eq_true rfl) dL_law_1117 ⟨⟨by decide, by decide⟩, by show _ ≤ 624092; omega, by show _ ≤ 7229972; omega⟩ fun φ1 H1 locs1 hT1 hE1 hS => ?_
  refine lv_aload_n hx hb dL_law_1120 rfl (lv_at hl 2 rfl) ?_
  refine lw_call (avs := []) (rest := [.int (zI r)]) zx64 C yw_190 rfl (by have k9 := kX11_wanted 5000 τ 0; rw [e2] at k9; exact k9) hT1.symm (zR_n hr).2 hW2 (fun v hv => absurd hv List.not_mem_nil) hS hl.1 rfl (Nat.le_of_ble_eq_true rfl) dL_law_1121 ⟨⟨by decide, by decide⟩, by show _ ≤ 624092; omega, by show _ ≤ 7229972; omega⟩ fun ψ1 H2 locs2 hT2 hE2 hS => ?_
  refine lv_icmp_eq (tgt := 1293) hx hb dL_law_1124 (by decide) (fun _ => ?_) (fun q => absurd rfl q)
  refine W.widen (k := 106 + i) (n := 3060 + 10 * i) (by omega) (by omega) ?_
  exact hn φ1 σ1 ψ1 τ1 H2 locs2 hT2.symm hr1 (hE1.1 0 0 (Or.inl ⟨by decide, (zR_n hr).1⟩)) (hE2.1 64 0 (Or.inl ⟨by decide, (zR_n hr).2⟩)) ((hE1.1 1000 0 (Or.inr (by decide))).trans hW1) ((hE2.1 1000 0 (Or.inr (by decide))).trans hW2) hS ls hl
set_option maxHeartbeats 4000000 in
set_option maxRecDepth 20000 in
theorem law_c29 {p : Program} {l : Launch} {e : Env} {s : State} {m : MethodId} {below : List Frame} {meth : Method} {c : Code} {D : va_G} {dA : Nat → ClassId} {b L tW i : Nat} {xs : Nat → Int32} {φ ψ : zF} {σ τ : zS} {H : Heap} {locs : List Loc} {ls : Array Slot} (C : lwC p s m meth c D dA b L tW xs) (hT : zTwo D dA (lwA s) φ σ ψ τ H) (hr : zR σ τ) (hW1 : φ 1000 0 = tW) (hW2 : ψ 1000 0 = tW) (hS : va_S (lwA s) s.heap H locs) (hi : i + 6 ≤ L) (hl : lv_has ls 4 [(0, .ref b), (1, .ref (φ 0 0)), (2, .ref (ψ 64 0)), (3, .int (nI i))]) (hn : lwN p l e s m below meth c D dA b L tW xs i (φ 0 0) (ψ 64 0)) : W p l e room_1 s m #[Value.ref b] below meth c H locs (100 + i) (3000 + 10 * i) (lw_Z below #[Value.ref b] s) (F0 m 1129 ls []) := by
  obtain ⟨hx, hb, -⟩ := id C
  have hL9 : L ≤ 3072 := C.2.2.2.2.2.2.2.2.2.2.2.2
  obtain ⟨r, σ1, τ1, e1, e2, hr1⟩ := P_vital hr (nf := 5000) (by decide) ((xs (i + 1)).toInt) (zin_x _)
  refine lv_aload_n hx hb dL_law_1129 rfl (lv_at hl 1 rfl) ?_
  refine lw_arg (k := 1) (kn := 1) C hS hl rfl (by omega) dL_law_1130 dL_law_1131 dL_law_1132 dL_law_1133 dL_law_1134 ?_
  refine lw_call (avs := [.inl ((xs (i + 1)).toInt)]) (rest := []) zx0 C yw_191 rfl (by have k9 := kX10_vital 5000 σ 0 ((xs (i + 1)).toInt); rw [e1] at k9; exact k9) hT (zR_n hr).1 hW1 (fun v hv => by simp only [List.mem_cons, List.not_mem_nil, or_false] at hv; rcases hv with rfl <;> exact (by first | exact zin_x _ | exact zin_b _)) hS hl.1 rfl (Nat.le_of_ble_eq_true rfl) dL_law_1135 ⟨⟨by decide, by decide⟩, by show _ ≤ 624092; omega, by show _ ≤ 7229972; omega⟩ fun φ1 H1 locs1 hT1 hE1 hS => ?_
  refine lv_aload_n hx hb dL_law_1138 rfl (lv_at hl 2 rfl) ?_
  refine lw_arg (k := 1) (kn := 1) C hS hl rfl (by omega) dL_law_1139 dL_law_1140 dL_law_1141 dL_law_1142 dL_law_1143 ?_
  refine lw_call (avs := [.inl ((xs (i + 1)).toInt)]) (rest := [.int (zI r)]) zx64 C yw_192 rfl (by have k9 := kX11_vital 5000 τ 0 ((xs (i + 1)).toInt); rw [e2] at k9; exact k9) hT1.symm (zR_n hr).2 hW2 (fun v hv => by simp only [List.mem_cons, List.not_mem_nil, or_false] at hv; rcases hv with rfl <;> exact (by first | exact zin_x _ | exact zin_b _)) hS hl.1 rfl (Nat.le_of_ble_eq_true rfl) dL_law_1144 ⟨⟨by decide, by decide⟩, by show _ ≤ 624092; omega, by show _ ≤ 7229972; omega⟩ fun ψ1 H2 locs2 hT2 hE2 hS => ?_
  refine lv_icmp_eq (tgt := 1293) hx hb dL_law_1147 (by decide) (fun _ => ?_) (fun q => absurd rfl q)
  refine W.widen (k := 106 + i) (n := 3060 + 10 * i) (by omega) (by omega) ?_
  exact hn φ1 σ1 ψ1 τ1 H2 locs2 hT2.symm hr1 (hE1.1 0 0 (Or.inl ⟨by decide, (zR_n hr).1⟩)) (hE2.1 64 0 (Or.inl ⟨by decide, (zR_n hr).2⟩)) ((hE1.1 1000 0 (Or.inr (by decide))).trans hW1) ((hE2.1 1000 0 (Or.inr (by decide))).trans hW2) hS ls hl
set_option maxHeartbeats 4000000 in
set_option maxRecDepth 20000 in
theorem law_c30 {p : Program} {l : Launch} {e : Env} {s : State} {m : MethodId} {below : List Frame} {meth : Method} {c : Code} {D : va_G} {dA : Nat → ClassId} {b L tW i : Nat} {xs : Nat → Int32} {φ ψ : zF} {σ τ : zS} {H : Heap} {locs : List Loc} {ls : Array Slot} (C : lwC p s m meth c D dA b L tW xs) (hT : zTwo D dA (lwA s) φ σ ψ τ H) (hr : zR σ τ) (hW1 : φ 1000 0 = tW) (hW2 : ψ 1000 0 = tW) (hS : va_S (lwA s) s.heap H locs) (hi : i + 6 ≤ L) (hl : lv_has ls 4 [(0, .ref b), (1, .ref (φ 0 0)), (2, .ref (ψ 64 0)), (3, .int (nI i))]) (hn : lwN p l e s m below meth c D dA b L tW xs i (φ 0 0) (ψ 64 0)) : W p l e room_1 s m #[Value.ref b] below meth c H locs (100 + i) (3000 + 10 * i) (lw_Z below #[Value.ref b] s) (F0 m 1152 ls []) := by
  obtain ⟨hx, hb, -⟩ := id C
  have hL9 : L ≤ 3072 := C.2.2.2.2.2.2.2.2.2.2.2.2
  obtain ⟨r, σ1, τ1, e1, e2, hr1⟩ := P_loss hr (nf := 5000) (by decide) ((xs (i + 1)).toInt) ((xs (i + 2)).toInt) (zin_x _) (zin_x _)
  refine lv_aload_n hx hb dL_law_1152 rfl (lv_at hl 1 rfl) ?_
  refine lw_arg (k := 1) (kn := 1) C hS hl rfl (by omega) dL_law_1153 dL_law_1154 dL_law_1155 dL_law_1156 dL_law_1157 ?_
  refine lw_arg (k := 2) (kn := 2) C hS hl rfl (by omega) dL_law_1158 dL_law_1159 dL_law_1160 dL_law_1161 dL_law_1162 ?_
  refine lw_call (avs := [.inl ((xs (i + 1)).toInt), .inl ((xs (i + 2)).toInt)]) (rest := []) zx0 C yw_193 rfl (by have k9 := kX10_loss σ 0 ((xs (i + 1)).toInt) ((xs (i + 2)).toInt); rw [e1] at k9; exact k9) hT (zR_n hr).1 hW1 (fun v hv => by simp only [List.mem_cons, List.not_mem_nil, or_false] at hv; rcases hv with rfl | rfl <;> exact (by first | exact zin_x _ | exact zin_b _)) hS hl.1 rfl (Nat.le_of_ble_eq_true rfl) dL_law_1163 ⟨⟨by decide, by decide⟩, by show _ ≤ 624092; omega, by show _ ≤ 7229972; omega⟩ fun φ1 H1 locs1 hT1 hE1 hS => ?_
  refine lv_aload_n hx hb dL_law_1166 rfl (lv_at hl 2 rfl) ?_
  refine lw_arg (k := 1) (kn := 1) C hS hl rfl (by omega) dL_law_1167 dL_law_1168 dL_law_1169 dL_law_1170 dL_law_1171 ?_
  refine lw_arg (k := 2) (kn := 2) C hS hl rfl (by omega) dL_law_1172 dL_law_1173 dL_law_1174 dL_law_1175 dL_law_1176 ?_
  refine lw_call (avs := [.inl ((xs (i + 1)).toInt), .inl ((xs (i + 2)).toInt)]) (rest := [.int (zI r)]) zx64 C yw_194 rfl (by have k9 := kX11_loss 5000 τ 0 ((xs (i + 1)).toInt) ((xs (i + 2)).toInt); rw [e2] at k9; exact k9) hT1.symm (zR_n hr).2 hW2 (fun v hv => by simp only [List.mem_cons, List.not_mem_nil, or_false] at hv; rcases hv with rfl | rfl <;> exact (by first | exact zin_x _ | exact zin_b _)) hS hl.1 rfl (Nat.le_of_ble_eq_true rfl) dL_law_1177 ⟨⟨by decide, by decide⟩, by show _ ≤ 624092; omega, by show _ ≤ 7229972; omega⟩ fun ψ1 H2 locs2 hT2 hE2 hS => ?_
  refine lv_icmp_eq (tgt := 1293) hx hb dL_law_1180 (by decide) (fun _ => ?_) (fun q => absurd rfl q)
  refine W.widen (k := 106 + i) (n := 3060 + 10 * i) (by omega) (by omega) ?_
  exact hn φ1 σ1 ψ1 τ1 H2 locs2 hT2.symm hr1 (hE1.1 0 0 (Or.inl ⟨by decide, (zR_n hr).1⟩)) (hE2.1 64 0 (Or.inl ⟨by decide, (zR_n hr).2⟩)) ((hE1.1 1000 0 (Or.inr (by decide))).trans hW1) ((hE2.1 1000 0 (Or.inr (by decide))).trans hW2) hS ls hl
set_option maxHeartbeats 4000000 in
set_option maxRecDepth 20000 in
theorem law_c31 {p : Program} {l : Launch} {e : Env} {s : State} {m : MethodId} {below : List Frame} {meth : Method} {c : Code} {D : va_G} {dA : Nat → ClassId} {b L tW i : Nat} {xs : Nat → Int32} {φ ψ : zF} {σ τ : zS} {H : Heap} {locs : List Loc} {ls : Array Slot} (C : lwC p s m meth c D dA b L tW xs) (hT : zTwo D dA (lwA s) φ σ ψ τ H) (hr : zR σ τ) (hW1 : φ 1000 0 = tW) (hW2 : ψ 1000 0 = tW) (hS : va_S (lwA s) s.heap H locs) (hi : i + 6 ≤ L) (hl : lv_has ls 4 [(0, .ref b), (1, .ref (φ 0 0)), (2, .ref (ψ 64 0)), (3, .int (nI i))]) (hn : lwN p l e s m below meth c D dA b L tW xs i (φ 0 0) (ψ 64 0)) : W p l e room_1 s m #[Value.ref b] below meth c H locs (100 + i) (3000 + 10 * i) (lw_Z below #[Value.ref b] s) (F0 m 1185 ls []) := by
  obtain ⟨hx, hb, -⟩ := id C
  have hL9 : L ≤ 3072 := C.2.2.2.2.2.2.2.2.2.2.2.2
  obtain ⟨r, σ1, τ1, e1, e2, hr1⟩ := P_bells hr (nf := 5000) (by decide)
  refine lv_aload_n hx hb dL_law_1185 rfl (lv_at hl 1 rfl) ?_
  refine lw_call (avs := []) (rest := []) zx0 C yw_195 rfl (by have k9 := kX10_bells σ 0; rw [e1] at k9; exact k9) hT (zR_n hr).1 hW1 (fun v hv => absurd hv List.not_mem_nil) hS hl.1 rfl (Nat.le_of_ble_eq_true rfl) dL_law_1186 ⟨⟨by decide, by decide⟩, by show _ ≤ 624092; omega, by show _ ≤ 7229972; omega⟩ fun φ1 H1 locs1 hT1 hE1 hS => ?_
  refine lv_aload_n hx hb dL_law_1189 rfl (lv_at hl 2 rfl) ?_
  refine lw_call (avs := []) (rest := [.int (zI r)]) zx64 C yw_196 rfl (by have k9 := kX11_bells τ 0; rw [e2] at k9; exact k9) hT1.symm (zR_n hr).2 hW2 (fun v hv => absurd hv List.not_mem_nil) hS hl.1 rfl (Nat.le_of_ble_eq_true rfl) dL_law_1190 ⟨⟨by decide, by decide⟩, by show _ ≤ 624092; omega, by show _ ≤ 7229972; omega⟩ fun ψ1 H2 locs2 hT2 hE2 hS => ?_
  refine lv_icmp_eq (tgt := 1293) hx hb dL_law_1193 (by decide) (fun _ => ?_) (fun q => absurd rfl q)
  refine W.widen (k := 106 + i) (n := 3060 + 10 * i) (by omega) (by omega) ?_
  exact hn φ1 σ1 ψ1 τ1 H2 locs2 hT2.symm hr1 (hE1.1 0 0 (Or.inl ⟨by decide, (zR_n hr).1⟩)) (hE2.1 64 0 (Or.inl ⟨by decide, (zR_n hr).2⟩)) ((hE1.1 1000 0 (Or.inr (by decide))).trans hW1) ((hE2.1 1000 0 (Or.inr (by decide))).trans hW2) hS ls hl
set_option maxHeartbeats 4000000 in
set_option maxRecDepth 20000 in
theorem law_c32 {p : Program} {l : Launch} {e : Env} {s : State} {m : MethodId} {below : List Frame} {meth : Method} {c : Code} {D : va_G} {dA : Nat → ClassId} {b L tW i : Nat} {xs : Nat → Int32} {φ ψ : zF} {σ τ : zS} {H : Heap} {locs : List Loc} {ls : Array Slot} (C : lwC p s m meth c D dA b L tW xs) (hT : zTwo D dA (lwA s) φ σ ψ τ H) (hr : zR σ τ) (hW1 : φ 1000 0 = tW) (hW2 : ψ 1000 0 = tW) (hS : va_S (lwA s) s.heap H locs) (hi : i + 6 ≤ L) (hl : lv_has ls 4 [(0, .ref b), (1, .ref (φ 0 0)), (2, .ref (ψ 64 0)), (3, .int (nI i))]) (hn : lwN p l e s m below meth c D dA b L tW xs i (φ 0 0) (ψ 64 0)) : W p l e room_1 s m #[Value.ref b] below meth c H locs (100 + i) (3000 + 10 * i) (lw_Z below #[Value.ref b] s) (F0 m 1198 ls []) := by
  obtain ⟨hx, hb, -⟩ := id C
  have hL9 : L ≤ 3072 := C.2.2.2.2.2.2.2.2.2.2.2.2
  obtain ⟨r, σ1, τ1, e1, e2, hr1⟩ := P_bell hr (nf := 5000) (by decide) ((xs (i + 1)).toInt) (if (xs (i + 2)).toInt = 0 then 0 else 1) (zin_x _) (b01 _)
  refine lv_aload_n hx hb dL_law_1198 rfl (lv_at hl 1 rfl) ?_
  refine lw_arg (k := 1) (kn := 1) C hS hl rfl (by omega) dL_law_1199 dL_law_1200 dL_law_1201 dL_law_1202 dL_law_1203 ?_
  refine lw_arg (k := 2) (kn := 2) C hS hl rfl (by omega) dL_law_1204 dL_law_1205 dL_law_1206 dL_law_1207 dL_law_1208 ?_
  refine lw_bool C (zin_x _) dL_law_1209 dL_law_1212 dL_law_1213 dL_law_1216 ?_
  refine lw_call (avs := [.inl ((xs (i + 1)).toInt), .inl (if (xs (i + 2)).toInt = 0 then 0 else 1)]) (rest := []) zx0 C yw_197 rfl (by have k9 := kX10_bell σ 0 ((xs (i + 1)).toInt) (if (xs (i + 2)).toInt = 0 then 0 else 1); rw [e1] at k9; exact k9) hT (zR_n hr).1 hW1 (fun v hv => by simp only [List.mem_cons, List.not_mem_nil, or_false] at hv; rcases hv with rfl | rfl <;> exact (by first | exact zin_x _ | exact zin_b _)) hS hl.1 rfl (Nat.le_of_ble_eq_true rfl) dL_law_1217 ⟨⟨by decide, by decide⟩, by show _ ≤ 624092; omega, by show _ ≤ 7229972; omega⟩ fun φ1 H1 locs1 hT1 hE1 hS => ?_
  refine lv_aload_n hx hb dL_law_1220 rfl (lv_at hl 2 rfl) ?_
  refine lw_arg (k := 1) (kn := 1) C hS hl rfl (by omega) dL_law_1221 dL_law_1222 dL_law_1223 dL_law_1224 dL_law_1225 ?_
  refine lw_arg (k := 2) (kn := 2) C hS hl rfl (by omega) dL_law_1226 dL_law_1227 dL_law_1228 dL_law_1229 dL_law_1230 ?_
  refine lw_bool C (zin_x _) dL_law_1231 dL_law_1234 dL_law_1235 dL_law_1238 ?_
  refine lw_call (avs := [.inl ((xs (i + 1)).toInt), .inl (if (xs (i + 2)).toInt = 0 then 0 else 1)]) (rest := [.int (zI r)]) zx64 C yw_198 rfl (by have k9 := kX11_bell τ 0 ((xs (i + 1)).toInt) (if (xs (i + 2)).toInt = 0 then 0 else 1); rw [e2] at k9; exact k9) hT1.symm (zR_n hr).2 hW2 (fun v hv => by simp only [List.mem_cons, List.not_mem_nil, or_false] at hv; rcases hv with rfl | rfl <;> exact (by first | exact zin_x _ | exact zin_b _)) hS hl.1 rfl (Nat.le_of_ble_eq_true rfl) dL_law_1239 ⟨⟨by decide, by decide⟩, by show _ ≤ 624092; omega, by show _ ≤ 7229972; omega⟩ fun ψ1 H2 locs2 hT2 hE2 hS => ?_
  refine lv_icmp_eq (tgt := 1293) hx hb dL_law_1242 (by decide) (fun _ => ?_) (fun q => absurd rfl q)
  refine W.widen (k := 106 + i) (n := 3060 + 10 * i) (by omega) (by omega) ?_
  exact hn φ1 σ1 ψ1 τ1 H2 locs2 hT2.symm hr1 (hE1.1 0 0 (Or.inl ⟨by decide, (zR_n hr).1⟩)) (hE2.1 64 0 (Or.inl ⟨by decide, (zR_n hr).2⟩)) ((hE1.1 1000 0 (Or.inr (by decide))).trans hW1) ((hE2.1 1000 0 (Or.inr (by decide))).trans hW2) hS ls hl
set_option maxHeartbeats 4000000 in
set_option maxRecDepth 20000 in
theorem law_c33 {p : Program} {l : Launch} {e : Env} {s : State} {m : MethodId} {below : List Frame} {meth : Method} {c : Code} {D : va_G} {dA : Nat → ClassId} {b L tW i : Nat} {xs : Nat → Int32} {φ ψ : zF} {σ τ : zS} {H : Heap} {locs : List Loc} {ls : Array Slot} (C : lwC p s m meth c D dA b L tW xs) (hT : zTwo D dA (lwA s) φ σ ψ τ H) (hr : zR σ τ) (hW1 : φ 1000 0 = tW) (hW2 : ψ 1000 0 = tW) (hS : va_S (lwA s) s.heap H locs) (hi : i + 6 ≤ L) (hl : lv_has ls 4 [(0, .ref b), (1, .ref (φ 0 0)), (2, .ref (ψ 64 0)), (3, .int (nI i))]) (hn : lwN p l e s m below meth c D dA b L tW xs i (φ 0 0) (ψ 64 0)) : W p l e room_1 s m #[Value.ref b] below meth c H locs (100 + i) (3000 + 10 * i) (lw_Z below #[Value.ref b] s) (F0 m 1247 ls []) := by
  obtain ⟨hx, hb, -⟩ := id C
  have hL9 : L ≤ 3072 := C.2.2.2.2.2.2.2.2.2.2.2.2
  obtain ⟨r, σ1, τ1, e1, e2, hr1⟩ := P_mayBe hr (nf := 5000) (by decide) ((xs (i + 1)).toInt) (zin_x _)
  refine lv_aload_n hx hb dL_law_1247 rfl (lv_at hl 1 rfl) ?_
  refine lw_arg (k := 1) (kn := 1) C hS hl rfl (by omega) dL_law_1248 dL_law_1249 dL_law_1250 dL_law_1251 dL_law_1252 ?_
  refine lw_call (avs := [.inl ((xs (i + 1)).toInt)]) (rest := []) zx0 C yw_199 rfl (by have k9 := kX10_mayBe 5000 σ 0 ((xs (i + 1)).toInt); rw [e1] at k9; exact k9) hT (zR_n hr).1 hW1 (fun v hv => by simp only [List.mem_cons, List.not_mem_nil, or_false] at hv; rcases hv with rfl <;> exact (by first | exact zin_x _ | exact zin_b _)) hS hl.1 rfl (Nat.le_of_ble_eq_true rfl) dL_law_1253 ⟨⟨by decide, by decide⟩, by show _ ≤ 624092; omega, by show _ ≤ 7229972; omega⟩ fun φ1 H1 locs1 hT1 hE1 hS => ?_
  refine lv_aload_n hx hb dL_law_1256 rfl (lv_at hl 2 rfl) ?_
  refine lw_arg (k := 1) (kn := 1) C hS hl rfl (by omega) dL_law_1257 dL_law_1258 dL_law_1259 dL_law_1260 dL_law_1261 ?_
  refine lw_call (avs := [.inl ((xs (i + 1)).toInt)]) (rest := [.int (zI r)]) zx64 C yw_200 rfl (by have k9 := kX11_mayBe 5000 τ 0 ((xs (i + 1)).toInt); rw [e2] at k9; exact k9) hT1.symm (zR_n hr).2 hW2 (fun v hv => by simp only [List.mem_cons, List.not_mem_nil, or_false] at hv; rcases hv with rfl <;> exact (by first | exact zin_x _ | exact zin_b _)) hS hl.1 rfl (Nat.le_of_ble_eq_true rfl) dL_law_1262 ⟨⟨by decide, by decide⟩, by show _ ≤ 624092; omega, by show _ ≤ 7229972; omega⟩ fun ψ1 H2 locs2 hT2 hE2 hS => ?_
  refine lv_icmp_eq (tgt := 1293) hx hb dL_law_1265 (by decide) (fun _ => ?_) (fun q => absurd rfl q)
  refine W.widen (k := 106 + i) (n := 3060 + 10 * i) (by omega) (by omega) ?_
  exact hn φ1 σ1 ψ1 τ1 H2 locs2 hT2.symm hr1 (hE1.1 0 0 (Or.inl ⟨by decide, (zR_n hr).1⟩)) (hE2.1 64 0 (Or.inl ⟨by decide, (zR_n hr).2⟩)) ((hE1.1 1000 0 (Or.inr (by decide))).trans hW1) ((hE2.1 1000 0 (Or.inr (by decide))).trans hW2) hS ls hl
set_option maxHeartbeats 4000000 in
set_option maxRecDepth 20000 in
theorem law_c34 {p : Program} {l : Launch} {e : Env} {s : State} {m : MethodId} {below : List Frame} {meth : Method} {c : Code} {D : va_G} {dA : Nat → ClassId} {b L tW i : Nat} {xs : Nat → Int32} {φ ψ : zF} {σ τ : zS} {H : Heap} {locs : List Loc} {ls : Array Slot} (C : lwC p s m meth c D dA b L tW xs) (hT : zTwo D dA (lwA s) φ σ ψ τ H) (hr : zR σ τ) (hW1 : φ 1000 0 = tW) (hW2 : ψ 1000 0 = tW) (hS : va_S (lwA s) s.heap H locs) (hi : i + 6 ≤ L) (hl : lv_has ls 4 [(0, .ref b), (1, .ref (φ 0 0)), (2, .ref (ψ 64 0)), (3, .int (nI i))]) (hn : lwN p l e s m below meth c D dA b L tW xs i (φ 0 0) (ψ 64 0)) : W p l e room_1 s m #[Value.ref b] below meth c H locs (100 + i) (3000 + 10 * i) (lw_Z below #[Value.ref b] s) (F0 m 1270 ls []) := by
  obtain ⟨hx, hb, -⟩ := id C
  have hL9 : L ≤ 3072 := C.2.2.2.2.2.2.2.2.2.2.2.2
  obtain ⟨r, σ1, τ1, e1, e2, hr1⟩ := P_total hr (nf := 5000) (by decide) ((xs (i + 1)).toInt) (zin_x _)
  refine lv_aload_n hx hb dL_law_1270 rfl (lv_at hl 1 rfl) ?_
  refine lw_arg (k := 1) (kn := 1) C hS hl rfl (by omega) dL_law_1271 dL_law_1272 dL_law_1273 dL_law_1274 dL_law_1275 ?_
  refine lw_call (avs := [.inl ((xs (i + 1)).toInt)]) (rest := []) zx0 C yw_201 rfl (by have k9 := kX10_total 5000 σ 0 ((xs (i + 1)).toInt); rw [e1] at k9; exact k9) hT (zR_n hr).1 hW1 (fun v hv => by simp only [List.mem_cons, List.not_mem_nil, or_false] at hv; rcases hv with rfl <;> exact (by first | exact zin_x _ | exact zin_b _)) hS hl.1 rfl (Nat.le_of_ble_eq_true rfl) dL_law_1276 ⟨⟨by decide, by decide⟩, by show _ ≤ 624092; omega, by show _ ≤ 7229972; omega⟩ fun φ1 H1 locs1 hT1 hE1 hS => ?_
  refine lv_aload_n hx hb dL_law_1279 rfl (lv_at hl 2 rfl) ?_
  refine lw_arg (k := 1) (kn := 1) C hS hl rfl (by omega) dL_law_1280 dL_law_1281 dL_law_1282 dL_law_1283 dL_law_1284 ?_
  refine lw_call (avs := [.inl ((xs (i + 1)).toInt)]) (rest := [.int (zI r)]) zx64 C yw_202 rfl (by have k9 := kX11_total 5000 τ 0 ((xs (i + 1)).toInt); rw [e2] at k9; exact k9) hT1.symm (zR_n hr).2 hW2 (fun v hv => by simp only [List.mem_cons, List.not_mem_nil, or_false] at hv; rcases hv with rfl <;> exact (by first | exact zin_x _ | exact zin_b _)) hS hl.1 rfl (Nat.le_of_ble_eq_true rfl) dL_law_1285 ⟨⟨by decide, by decide⟩, by show _ ≤ 624092; omega, by show _ ≤ 7229972; omega⟩ fun ψ1 H2 locs2 hT2 hE2 hS => ?_
  refine lv_icmp_eq (tgt := 1293) hx hb dL_law_1288 (by decide) (fun _ => ?_) (fun q => absurd rfl q)
  refine W.widen (k := 106 + i) (n := 3060 + 10 * i) (by omega) (by omega) ?_
  exact hn φ1 σ1 ψ1 τ1 H2 locs2 hT2.symm hr1 (hE1.1 0 0 (Or.inl ⟨by decide, (zR_n hr).1⟩)) (hE2.1 64 0 (Or.inl ⟨by decide, (zR_n hr).2⟩)) ((hE1.1 1000 0 (Or.inr (by decide))).trans hW1) ((hE2.1 1000 0 (Or.inr (by decide))).trans hW2) hS ls hl
theorem law_loop {p : Program} {l : Launch} {e : Env} {s : State} {m : MethodId} {below : List Frame} {meth : Method} {c : Code} {D : va_G} {dA : Nat → ClassId} {b L tW : Nat} {xs : Nat → Int32} (C : lwC p s m meth c D dA b L tW xs) :
    ∀ (n i : Nat), i ≤ L → L + 1 ≤ i + n → ∀ (φ : zF) (σ : zS) (ψ : zF) (τ : zS) (H : Heap) (locs : List Loc), zTwo D dA (lwA s) φ σ ψ τ H → zR σ τ → φ 1000 0 = tW → ψ 1000 0 = tW → va_S (lwA s) s.heap H locs → ∀ ls : Array Slot, lv_has ls 4 [(0, .ref b), (1, .ref (φ 0 0)), (2, .ref (ψ 64 0)), (3, .int (nI i))] → W p l e room_1 s m #[Value.ref b] below meth c H locs (100 + i) (3000 + 10 * i) (lw_Z below #[Value.ref b] s) (F0 m 18 ls []) := by
  intro n
  induction n with
  | zero => intro i h1 h2; exact absurd h2 (by omega)
  | succ n ih =>
    intro i hiL hin φ σ ψ τ H locs hT hr hW1 hW2 hS ls hl
    obtain ⟨hx, hb, hml, hown, hts, hK, hnst, hst9, hX, hbl, hlk, hrt, hL9⟩ := id C
    have hbA : ¬ lwA s b := Nat.not_le.mpr hbl
    refine lv_iload_n hx hb dL_law_18 rfl (lv_at hl 3 rfl) ?_
    refine lv_aload_n hx hb dL_law_19 rfl (lv_at hl 0 rfl) ?_
    refine va_slen hx hb hX hbl hbA hS dL_law_20 ?_
    refine lv_bipush (v := 6) hx hb dL_law_21 (by decide) ?_
    refine lv_isub hx hb dL_law_23 ?_
    have e6 : Int32.ofNat L - 6 = zI ((L : Int) - 6) := by
      rw [← zI_ofNat (by omega), show (6 : Int32) = zI 6 from by decide, zI_sub (by unfold zin; omega) (by unfold zin; omega), wr_id (by unfold zin; omega)]
    have ei : nI i = zI (i : Int) := (zI_ofNat (by omega)).symm
    refine lv_icmp_gt (tgt := 1299) hx hb dL_law_24 (by decide) (fun q => ?_) (fun q => ?_)
    · refine lv_iconst (v := 1) hx hb dL_law_1299 (by decide) ?_
      refine va_forget (fun q hq => hS.2.2 q hq) ?_
      refine W.widen (k := 624092) (n := 7229972) (by omega) (by omega) ?_
      exact lw_ret hx hb hrt hlk dL_law_1300
    · have hi : i + 6 ≤ L := by
        rw [e6, ei, zI_lt (by unfold zin; omega) (by unfold zin; omega)] at q
        omega
      refine lv_aload_n hx hb dL_law_27 rfl (lv_at hl 0 rfl) ?_
      refine lv_iload_n hx hb dL_law_28 rfl (lv_at hl 3 rfl) ?_
      refine va_sld hx hb hX hbl hbA hS (vp_in_nI (by omega) (by omega)) dL_law_29 ?_
      refine lv_bipush (v := 63) hx hb dL_law_30 (by decide) ?_
      refine lv_iand hx hb dL_law_32 ?_
      have hn : lwN p l e s m below meth c D dA b L tW xs i (φ 0 0) (ψ 64 0) := by
        intro φ' σ' ψ' τ' H' locs' hT' hr' hq1 hq2 hW1' hW2' hS' ls' hl'
        refine lv_iinc (k := 3) (v := nI (i + 6)) hx hb dL_law_1293 hl' rfl (by rw [show Int32.ofInt 6 = nI 6 from by decide, nI_add]) (by decide) rfl (fun ls2 hl2 => ?_)
        refine lv_goto (tgt := 18) hx hb dL_law_1296 (by decide) ?_
        rw [← hq1, ← hq2] at hl2
        exact W.cs (by omega) (by omega) (ih (i + 6) hi (by omega) φ' σ' ψ' τ' H' locs' hT' hr' hW1' hW2' hS' ls2 (lv_sub hl2 [1, 2, 3, 0] rfl))
      obtain ⟨j, hj, hz⟩ := pk_andE (xs (nI i).toNatClampNeg) (m := 63) 6 (by decide)
      rw [hz]
      by_cases h34 : 34 < j
      · refine lv_tableOut (tgt := 1293) hx hb dL_law_33 (Or.inr (by rw [nI_toInt (by omega)]; omega)) (by decide) ?_
        exact W.widen (k := 106 + i) (n := 3060 + 10 * i) (by omega) (by omega) (hn φ σ ψ τ H locs hT hr rfl rfl hW1 hW2 hS ls hl)
      · have hjs : j = 0 ∨ j = 1 ∨ j = 2 ∨ j = 3 ∨ j = 4 ∨ j = 5 ∨ j = 6 ∨ j = 7 ∨ j = 8 ∨ j = 9 ∨ j = 10 ∨ j = 11 ∨ j = 12 ∨ j = 13 ∨ j = 14 ∨ j = 15 ∨ j = 16 ∨ j = 17 ∨ j = 18 ∨ j = 19 ∨ j = 20 ∨ j = 21 ∨ j = 22 ∨ j = 23 ∨ j = 24 ∨ j = 25 ∨ j = 26 ∨ j = 27 ∨ j = 28 ∨ j = 29 ∨ j = 30 ∨ j = 31 ∨ j = 32 ∨ j = 33 ∨ j = 34 := by omega
        rcases hjs with rfl | rfl | rfl | rfl | rfl | rfl | rfl | rfl | rfl | rfl | rfl | rfl | rfl | rfl | rfl | rfl | rfl | rfl | rfl | rfl | rfl | rfl | rfl | rfl | rfl | rfl | rfl | rfl | rfl | rfl | rfl | rfl | rfl | rfl | rfl
        · exact lv_tableIn (tgt := 188) hx hb dL_law_33 (by decide) (by decide) (by rfl) (by decide) (law_c0 C hT hr hW1 hW2 hS hi hl hn)
        · exact lv_tableIn (tgt := 283) hx hb dL_law_33 (by decide) (by decide) (by rfl) (by decide) (law_c1 C hT hr hW1 hW2 hS hi hl hn)
        · exact lv_tableIn (tgt := 326) hx hb dL_law_33 (by decide) (by decide) (by rfl) (by decide) (law_c2 C hT hr hW1 hW2 hS hi hl hn)
        · exact lv_tableIn (tgt := 359) hx hb dL_law_33 (by decide) (by decide) (by rfl) (by decide) (law_c3 C hT hr hW1 hW2 hS hi hl hn)
        · exact lv_tableIn (tgt := 408) hx hb dL_law_33 (by decide) (by decide) (by rfl) (by decide) (law_c4 C hT hr hW1 hW2 hS hi hl hn)
        · exact lv_tableIn (tgt := 431) hx hb dL_law_33 (by decide) (by decide) (by rfl) (by decide) (law_c5 C hT hr hW1 hW2 hS hi hl hn)
        · exact lv_tableIn (tgt := 454) hx hb dL_law_33 (by decide) (by decide) (by rfl) (by decide) (law_c6 C hT hr hW1 hW2 hS hi hl hn)
        · exact lv_tableIn (tgt := 477) hx hb dL_law_33 (by decide) (by decide) (by rfl) (by decide) (law_c7 C hT hr hW1 hW2 hS hi hl hn)
        · exact lv_tableIn (tgt := 510) hx hb dL_law_33 (by decide) (by decide) (by rfl) (by decide) (law_c8 C hT hr hW1 hW2 hS hi hl hn)
        · exact lv_tableIn (tgt := 553) hx hb dL_law_33 (by decide) (by decide) (by rfl) (by decide) (law_c9 C hT hr hW1 hW2 hS hi hl hn)
        · exact lv_tableIn (tgt := 606) hx hb dL_law_33 (by decide) (by decide) (by rfl) (by decide) (law_c10 C hT hr hW1 hW2 hS hi hl hn)
        · exact lv_tableIn (tgt := 629) hx hb dL_law_33 (by decide) (by decide) (by rfl) (by decide) (law_c11 C hT hr hW1 hW2 hS hi hl hn)
        · exact lv_tableIn (tgt := 652) hx hb dL_law_33 (by decide) (by decide) (by rfl) (by decide) (law_c12 C hT hr hW1 hW2 hS hi hl hn)
        · exact lv_tableIn (tgt := 685) hx hb dL_law_33 (by decide) (by decide) (by rfl) (by decide) (law_c13 C hT hr hW1 hW2 hS hi hl hn)
        · exact lv_tableIn (tgt := 718) hx hb dL_law_33 (by decide) (by decide) (by rfl) (by decide) (law_c14 C hT hr hW1 hW2 hS hi hl hn)
        · exact lv_tableIn (tgt := 741) hx hb dL_law_33 (by decide) (by decide) (by rfl) (by decide) (law_c15 C hT hr hW1 hW2 hS hi hl hn)
        · exact lv_tableIn (tgt := 764) hx hb dL_law_33 (by decide) (by decide) (by rfl) (by decide) (law_c16 C hT hr hW1 hW2 hS hi hl hn)
        · exact lv_tableIn (tgt := 797) hx hb dL_law_33 (by decide) (by decide) (by rfl) (by decide) (law_c17 C hT hr hW1 hW2 hS hi hl hn)
        · exact lv_tableIn (tgt := 820) hx hb dL_law_33 (by decide) (by decide) (by rfl) (by decide) (law_c18 C hT hr hW1 hW2 hS hi hl hn)
        · exact lv_tableIn (tgt := 843) hx hb dL_law_33 (by decide) (by decide) (by rfl) (by decide) (law_c19 C hT hr hW1 hW2 hS hi hl hn)
        · exact lv_tableIn (tgt := 876) hx hb dL_law_33 (by decide) (by decide) (by rfl) (by decide) (law_c20 C hT hr hW1 hW2 hS hi hl hn)
        · exact lv_tableIn (tgt := 925) hx hb dL_law_33 (by decide) (by decide) (by rfl) (by decide) (law_c21 C hT hr hW1 hW2 hS hi hl hn)
        · exact lv_tableIn (tgt := 958) hx hb dL_law_33 (by decide) (by decide) (by rfl) (by decide) (law_c22 C hT hr hW1 hW2 hS hi hl hn)
        · exact lv_tableIn (tgt := 971) hx hb dL_law_33 (by decide) (by decide) (by rfl) (by decide) (law_c23 C hT hr hW1 hW2 hS hi hl hn)
        · exact lv_tableIn (tgt := 994) hx hb dL_law_33 (by decide) (by decide) (by rfl) (by decide) (law_c24 C hT hr hW1 hW2 hS hi hl hn)
        · exact lv_tableIn (tgt := 1017) hx hb dL_law_33 (by decide) (by decide) (by rfl) (by decide) (law_c25 C hT hr hW1 hW2 hS hi hl hn)
        · exact lv_tableIn (tgt := 1060) hx hb dL_law_33 (by decide) (by decide) (by rfl) (by decide) (law_c26 C hT hr hW1 hW2 hS hi hl hn)
        · exact lv_tableIn (tgt := 1093) hx hb dL_law_33 (by decide) (by decide) (by rfl) (by decide) (law_c27 C hT hr hW1 hW2 hS hi hl hn)
        · exact lv_tableIn (tgt := 1116) hx hb dL_law_33 (by decide) (by decide) (by rfl) (by decide) (law_c28 C hT hr hW1 hW2 hS hi hl hn)
        · exact lv_tableIn (tgt := 1129) hx hb dL_law_33 (by decide) (by decide) (by rfl) (by decide) (law_c29 C hT hr hW1 hW2 hS hi hl hn)
        · exact lv_tableIn (tgt := 1152) hx hb dL_law_33 (by decide) (by decide) (by rfl) (by decide) (law_c30 C hT hr hW1 hW2 hS hi hl hn)
        · exact lv_tableIn (tgt := 1185) hx hb dL_law_33 (by decide) (by decide) (by rfl) (by decide) (law_c31 C hT hr hW1 hW2 hS hi hl hn)
        · exact lv_tableIn (tgt := 1198) hx hb dL_law_33 (by decide) (by decide) (by rfl) (by decide) (law_c32 C hT hr hW1 hW2 hS hi hl hn)
        · exact lv_tableIn (tgt := 1247) hx hb dL_law_33 (by decide) (by decide) (by rfl) (by decide) (law_c33 C hT hr hW1 hW2 hS hi hl hn)
        · exact lv_tableIn (tgt := 1270) hx hb dL_law_33 (by decide) (by decide) (by rfl) (by decide) (law_c34 C hT hr hW1 hW2 hS hi hl hn)
section LZ
variable {p : Program} {l : Launch} {e : Env} {s : State} {m : MethodId} {below : List Frame} {meth : Method} {c : Code} {D : va_G} {dA : Nat → ClassId} {b L tW i : Nat} {xs : Nat → Int32} {H : Heap} {locs : List Loc} {ls : Array Slot} {cl sl pc : Nat} {rest st0 : List Value} {Q : State → Prop}
theorem zL_z0 {dA : Nat → ClassId} {φ : zF} : zL zw dA φ z0 = [] := by
  unfold zL z0
  simp
theorem zRep_z0 {φ : zF} {A : Nat → Prop} : zRep zw D dA A φ z0 H := by
  refine ⟨fun t i _ hi => absurd hi (Nat.not_lt_zero i), fun t i t' i' _ hi => absurd hi (Nat.not_lt_zero i), fun _ _ _ => zin0, fun t i k u j _ hi => absurd hi (Nat.not_lt_zero i)⟩
theorem lw_new {t ci N ix : Nat} {Cn : String} {T : u_T} {ty : Nat → FieldType} (X : zCls zw t ci N Cn T ty) (C : lwC p s m meth c D dA b L tW xs) {φ0 ψ : zF} {τ : zS} (hO : zRep zw D dA (lwA s) ψ τ H) (hS : va_S (lwA s) s.heap H locs) (hd : decode code pc = .ok (.new ix, 3)) (hq1 : Cond.classLink RL ix Cn ∈ zT) (hq2 : Cond.instantiable Cn N ∈ zT) (hq3 : Cond.initialized Cn ∈ zT)
    (hdf : ∀ j, j < N → defaultValue (ty j) = match zw.2 t j with | none => Value.int 0 | some _ => Value.null) (h1 : cl + 1 ≤ room_1.cells) (h2 : sl + N ≤ room_1.slots)
    (kk : ∀ (q : Nat) (H1 : Heap), zTwo D dA (lwA s) (zFn φ0 z0 t q) (sN z0 t) ψ τ H1 → va_S (lwA s) s.heap H1 locs → W p l e room_1 s m #[Value.ref b] below meth c H1 locs (cl + 1) (sl + N) Q (F0 m (pc + 3) ls (.ref q :: rest))) : W p l e room_1 s m #[Value.ref b] below meth c H locs cl sl Q (F0 m pc ls rest) := by
  obtain ⟨hx, hb, hml, hown, hts, hK, hnst, hst9, hX, hbl, hlk, hrt, hL9⟩ := C
  obtain ⟨ht, hw, hcl, hin, hty, hnm⟩ := X
  refine va_new (D := D) (ci := ci) (fs := (List.range N).map fun k => match zw.2 t k with | none => Value.int 0 | some _ => Value.null) hx hb hts hin ty hty hown (hts _ hq1) (hts _ hq2) (hts _ hq3) hK hO.P hO.dd hS (fun q hq => hq) hcl (fun j hj => ?_) h1 h2 hd fun q H1 hP1 hD1 hS1 => ?_
  · rw [hdf j hj]
    unfold vp_V
    rw [List.getD_eq_getElem?_getD, zfs_get hj]
    rfl
  · refine kk q H1 ⟨?_, ?_, ?_⟩ hS1
    · have hlast : (zL zw dA ψ τ ++ [(q, (Sum.inr (ci, (List.range N).map fun k => match zw.2 t k with | none => Value.int 0 | some _ => Value.null) : va_E))])[(zL zw dA ψ τ).length]? = some (q, .inr (ci, (List.range N).map fun k => match zw.2 t k with | none => Value.int 0 | some _ => Value.null)) := by simp
      refine zRep_new (H := H) zRep_z0 ht (fun k x hk => ?_) ⟨fun i j x y hi hj _ => ?_, fun k x hk => ?_⟩
      · rw [zL_z0, zE_new_obj hw] at hk
        have hz : k < 1 := (List.getElem?_eq_some_iff.mp hk).1
        rw [show k = 0 by omega] at hk
        cases hk
        exact hP1 _ _ hlast
      · rw [zL_z0] at hi hj
        have h3 : i < 1 := (List.getElem?_eq_some_iff.mp hi).1
        have h4 : j < 1 := (List.getElem?_eq_some_iff.mp hj).1
        omega
      · rw [zL_z0, zE_new_obj hw] at hk
        have hz : k < 1 := (List.getElem?_eq_some_iff.mp hk).1
        rw [show k = 0 by omega] at hk
        cases hk
        exact hD1.2 _ _ hlast
    · refine ⟨fun t' i' ht' hi' => ⟨?_, (hO.1 t' i' ht' hi').2⟩, hO.2⟩
      obtain ⟨q1, hq1⟩ := hO.at ht' hi'
      refine hP1 q1 _ ?_
      rw [List.getElem?_append_left (List.getElem?_eq_some_iff.mp hq1).1]
      exact hq1
    · intro t1 i1 t' i' ht1 hi1 ht' hi' he
      have hi1 : i1 < (if t1 = t then 0 + 1 else 0) := hi1
      have e1 : t1 = t ∧ i1 = 0 := by
        by_cases q1 : t1 = t
        · rw [if_pos q1] at hi1; exact ⟨q1, by omega⟩
        · rw [if_neg q1] at hi1; omega
      obtain ⟨rfl, rfl⟩ := e1
      rw [show zFn φ0 z0 t1 q t1 0 = q from if_pos ⟨rfl, rfl⟩] at he
      obtain ⟨q1, hq1⟩ := hO.at ht' hi'
      have hl1 := (List.getElem?_eq_some_iff.mp hq1).1
      have := hD1.1 q1 (zL zw dA ψ τ).length (ψ t' i', zE zw dA ψ τ t' i') (q, .inr (ci, (List.range N).map fun k => match zw.2 t1 k with | none => Value.int 0 | some _ => Value.null)) (by rw [List.getElem?_append_left hl1]; exact hq1) (by simp) he.symm
      omega
theorem lw_callI {t0 ix : Nat} (ht : t0 < 200) {y : MethodName} {bytes : ByteArray} {maxL fr' lo' mc' ms' : Nat} {φ ψ : zF} {σ τ σ1 : zS} (C : lwC p s m meth c D dA b L tW xs)
    (Y : zYI RL ix y bytes maxL 0) (hct : zCt zw y bytes maxL none fr' lo' mc' ms' eV [.inr (t0, some 0)] σ (some ((), σ1))) (hT : zTwo D dA (lwA s) φ σ ψ τ H) (h0 : 0 < σ.1 t0) (hW1 : φ 1000 0 = tW) (hS : va_S (lwA s) s.heap H locs) (hls : ls.size = 4) (hst : st0 = .ref (φ t0 0) :: rest) (hrs : (rest.map fun v => v.category).sum ≤ 8) (hd : decode code pc = .ok (.invokespecial ix, 3))
    (hrm : (fr' + 1 ≤ room_1.frames ∧ 8 + (maxL + 11) + lo' ≤ room_1.locals) ∧ cl + mc' ≤ room_1.cells ∧ sl + ms' ≤ room_1.slots)
    (kk : ∀ (φ' : zF) (H1 : Heap) (locs1 : List Loc), zTwo D dA (lwA s) φ' σ1 ψ τ H1 → zExt φ σ φ' σ1 → va_S (lwA s) s.heap H1 locs1 → W p l e room_1 s m #[Value.ref b] below meth c H1 locs1 (cl + mc') (sl + ms') Q (F0 m (pc + 3) ls rest)) : W p l e room_1 s m #[Value.ref b] below meth c H locs cl sl Q (F0 m pc ls st0) := by
  have hpre := lw_pre (avs := [.inr (t0, some 0)]) C hT.1 hW1 hS (tl_ok (S := []) (fun i hi => by cases hi; exact Or.inl ⟨ht, h0⟩) (fun v hv => absurd hv List.not_mem_nil))
  obtain ⟨hx, hb, hml, hown, hts, hK, hnst, hst9, hX, hbl, hlk, hrt, hL9⟩ := C
  obtain ⟨y1, yn, y2, y4, y5, y6⟩ := Y
  exact lw_fin (enc := eV) (r1 := ()) (va_runI (As := []) (rest := rest) (b := φ t0 0) ⟨hx, hb, hml, hown, hts⟩ (hct () σ1 rfl l D dA φ H.size) ⟨callB_of 0 hts (zgood_ws y5) rfl rfl rfl (hts _ y4) (hts _ y1) y6 hrm.1, yn, hts _ y2⟩ ⟨zPc_blind, hpre⟩ rfl rfl hls hst (lv_room hrs) hd hrm.2) hT hS (Nat.zero_le _) kk
end LZ
theorem nw_25 : Cond.arrayOver (FieldType.object "FlyingChange$Post") ∈ lw_tbl := List.mem_of_getElem? (i := 94) (by decide +kernel)
theorem nw_27 : Cond.arrayOver (FieldType.object "FlyingChange$Cup") ∈ lw_tbl := List.mem_of_getElem? (i := 96) (by decide +kernel)
theorem nw_29 : Cond.arrayOver (FieldType.object "FlyingChange$Clerk") ∈ lw_tbl := List.mem_of_getElem? (i := 98) (by decide +kernel)
theorem nw_32 : Cond.methodLinkNest RX10 32 yX3_init "FlyingChange" ∈ lw_tbl := List.mem_of_getElem? (i := 101) (by decide +kernel)
theorem nw_45 : Cond.methodLinkNest RX10 39 yX1_init "FlyingChange" ∈ lw_tbl := List.mem_of_getElem? (i := 114) (by decide +kernel)
theorem nw_59 : Cond.methodLinkNest RX10 46 yX5_init "FlyingChange" ∈ lw_tbl := List.mem_of_getElem? (i := 128) (by decide +kernel)
theorem nw_79 : Cond.methodLinkNest RX10 53 yX0_init "FlyingChange" ∈ lw_tbl := List.mem_of_getElem? (i := 148) (by decide +kernel)
theorem nw_99 : Cond.methodLinkNest RX10 60 yX6_init "FlyingChange" ∈ lw_tbl := List.mem_of_getElem? (i := 168) (by decide +kernel)
theorem nw_142 : Cond.methodLinkNest RX7 17 yX9_init "FlyingChange" ∈ lw_tbl := List.mem_of_getElem? (i := 211) (by decide +kernel)
theorem nw_168 : Cond.methodLinkNest RX7 35 yX8_init "FlyingChange" ∈ lw_tbl := List.mem_of_getElem? (i := 237) (by decide +kernel)
theorem nw_352 : Cond.methodLinkNest RX4 11 yX3_init "FlyingChange" ∈ lw_tbl := List.mem_of_getElem? (i := 421) (by decide +kernel)
theorem nw_465 : Cond.laysStatic "FlyingChange" "WORTH" "[I" ∈ lw_tbl := List.mem_of_getElem? (i := 534) (by decide +kernel)
theorem nw_516 : Cond.fieldLinkNest RX3 15 "FlyingChange" "WORTH" "[I" "FlyingChange" ∈ lw_tbl := List.mem_of_getElem? (i := 585) (by decide +kernel)
theorem nw_606 : Cond.fieldLinkNest RX1 18 "FlyingChange" "WORTH" "[I" "FlyingChange" ∈ lw_tbl := List.mem_of_getElem? (i := 675) (by decide +kernel)
set_option maxHeartbeats 4000000 in
set_option maxRecDepth 100000 in
theorem whole_start {p : Program} {e : Env} {s : State} {m : MethodId} {below : List Frame} {meth : Method} {c : Code} (l : Launch) (hflags : l.flags = flags0) {b L : Nat} {xs : Nat → Int32} (hL : L ≤ 3072) (C0 : lw_At p s m meth c b L xs) : W p l e room_1 s m #[Value.ref b] below meth c s.heap [] 0 0 (lw_Z below #[Value.ref b] s) (entryFrame m ([Value.ref b] : List Value).toArray 4) := by
  obtain ⟨hx, hb, hr, hml, hown, hts0, hX, hbl, hlocks, hgv⟩ := id C0
  have hts : ∀ v ∈ zT, v.before #[Value.ref b] s = true := fun v h => hts0 v (zT_of h).1
  obtain ⟨c0, j0, k0⟩ := u_known (C := RX0) (T := TX0) (N := 4) hts zlay1 (hts _ q_78)
  obtain ⟨c1, j1, k1⟩ := u_known (C := RX1) (T := TX1) (N := 2) hts zlay2 (hts _ q_44)
  obtain ⟨c2, j2, k2⟩ := u_known (C := RX2) (T := TX2) (N := 4) hts zlay3 (hts _ q_418)
  obtain ⟨c3, j3, k3⟩ := u_known (C := RX3) (T := TX3) (N := 1) hts zlay4 (hts _ q_31)
  obtain ⟨c4, j4, k4⟩ := u_known (C := RX4) (T := TX4) (N := 15) hts zlay5 (hts _ q_346)
  obtain ⟨c5, j5, k5⟩ := u_known (C := RX5) (T := TX5) (N := 4) hts zlay6 (hts _ q_58)
  obtain ⟨c6, j6, k6⟩ := u_known (C := RX6) (T := TX6) (N := 10) hts zlay7 (hts _ q_98)
  obtain ⟨c7, j7, k7⟩ := u_known (C := RX7) (T := TX7) (N := 16) hts zlay8 (hts _ q_135)
  obtain ⟨c8, j8, k8⟩ := u_known (C := RX8) (T := TX8) (N := 5) hts zlay9 (hts _ q_167)
  obtain ⟨c9, j9, k9⟩ := u_known (C := RX9) (T := TX9) (N := 5) hts zlay10 (hts _ q_141)
  obtain ⟨c10, j10, k10⟩ := u_known (C := RX10) (T := TX10) (N := 17) hts zlay0 (hts _ q_17)
  obtain ⟨c11, j11, k11⟩ := u_known (C := RX11) (T := TX11) (N := 59) hts zlay64 (hts _ q_839)
  obtain ⟨a0, ka0, cm0, f0, g0, h0⟩ := Cond.arrayClass_spec (hts _ q_42)
  obtain ⟨a1, ka1, cm1, f1, g1, h1⟩ := Cond.arrayClass_spec (hts _ q_134)
  obtain ⟨cm2, a2, ka2, e2, -, g2, h2, f2⟩ := Cond.arrayOver_spec (hts0 _ nw_25)
  obtain ⟨cm3, a3, ka3, e3, -, g3, h3, f3⟩ := Cond.arrayOver_spec (hts0 _ nw_27)
  obtain ⟨cm4, a4, ka4, e4, -, g4, h4, f4⟩ := Cond.arrayOver_spec (hts0 _ nw_29)
  obtain ⟨D, dA, hK⟩ : ∃ (D : va_G) (dA : Nat → ClassId), va_K D vwCl (zTys dA) s := by
    refine ⟨(fun k => [c0, c1, c2, c3, c4, c5, c6, c7, c8, c9, c10, c11].getD k c0, fun k => [j0, j1, j2, j3, j4, j5, j6, j7, j8, j9, j10, j11].getD k j0), fun k => [a0, a1, a2, a3, a4].getD k a0, fun k q hq => ?_, fun k q hq => ?_⟩
    · match k, hq with
      | 0, hq => cases hq; exact k0
      | 1, hq => cases hq; exact k1
      | 2, hq => cases hq; exact k2
      | 3, hq => cases hq; exact k3
      | 4, hq => cases hq; exact k4
      | 5, hq => cases hq; exact k5
      | 6, hq => cases hq; exact k6
      | 7, hq => cases hq; exact k7
      | 8, hq => cases hq; exact k8
      | 9, hq => cases hq; exact k9
      | 10, hq => cases hq; exact k10
      | 11, hq => cases hq; exact k11
      | k + 12, hq => simp [vwCl] at hq
    · match k, hq with
      | 0, hq => cases hq; exact ⟨fun n z => ⟨fun k h => (by cases h), ka0, g0, cm0, h0⟩, f0⟩
      | 1, hq => cases hq; exact ⟨fun n z => ⟨fun k h => (by cases h), ka1, g1, cm1, h1⟩, f1⟩
      | 2, hq => cases hq; exact ⟨fun n z => ⟨fun k h => (by cases h), ka2, g2, cm2, h2⟩, ka2, cm2, g2, h2, e2, f2⟩
      | 3, hq => cases hq; exact ⟨fun n z => ⟨fun k h => (by cases h), ka3, g3, cm3, h3⟩, ka3, cm3, g3, h3, e3, f3⟩
      | 4, hq => cases hq; exact ⟨fun n z => ⟨fun k h => (by cases h), ka4, g4, cm4, h4⟩, ka4, cm4, g4, h4, e4, f4⟩
      | k + 5, hq => simp [zTys] at hq
  have hnst : zNst s := by
    show ∀ w ∈ [Cond.arrayOver (FieldType.object "FlyingChange$Post"), Cond.arrayOver (FieldType.object "FlyingChange$Cup"), Cond.arrayOver (FieldType.object "FlyingChange$Clerk"), Cond.methodLinkNest RX10 32 yX3_init "FlyingChange", Cond.methodLinkNest RX10 39 yX1_init "FlyingChange", Cond.methodLinkNest RX10 46 yX5_init "FlyingChange", Cond.methodLinkNest RX10 53 yX0_init "FlyingChange", Cond.methodLinkNest RX10 60 yX6_init "FlyingChange", Cond.methodLinkNest RX7 17 yX9_init "FlyingChange", Cond.methodLinkNest RX7 35 yX8_init "FlyingChange", Cond.methodLinkNest RX4 11 yX3_init "FlyingChange", Cond.fieldLinkNest RX3 15 "FlyingChange" "WORTH" "[I" "FlyingChange", Cond.fieldLinkNest RX1 18 "FlyingChange" "WORTH" "[I" "FlyingChange"], va_Nw w s
    exact List.forall_mem_cons.mpr ⟨va_AO.of (hts0 _ nw_25), List.forall_mem_cons.mpr ⟨va_AO.of (hts0 _ nw_27), List.forall_mem_cons.mpr ⟨va_AO.of (hts0 _ nw_29), List.forall_mem_cons.mpr ⟨va_Nw.of rfl (hts0 _ nw_32), List.forall_mem_cons.mpr ⟨va_Nw.of rfl (hts0 _ nw_45), List.forall_mem_cons.mpr ⟨va_Nw.of rfl (hts0 _ nw_59), List.forall_mem_cons.mpr ⟨va_Nw.of rfl (hts0 _ nw_79), List.forall_mem_cons.mpr ⟨va_Nw.of rfl (hts0 _ nw_99), List.forall_mem_cons.mpr ⟨va_Nw.of rfl (hts0 _ nw_142), List.forall_mem_cons.mpr ⟨va_Nw.of rfl (hts0 _ nw_168), List.forall_mem_cons.mpr ⟨va_Nw.of rfl (hts0 _ nw_352), List.forall_mem_cons.mpr ⟨va_Nw.of rfl (hts0 _ nw_516), List.forall_mem_cons.mpr ⟨va_Nw.of rfl (hts0 _ nw_606), fun _ h => absurd h List.not_mem_nil⟩⟩⟩⟩⟩⟩⟩⟩⟩⟩⟩⟩⟩
  have hs := flat_of_before _ hgv
  have hA9 : ∀ a : Nat, a < s.heap.size → ¬ lwA s a := fun a h q => absurd h (Nat.not_lt.mpr q)
  have harr : (Cond.arrayOf (.static "FlyingChange" "WORTH" "[I") .int).before #[Value.ref b] s = true := hs _ (by decide +kernel)
  have hlen := va_eqt (hs (Cond.eq (.length (.static "FlyingChange" "WORTH" "[I")) (.int 6)) (by decide +kernel))
  have w0 := va_eqt (hs (Cond.eq (.elem (.static "FlyingChange" "WORTH" "[I") (.int 0)) (.int 1)) (by decide +kernel))
  have w1 := va_eqt (hs (Cond.eq (.elem (.static "FlyingChange" "WORTH" "[I") (.int 1)) (.int 3)) (by decide +kernel))
  have w2 := va_eqt (hs (Cond.eq (.elem (.static "FlyingChange" "WORTH" "[I") (.int 2)) (.int 6)) (by decide +kernel))
  have w3 := va_eqt (hs (Cond.eq (.elem (.static "FlyingChange" "WORTH" "[I") (.int 3)) (.int 12)) (by decide +kernel))
  have w4 := va_eqt (hs (Cond.eq (.elem (.static "FlyingChange" "WORTH" "[I") (.int 4)) (.int 30)) (by decide +kernel))
  have w5 := va_eqt (hs (Cond.eq (.elem (.static "FlyingChange" "WORTH" "[I") (.int 5)) (.int 60)) (by decide +kernel))
  obtain ⟨tW, ht, hTt⟩ := va_Tof (N := 6) (f := fun j => .int (zI (zWt j))) (A := lwA s) (by decide) harr hlen (fun j hj => by
    match j, hj with
    | 0, _ => exact w0
    | 1, _ => exact w1
    | 2, _ => exact w2
    | 3, _ => exact w3
    | 4, _ => exact w4
    | 5, _ => exact w5
    | j + 6, hj => omega) hA9
  have hZ := va_Zof (hts0 _ nw_465) (hts _ q_1) ht hA9
  have C : lwC p s m meth c D dA b L tW xs := ⟨hx, hb, hml, hown, hts, hK, hnst, ⟨hZ, hTt⟩, hX, hbl, hlocks, hr, hL⟩
  obtain ⟨X1, M1, eX, eM, hR⟩ := P_init
  have hS : va_S (lwA s) s.heap s.heap [] := va_S.rf
  have hl := lv_entry ([.ref b]) (n := 4) (Nat.le_of_ble_eq_true rfl)
  rw [lg_entry_eq]
  generalize (lg_sl ([.ref b]) ++ List.replicate (4 - (lg_sl ([.ref b])).length) Slot.unset).toArray = ls at hl ⊢
  have hl : lv_has ls 4 [(0, .ref b)] := hl
  refine lw_new (φ0 := fun t _ => if t = 1000 then tW else 0) (ψ := fun t _ => if t = 1000 then tW else 0) zx0 C zRep_z0 hS dL_law_0 q_16 q_17 q_1 (fun j hj => by match j, hj with | 0, _ => rfl | 1, _ => rfl | 2, _ => rfl | 3, _ => rfl | 4, _ => rfl | 5, _ => rfl | 6, _ => rfl | 7, _ => rfl | 8, _ => rfl | 9, _ => rfl | 10, _ => rfl | 11, _ => rfl | 12, _ => rfl | 13, _ => rfl | 14, _ => rfl | 15, _ => rfl | 16, _ => rfl | j + 17, hj => omega) (by decide) (by decide) fun q0 H1 hT hS => ?_
  refine lv_dup hx hb dL_law_3 rfl ?_
  refine lw_callI (t0 := 0) (rest := [.ref q0]) (by decide) C yw_203 (by have k9 := kX10_init (sN z0 0) 0; rw [eX] at k9; exact k9) hT (by decide) rfl hS hl.1 (by rw [show zFn (fun t _ => if t = 1000 then tW else 0) z0 0 q0 0 0 = q0 from if_pos ⟨rfl, rfl⟩]) (Nat.le_of_ble_eq_true rfl) dL_law_4 ⟨⟨by decide, by decide⟩, by decide, by decide⟩ fun φ1 H2 locs2 hT2 hE2 hS => ?_
  have hq0 : φ1 0 0 = q0 := (hE2.1 0 0 (Or.inl ⟨by decide, by decide⟩)).trans (if_pos ⟨rfl, rfl⟩)
  have hw1 : φ1 1000 0 = tW := (hE2.1 1000 0 (Or.inr (by decide))).trans rfl
  refine lv_astore_n (lv' := [(1, .ref q0), (0, .ref b)]) hx hb dL_law_7 rfl hl (by decide) rfl (fun ls hl => ?_)
  refine lw_new (φ0 := fun t _ => if t = 1000 then tW else 0) zx64 C hT2.1 hS dL_law_8 q_838 q_839 q_10 (fun j hj => by match j, hj with | 0, _ => rfl | 1, _ => rfl | 2, _ => rfl | 3, _ => rfl | 4, _ => rfl | 5, _ => rfl | 6, _ => rfl | 7, _ => rfl | 8, _ => rfl | 9, _ => rfl | 10, _ => rfl | 11, _ => rfl | 12, _ => rfl | 13, _ => rfl | 14, _ => rfl | 15, _ => rfl | 16, _ => rfl | 17, _ => rfl | 18, _ => rfl | 19, _ => rfl | 20, _ => rfl | 21, _ => rfl | 22, _ => rfl | 23, _ => rfl | 24, _ => rfl | 25, _ => rfl | 26, _ => rfl | 27, _ => rfl | 28, _ => rfl | 29, _ => rfl | 30, _ => rfl | 31, _ => rfl | 32, _ => rfl | 33, _ => rfl | 34, _ => rfl | 35, _ => rfl | 36, _ => rfl | 37, _ => rfl | 38, _ => rfl | 39, _ => rfl | 40, _ => rfl | 41, _ => rfl | 42, _ => rfl | 43, _ => rfl | 44, _ => rfl | 45, _ => rfl | 46, _ => rfl | 47, _ => rfl | 48, _ => rfl | 49, _ => rfl | 50, _ => rfl | 51, _ => rfl | 52, _ => rfl | 53, _ => rfl | 54, _ => rfl | 55, _ => rfl | 56, _ => rfl | 57, _ => rfl | 58, _ => rfl | j + 59, hj => omega) (by decide) (by decide) fun q1 H3 hT3 hS => ?_
  refine lv_dup hx hb dL_law_11 rfl ?_
  refine lw_callI (t0 := 64) (rest := [.ref q1]) (by decide) C yw_204 (by have k9 := kX11_init (sN z0 64) 0; rw [eM] at k9; exact k9) hT3 (by decide) rfl hS hl.1 (by rw [show zFn (fun t _ => if t = 1000 then tW else 0) z0 64 q1 64 0 = q1 from if_pos ⟨rfl, rfl⟩]) (Nat.le_of_ble_eq_true rfl) dL_law_12 ⟨⟨by decide, by decide⟩, by decide, by decide⟩ fun ψ1 H4 locs4 hT4 hE4 hS => ?_
  have hq1 : ψ1 64 0 = q1 := (hE4.1 64 0 (Or.inl ⟨by decide, by decide⟩)).trans (if_pos ⟨rfl, rfl⟩)
  have hw2 : ψ1 1000 0 = tW := (hE4.1 1000 0 (Or.inr (by decide))).trans rfl
  refine lv_astore_n (lv' := [(2, .ref q1), (1, .ref q0), (0, .ref b)]) hx hb dL_law_15 rfl hl (by decide) rfl (fun ls hl => ?_)
  refine lv_iconst (v := nI 0) hx hb dL_law_16 (by decide) ?_
  refine lv_istore_n (lv' := [(3, .int (nI 0)), (2, .ref q1), (1, .ref q0), (0, .ref b)]) hx hb dL_law_17 rfl hl (by decide) rfl (fun ls hl => ?_)
  refine W.widen (k := 100 + 0) (n := 3000 + 10 * 0) (by omega) (by omega) ?_
  refine law_loop C (L + 1) 0 (Nat.zero_le _) (by omega) φ1 X1 ψ1 M1 H4 locs4 hT4.symm hR hw1 hw2 hS ls ?_
  rw [hq0, hq1]
  exact lv_sub hl [3, 2, 1, 0] rfl
