-- ===== PART A: goes FIRST, ahead of the names: the tables' words, and 'selects' of the private methods out of them =====
/-- a private method of a class that the tables say can be made, by its rows of tables_1 -/
def lw_okq (q : MethodName × Nat) : Prop := (q.1.cls ≠ "java/lang/invoke/MethodHandle" ∧ q.1.cls ≠ "java/lang/invoke/VarHandle") ∧ Cond.instantiable q.1.cls q.2 ∈ tables_1 ∧ Cond.privateMethod q.1 ∈ tables_1 ∧ Cond.instanceMethod q.1 ∈ tables_1
theorem lw_p0 : lw_okq (⟨"FlyingChange", "findPost", "(I)LFlyingChange$Post;"⟩, 17) := ⟨⟨by decide +kernel, by decide +kernel⟩, List.mem_of_getElem? (i := 17) (by decide +kernel), List.mem_of_getElem? (i := 313) (by decide +kernel), List.mem_of_getElem? (i := 314) (by decide +kernel)⟩
theorem lw_p1 : lw_okq (⟨"FlyingChange", "findWire", "(I)LFlyingChange$Post;"⟩, 17) := ⟨⟨by decide +kernel, by decide +kernel⟩, List.mem_of_getElem? (i := 17) (by decide +kernel), List.mem_of_getElem? (i := 339) (by decide +kernel), List.mem_of_getElem? (i := 340) (by decide +kernel)⟩
theorem lw_p2 : lw_okq (⟨"FlyingChange", "findCup", "(I)LFlyingChange$Cup;"⟩, 17) := ⟨⟨by decide +kernel, by decide +kernel⟩, List.mem_of_getElem? (i := 17) (by decide +kernel), List.mem_of_getElem? (i := 461) (by decide +kernel), List.mem_of_getElem? (i := 462) (by decide +kernel)⟩
theorem lw_p3 : lw_okq (⟨"FlyingChange", "moveCups", "()V"⟩, 17) := ⟨⟨by decide +kernel, by decide +kernel⟩, List.mem_of_getElem? (i := 17) (by decide +kernel), List.mem_of_getElem? (i := 522) (by decide +kernel), List.mem_of_getElem? (i := 523) (by decide +kernel)⟩
theorem lw_p4 : lw_okq (⟨"FlyingChange", "endWire", "(LFlyingChange$Cup;LFlyingChange$Post;)V"⟩, 17) := ⟨⟨by decide +kernel, by decide +kernel⟩, List.mem_of_getElem? (i := 17) (by decide +kernel), List.mem_of_getElem? (i := 526) (by decide +kernel), List.mem_of_getElem? (i := 527) (by decide +kernel)⟩
theorem lw_p5 : lw_okq (⟨"FlyingChange", "comeDown", "(LFlyingChange$Cup;LFlyingChange$Post;)V"⟩, 17) := ⟨⟨by decide +kernel, by decide +kernel⟩, List.mem_of_getElem? (i := 17) (by decide +kernel), List.mem_of_getElem? (i := 530) (by decide +kernel), List.mem_of_getElem? (i := 531) (by decide +kernel)⟩
theorem lw_p6 : lw_okq (⟨"FlyingChange", "thrownTo", "(LFlyingChange$Cup;LFlyingChange$Post;)LFlyingChange$Post;"⟩, 17) := ⟨⟨by decide +kernel, by decide +kernel⟩, List.mem_of_getElem? (i := 17) (by decide +kernel), List.mem_of_getElem? (i := 534) (by decide +kernel), List.mem_of_getElem? (i := 535) (by decide +kernel)⟩
theorem lw_p7 : lw_okq (⟨"FlyingChange", "childBehind", "(LFlyingChange$Post;I)LFlyingChange$Post;"⟩, 17) := ⟨⟨by decide +kernel, by decide +kernel⟩, List.mem_of_getElem? (i := 17) (by decide +kernel), List.mem_of_getElem? (i := 545) (by decide +kernel), List.mem_of_getElem? (i := 546) (by decide +kernel)⟩
theorem lw_p8 : lw_okq (⟨"FlyingChange", "ringAt", "(LFlyingChange$Post;)V"⟩, 17) := ⟨⟨by decide +kernel, by decide +kernel⟩, List.mem_of_getElem? (i := 17) (by decide +kernel), List.mem_of_getElem? (i := 553) (by decide +kernel), List.mem_of_getElem? (i := 554) (by decide +kernel)⟩
theorem lw_p9 : lw_okq (⟨"FlyingChange", "comeHome", "(LFlyingChange$Cup;)V"⟩, 17) := ⟨⟨by decide +kernel, by decide +kernel⟩, List.mem_of_getElem? (i := 17) (by decide +kernel), List.mem_of_getElem? (i := 561) (by decide +kernel), List.mem_of_getElem? (i := 562) (by decide +kernel)⟩
theorem lw_p10 : lw_okq (⟨"FlyingChange", "comeUp", "(LFlyingChange$Cup;LFlyingChange$Post;)V"⟩, 17) := ⟨⟨by decide +kernel, by decide +kernel⟩, List.mem_of_getElem? (i := 17) (by decide +kernel), List.mem_of_getElem? (i := 579) (by decide +kernel), List.mem_of_getElem? (i := 580) (by decide +kernel)⟩
theorem lw_p11 : lw_okq (⟨"FlyingChange", "porterCups", "()V"⟩, 17) := ⟨⟨by decide +kernel, by decide +kernel⟩, List.mem_of_getElem? (i := 17) (by decide +kernel), List.mem_of_getElem? (i := 583) (by decide +kernel), List.mem_of_getElem? (i := 584) (by decide +kernel)⟩
theorem lw_p12 : lw_okq (⟨"FlyingChange", "workClerks", "()V"⟩, 17) := ⟨⟨by decide +kernel, by decide +kernel⟩, List.mem_of_getElem? (i := 17) (by decide +kernel), List.mem_of_getElem? (i := 587) (by decide +kernel), List.mem_of_getElem? (i := 588) (by decide +kernel)⟩
theorem lw_p13 : lw_okq (⟨"FlyingChange", "finish", "(LFlyingChange$Clerk;LFlyingChange$Cup;)V"⟩, 17) := ⟨⟨by decide +kernel, by decide +kernel⟩, List.mem_of_getElem? (i := 17) (by decide +kernel), List.mem_of_getElem? (i := 591) (by decide +kernel), List.mem_of_getElem? (i := 592) (by decide +kernel)⟩
theorem lw_p14 : lw_okq (⟨"FlyingChange", "settle", "(LFlyingChange$Cup;)V"⟩, 17) := ⟨⟨by decide +kernel, by decide +kernel⟩, List.mem_of_getElem? (i := 17) (by decide +kernel), List.mem_of_getElem? (i := 595) (by decide +kernel), List.mem_of_getElem? (i := 596) (by decide +kernel)⟩
theorem lw_p15 : lw_okq (⟨"FlyingChange$Change", "fill", "([IIII)I"⟩, 2) := ⟨⟨by decide +kernel, by decide +kernel⟩, List.mem_of_getElem? (i := 44) (by decide +kernel), List.mem_of_getElem? (i := 611) (by decide +kernel), List.mem_of_getElem? (i := 612) (by decide +kernel)⟩
def lw_privs_1 : List (MethodName × Nat) := [(⟨"FlyingChange", "findPost", "(I)LFlyingChange$Post;"⟩, 17), (⟨"FlyingChange", "findWire", "(I)LFlyingChange$Post;"⟩, 17), (⟨"FlyingChange", "findCup", "(I)LFlyingChange$Cup;"⟩, 17), (⟨"FlyingChange", "moveCups", "()V"⟩, 17), (⟨"FlyingChange", "endWire", "(LFlyingChange$Cup;LFlyingChange$Post;)V"⟩, 17), (⟨"FlyingChange", "comeDown", "(LFlyingChange$Cup;LFlyingChange$Post;)V"⟩, 17), (⟨"FlyingChange", "thrownTo", "(LFlyingChange$Cup;LFlyingChange$Post;)LFlyingChange$Post;"⟩, 17), (⟨"FlyingChange", "childBehind", "(LFlyingChange$Post;I)LFlyingChange$Post;"⟩, 17), (⟨"FlyingChange", "ringAt", "(LFlyingChange$Post;)V"⟩, 17), (⟨"FlyingChange", "comeHome", "(LFlyingChange$Cup;)V"⟩, 17), (⟨"FlyingChange", "comeUp", "(LFlyingChange$Cup;LFlyingChange$Post;)V"⟩, 17), (⟨"FlyingChange", "porterCups", "()V"⟩, 17), (⟨"FlyingChange", "workClerks", "()V"⟩, 17), (⟨"FlyingChange", "finish", "(LFlyingChange$Clerk;LFlyingChange$Cup;)V"⟩, 17), (⟨"FlyingChange", "settle", "(LFlyingChange$Cup;)V"⟩, 17), (⟨"FlyingChange$Change", "fill", "([IIII)I"⟩, 2)]
theorem lw_r1 : ∀ q ∈ lw_privs_1, lw_okq q := List.forall_mem_cons.mpr ⟨lw_p0, List.forall_mem_cons.mpr ⟨lw_p1, List.forall_mem_cons.mpr ⟨lw_p2, List.forall_mem_cons.mpr ⟨lw_p3, List.forall_mem_cons.mpr ⟨lw_p4, List.forall_mem_cons.mpr ⟨lw_p5, List.forall_mem_cons.mpr ⟨lw_p6, List.forall_mem_cons.mpr ⟨lw_p7, List.forall_mem_cons.mpr ⟨lw_p8, List.forall_mem_cons.mpr ⟨lw_p9, List.forall_mem_cons.mpr ⟨lw_p10, List.forall_mem_cons.mpr ⟨lw_p11, List.forall_mem_cons.mpr ⟨lw_p12, List.forall_mem_cons.mpr ⟨lw_p13, List.forall_mem_cons.mpr ⟨lw_p14, List.forall_mem_cons.mpr ⟨lw_p15, fun _ h => absurd h List.not_mem_nil⟩⟩⟩⟩⟩⟩⟩⟩⟩⟩⟩⟩⟩⟩⟩⟩
theorem lw_p16 : lw_okq (⟨"FlyingChange", "takeFromRow", "()V"⟩, 17) := ⟨⟨by decide +kernel, by decide +kernel⟩, List.mem_of_getElem? (i := 17) (by decide +kernel), List.mem_of_getElem? (i := 626) (by decide +kernel), List.mem_of_getElem? (i := 627) (by decide +kernel)⟩
theorem lw_p17 : lw_okq (⟨"FlyingChange", "nextOfRow", "()LFlyingChange$Cup;"⟩, 17) := ⟨⟨by decide +kernel, by decide +kernel⟩, List.mem_of_getElem? (i := 17) (by decide +kernel), List.mem_of_getElem? (i := 630) (by decide +kernel), List.mem_of_getElem? (i := 631) (by decide +kernel)⟩
theorem lw_p18 : lw_okq (⟨"FlyingChange", "letOnWires", "()V"⟩, 17) := ⟨⟨by decide +kernel, by decide +kernel⟩, List.mem_of_getElem? (i := 17) (by decide +kernel), List.mem_of_getElem? (i := 645) (by decide +kernel), List.mem_of_getElem? (i := 646) (by decide +kernel)⟩
theorem lw_p19 : lw_okq (⟨"FlyingChange", "letOn", "(LFlyingChange$Post;)V"⟩, 17) := ⟨⟨by decide +kernel, by decide +kernel⟩, List.mem_of_getElem? (i := 17) (by decide +kernel), List.mem_of_getElem? (i := 669) (by decide +kernel), List.mem_of_getElem? (i := 670) (by decide +kernel)⟩
theorem lw_p20 : lw_okq (⟨"FlyingChange", "isFree", "(LFlyingChange$Post;LFlyingChange$Way;LFlyingChange$Way;)Z"⟩, 17) := ⟨⟨by decide +kernel, by decide +kernel⟩, List.mem_of_getElem? (i := 17) (by decide +kernel), List.mem_of_getElem? (i := 673) (by decide +kernel), List.mem_of_getElem? (i := 674) (by decide +kernel)⟩
theorem lw_p21 : lw_okq (⟨"FlyingChange", "lineUp", "(I)I"⟩, 17) := ⟨⟨by decide +kernel, by decide +kernel⟩, List.mem_of_getElem? (i := 17) (by decide +kernel), List.mem_of_getElem? (i := 685) (by decide +kernel), List.mem_of_getElem? (i := 686) (by decide +kernel)⟩
theorem lw_p22 : lw_okq (⟨"FlyingChange", "planRefusal", "(I)I"⟩, 17) := ⟨⟨by decide +kernel, by decide +kernel⟩, List.mem_of_getElem? (i := 17) (by decide +kernel), List.mem_of_getElem? (i := 717) (by decide +kernel), List.mem_of_getElem? (i := 718) (by decide +kernel)⟩
theorem lw_p23 : lw_okq (⟨"FlyingChange", "layPlan", "(I)V"⟩, 17) := ⟨⟨by decide +kernel, by decide +kernel⟩, List.mem_of_getElem? (i := 17) (by decide +kernel), List.mem_of_getElem? (i := 721) (by decide +kernel), List.mem_of_getElem? (i := 722) (by decide +kernel)⟩
theorem lw_p24 : lw_okq (⟨"FlyingChange", "cupsOut", "()I"⟩, 17) := ⟨⟨by decide +kernel, by decide +kernel⟩, List.mem_of_getElem? (i := 17) (by decide +kernel), List.mem_of_getElem? (i := 831) (by decide +kernel), List.mem_of_getElem? (i := 832) (by decide +kernel)⟩
theorem lw_p25 : lw_okq (⟨"FlyingChange", "cupsWorth", "()I"⟩, 17) := ⟨⟨by decide +kernel, by decide +kernel⟩, List.mem_of_getElem? (i := 17) (by decide +kernel), List.mem_of_getElem? (i := 835) (by decide +kernel), List.mem_of_getElem? (i := 836) (by decide +kernel)⟩
theorem lw_p26 : lw_okq (⟨"FlyingChangeModel", "isPost", "(I)Z"⟩, 59) := ⟨⟨by decide +kernel, by decide +kernel⟩, List.mem_of_getElem? (i := 839) (by decide +kernel), List.mem_of_getElem? (i := 1027) (by decide +kernel), List.mem_of_getElem? (i := 1028) (by decide +kernel)⟩
theorem lw_p27 : lw_okq (⟨"FlyingChangeModel", "isWire", "(I)Z"⟩, 59) := ⟨⟨by decide +kernel, by decide +kernel⟩, List.mem_of_getElem? (i := 839) (by decide +kernel), List.mem_of_getElem? (i := 1046) (by decide +kernel), List.mem_of_getElem? (i := 1047) (by decide +kernel)⟩
theorem lw_p28 : lw_okq (⟨"FlyingChangeModel", "isCup", "(I)Z"⟩, 59) := ⟨⟨by decide +kernel, by decide +kernel⟩, List.mem_of_getElem? (i := 839) (by decide +kernel), List.mem_of_getElem? (i := 1074) (by decide +kernel), List.mem_of_getElem? (i := 1075) (by decide +kernel)⟩
theorem lw_p29 : lw_okq (⟨"FlyingChangeModel", "waitAt", "(IIZI)V"⟩, 59) := ⟨⟨by decide +kernel, by decide +kernel⟩, List.mem_of_getElem? (i := 839) (by decide +kernel), List.mem_of_getElem? (i := 1081) (by decide +kernel), List.mem_of_getElem? (i := 1082) (by decide +kernel)⟩
theorem lw_p30 : lw_okq (⟨"FlyingChangeModel", "between", "(II)I"⟩, 59) := ⟨⟨by decide +kernel, by decide +kernel⟩, List.mem_of_getElem? (i := 839) (by decide +kernel), List.mem_of_getElem? (i := 1093) (by decide +kernel), List.mem_of_getElem? (i := 1094) (by decide +kernel)⟩
theorem lw_p31 : lw_okq (⟨"FlyingChangeModel", "liesBelow", "(II)Z"⟩, 59) := ⟨⟨by decide +kernel, by decide +kernel⟩, List.mem_of_getElem? (i := 839) (by decide +kernel), List.mem_of_getElem? (i := 1097) (by decide +kernel), List.mem_of_getElem? (i := 1098) (by decide +kernel)⟩
def lw_privs_2 : List (MethodName × Nat) := [(⟨"FlyingChange", "takeFromRow", "()V"⟩, 17), (⟨"FlyingChange", "nextOfRow", "()LFlyingChange$Cup;"⟩, 17), (⟨"FlyingChange", "letOnWires", "()V"⟩, 17), (⟨"FlyingChange", "letOn", "(LFlyingChange$Post;)V"⟩, 17), (⟨"FlyingChange", "isFree", "(LFlyingChange$Post;LFlyingChange$Way;LFlyingChange$Way;)Z"⟩, 17), (⟨"FlyingChange", "lineUp", "(I)I"⟩, 17), (⟨"FlyingChange", "planRefusal", "(I)I"⟩, 17), (⟨"FlyingChange", "layPlan", "(I)V"⟩, 17), (⟨"FlyingChange", "cupsOut", "()I"⟩, 17), (⟨"FlyingChange", "cupsWorth", "()I"⟩, 17), (⟨"FlyingChangeModel", "isPost", "(I)Z"⟩, 59), (⟨"FlyingChangeModel", "isWire", "(I)Z"⟩, 59), (⟨"FlyingChangeModel", "isCup", "(I)Z"⟩, 59), (⟨"FlyingChangeModel", "waitAt", "(IIZI)V"⟩, 59), (⟨"FlyingChangeModel", "between", "(II)I"⟩, 59), (⟨"FlyingChangeModel", "liesBelow", "(II)Z"⟩, 59)]
theorem lw_r2 : ∀ q ∈ lw_privs_2, lw_okq q := List.forall_mem_cons.mpr ⟨lw_p16, List.forall_mem_cons.mpr ⟨lw_p17, List.forall_mem_cons.mpr ⟨lw_p18, List.forall_mem_cons.mpr ⟨lw_p19, List.forall_mem_cons.mpr ⟨lw_p20, List.forall_mem_cons.mpr ⟨lw_p21, List.forall_mem_cons.mpr ⟨lw_p22, List.forall_mem_cons.mpr ⟨lw_p23, List.forall_mem_cons.mpr ⟨lw_p24, List.forall_mem_cons.mpr ⟨lw_p25, List.forall_mem_cons.mpr ⟨lw_p26, List.forall_mem_cons.mpr ⟨lw_p27, List.forall_mem_cons.mpr ⟨lw_p28, List.forall_mem_cons.mpr ⟨lw_p29, List.forall_mem_cons.mpr ⟨lw_p30, List.forall_mem_cons.mpr ⟨lw_p31, fun _ h => absurd h List.not_mem_nil⟩⟩⟩⟩⟩⟩⟩⟩⟩⟩⟩⟩⟩⟩⟩⟩
theorem lw_p32 : lw_okq (⟨"FlyingChangeModel", "clerkOf", "(I)I"⟩, 59) := ⟨⟨by decide +kernel, by decide +kernel⟩, List.mem_of_getElem? (i := 839) (by decide +kernel), List.mem_of_getElem? (i := 1105) (by decide +kernel), List.mem_of_getElem? (i := 1106) (by decide +kernel)⟩
theorem lw_p33 : lw_okq (⟨"FlyingChangeModel", "leftOf", "(I)I"⟩, 59) := ⟨⟨by decide +kernel, by decide +kernel⟩, List.mem_of_getElem? (i := 839) (by decide +kernel), List.mem_of_getElem? (i := 1109) (by decide +kernel), List.mem_of_getElem? (i := 1110) (by decide +kernel)⟩
theorem lw_p34 : lw_okq (⟨"FlyingChangeModel", "worthOf", "(I)I"⟩, 59) := ⟨⟨by decide +kernel, by decide +kernel⟩, List.mem_of_getElem? (i := 839) (by decide +kernel), List.mem_of_getElem? (i := 1117) (by decide +kernel), List.mem_of_getElem? (i := 1118) (by decide +kernel)⟩
theorem lw_p35 : lw_okq (⟨"FlyingChangeModel", "layChange", "(I)V"⟩, 59) := ⟨⟨by decide +kernel, by decide +kernel⟩, List.mem_of_getElem? (i := 839) (by decide +kernel), List.mem_of_getElem? (i := 1129) (by decide +kernel), List.mem_of_getElem? (i := 1130) (by decide +kernel)⟩
theorem lw_p36 : lw_okq (⟨"FlyingChangeModel", "tryRest", "(II)Z"⟩, 59) := ⟨⟨by decide +kernel, by decide +kernel⟩, List.mem_of_getElem? (i := 839) (by decide +kernel), List.mem_of_getElem? (i := 1133) (by decide +kernel), List.mem_of_getElem? (i := 1134) (by decide +kernel)⟩
theorem lw_p37 : lw_okq (⟨"FlyingChangeModel", "move", "()V"⟩, 59) := ⟨⟨by decide +kernel, by decide +kernel⟩, List.mem_of_getElem? (i := 839) (by decide +kernel), List.mem_of_getElem? (i := 1145) (by decide +kernel), List.mem_of_getElem? (i := 1146) (by decide +kernel)⟩
theorem lw_p38 : lw_okq (⟨"FlyingChangeModel", "comeUp", "(II)V"⟩, 59) := ⟨⟨by decide +kernel, by decide +kernel⟩, List.mem_of_getElem? (i := 839) (by decide +kernel), List.mem_of_getElem? (i := 1149) (by decide +kernel), List.mem_of_getElem? (i := 1150) (by decide +kernel)⟩
theorem lw_p39 : lw_okq (⟨"FlyingChangeModel", "ring", "(I)V"⟩, 59) := ⟨⟨by decide +kernel, by decide +kernel⟩, List.mem_of_getElem? (i := 839) (by decide +kernel), List.mem_of_getElem? (i := 1153) (by decide +kernel), List.mem_of_getElem? (i := 1154) (by decide +kernel)⟩
theorem lw_p40 : lw_okq (⟨"FlyingChangeModel", "comeDown", "(II)V"⟩, 59) := ⟨⟨by decide +kernel, by decide +kernel⟩, List.mem_of_getElem? (i := 839) (by decide +kernel), List.mem_of_getElem? (i := 1157) (by decide +kernel), List.mem_of_getElem? (i := 1158) (by decide +kernel)⟩
theorem lw_p41 : lw_okq (⟨"FlyingChangeModel", "comeHome", "(I)V"⟩, 59) := ⟨⟨by decide +kernel, by decide +kernel⟩, List.mem_of_getElem? (i := 839) (by decide +kernel), List.mem_of_getElem? (i := 1161) (by decide +kernel), List.mem_of_getElem? (i := 1162) (by decide +kernel)⟩
theorem lw_p42 : lw_okq (⟨"FlyingChangeModel", "rightChild", "(II)I"⟩, 59) := ⟨⟨by decide +kernel, by decide +kernel⟩, List.mem_of_getElem? (i := 839) (by decide +kernel), List.mem_of_getElem? (i := 1165) (by decide +kernel), List.mem_of_getElem? (i := 1166) (by decide +kernel)⟩
theorem lw_p43 : lw_okq (⟨"FlyingChangeModel", "nextChild", "(II)I"⟩, 59) := ⟨⟨by decide +kernel, by decide +kernel⟩, List.mem_of_getElem? (i := 839) (by decide +kernel), List.mem_of_getElem? (i := 1169) (by decide +kernel), List.mem_of_getElem? (i := 1170) (by decide +kernel)⟩
theorem lw_p44 : lw_okq (⟨"FlyingChangeModel", "serve", "()V"⟩, 59) := ⟨⟨by decide +kernel, by decide +kernel⟩, List.mem_of_getElem? (i := 839) (by decide +kernel), List.mem_of_getElem? (i := 1173) (by decide +kernel), List.mem_of_getElem? (i := 1174) (by decide +kernel)⟩
theorem lw_p45 : lw_okq (⟨"FlyingChangeModel", "settle", "(I)V"⟩, 59) := ⟨⟨by decide +kernel, by decide +kernel⟩, List.mem_of_getElem? (i := 839) (by decide +kernel), List.mem_of_getElem? (i := 1177) (by decide +kernel), List.mem_of_getElem? (i := 1178) (by decide +kernel)⟩
theorem lw_p46 : lw_okq (⟨"FlyingChangeModel", "bring", "()V"⟩, 59) := ⟨⟨by decide +kernel, by decide +kernel⟩, List.mem_of_getElem? (i := 839) (by decide +kernel), List.mem_of_getElem? (i := 1181) (by decide +kernel), List.mem_of_getElem? (i := 1182) (by decide +kernel)⟩
theorem lw_p47 : lw_okq (⟨"FlyingChangeModel", "takeOn", "()V"⟩, 59) := ⟨⟨by decide +kernel, by decide +kernel⟩, List.mem_of_getElem? (i := 839) (by decide +kernel), List.mem_of_getElem? (i := 1185) (by decide +kernel), List.mem_of_getElem? (i := 1186) (by decide +kernel)⟩
def lw_privs_3 : List (MethodName × Nat) := [(⟨"FlyingChangeModel", "clerkOf", "(I)I"⟩, 59), (⟨"FlyingChangeModel", "leftOf", "(I)I"⟩, 59), (⟨"FlyingChangeModel", "worthOf", "(I)I"⟩, 59), (⟨"FlyingChangeModel", "layChange", "(I)V"⟩, 59), (⟨"FlyingChangeModel", "tryRest", "(II)Z"⟩, 59), (⟨"FlyingChangeModel", "move", "()V"⟩, 59), (⟨"FlyingChangeModel", "comeUp", "(II)V"⟩, 59), (⟨"FlyingChangeModel", "ring", "(I)V"⟩, 59), (⟨"FlyingChangeModel", "comeDown", "(II)V"⟩, 59), (⟨"FlyingChangeModel", "comeHome", "(I)V"⟩, 59), (⟨"FlyingChangeModel", "rightChild", "(II)I"⟩, 59), (⟨"FlyingChangeModel", "nextChild", "(II)I"⟩, 59), (⟨"FlyingChangeModel", "serve", "()V"⟩, 59), (⟨"FlyingChangeModel", "settle", "(I)V"⟩, 59), (⟨"FlyingChangeModel", "bring", "()V"⟩, 59), (⟨"FlyingChangeModel", "takeOn", "()V"⟩, 59)]
theorem lw_r3 : ∀ q ∈ lw_privs_3, lw_okq q := List.forall_mem_cons.mpr ⟨lw_p32, List.forall_mem_cons.mpr ⟨lw_p33, List.forall_mem_cons.mpr ⟨lw_p34, List.forall_mem_cons.mpr ⟨lw_p35, List.forall_mem_cons.mpr ⟨lw_p36, List.forall_mem_cons.mpr ⟨lw_p37, List.forall_mem_cons.mpr ⟨lw_p38, List.forall_mem_cons.mpr ⟨lw_p39, List.forall_mem_cons.mpr ⟨lw_p40, List.forall_mem_cons.mpr ⟨lw_p41, List.forall_mem_cons.mpr ⟨lw_p42, List.forall_mem_cons.mpr ⟨lw_p43, List.forall_mem_cons.mpr ⟨lw_p44, List.forall_mem_cons.mpr ⟨lw_p45, List.forall_mem_cons.mpr ⟨lw_p46, List.forall_mem_cons.mpr ⟨lw_p47, fun _ h => absurd h List.not_mem_nil⟩⟩⟩⟩⟩⟩⟩⟩⟩⟩⟩⟩⟩⟩⟩⟩
theorem lw_p48 : lw_okq (⟨"FlyingChangeModel", "layRow", "(I)V"⟩, 59) := ⟨⟨by decide +kernel, by decide +kernel⟩, List.mem_of_getElem? (i := 839) (by decide +kernel), List.mem_of_getElem? (i := 1189) (by decide +kernel), List.mem_of_getElem? (i := 1190) (by decide +kernel)⟩
theorem lw_p49 : lw_okq (⟨"FlyingChangeModel", "isAhead", "(III)Z"⟩, 59) := ⟨⟨by decide +kernel, by decide +kernel⟩, List.mem_of_getElem? (i := 839) (by decide +kernel), List.mem_of_getElem? (i := 1193) (by decide +kernel), List.mem_of_getElem? (i := 1194) (by decide +kernel)⟩
theorem lw_p50 : lw_okq (⟨"FlyingChangeModel", "sentOf", "(I)I"⟩, 59) := ⟨⟨by decide +kernel, by decide +kernel⟩, List.mem_of_getElem? (i := 839) (by decide +kernel), List.mem_of_getElem? (i := 1197) (by decide +kernel), List.mem_of_getElem? (i := 1198) (by decide +kernel)⟩
theorem lw_p51 : lw_okq (⟨"FlyingChangeModel", "letAll", "()V"⟩, 59) := ⟨⟨by decide +kernel, by decide +kernel⟩, List.mem_of_getElem? (i := 839) (by decide +kernel), List.mem_of_getElem? (i := 1201) (by decide +kernel), List.mem_of_getElem? (i := 1202) (by decide +kernel)⟩
theorem lw_p52 : lw_okq (⟨"FlyingChangeModel", "isNear", "(IZ)Z"⟩, 59) := ⟨⟨by decide +kernel, by decide +kernel⟩, List.mem_of_getElem? (i := 839) (by decide +kernel), List.mem_of_getElem? (i := 1205) (by decide +kernel), List.mem_of_getElem? (i := 1206) (by decide +kernel)⟩
theorem lw_p53 : lw_okq (⟨"FlyingChangeModel", "upOf", "(I)I"⟩, 59) := ⟨⟨by decide +kernel, by decide +kernel⟩, List.mem_of_getElem? (i := 839) (by decide +kernel), List.mem_of_getElem? (i := 1209) (by decide +kernel), List.mem_of_getElem? (i := 1210) (by decide +kernel)⟩
theorem lw_p54 : lw_okq (⟨"FlyingChangeModel", "firstUp", "(II)I"⟩, 59) := ⟨⟨by decide +kernel, by decide +kernel⟩, List.mem_of_getElem? (i := 839) (by decide +kernel), List.mem_of_getElem? (i := 1213) (by decide +kernel), List.mem_of_getElem? (i := 1214) (by decide +kernel)⟩
theorem lw_p55 : lw_okq (⟨"FlyingChangeModel", "waitsUp", "(III)Z"⟩, 59) := ⟨⟨by decide +kernel, by decide +kernel⟩, List.mem_of_getElem? (i := 839) (by decide +kernel), List.mem_of_getElem? (i := 1217) (by decide +kernel), List.mem_of_getElem? (i := 1218) (by decide +kernel)⟩
theorem lw_p56 : lw_okq (⟨"FlyingChangeModel", "isEarlier", "(II)Z"⟩, 59) := ⟨⟨by decide +kernel, by decide +kernel⟩, List.mem_of_getElem? (i := 839) (by decide +kernel), List.mem_of_getElem? (i := 1221) (by decide +kernel), List.mem_of_getElem? (i := 1222) (by decide +kernel)⟩
theorem lw_p57 : lw_okq (⟨"FlyingChangeModel", "downOf", "(I)I"⟩, 59) := ⟨⟨by decide +kernel, by decide +kernel⟩, List.mem_of_getElem? (i := 839) (by decide +kernel), List.mem_of_getElem? (i := 1225) (by decide +kernel), List.mem_of_getElem? (i := 1226) (by decide +kernel)⟩
theorem lw_p58 : lw_okq (⟨"FlyingChangeModel", "isClear", "(IZ)Z"⟩, 59) := ⟨⟨by decide +kernel, by decide +kernel⟩, List.mem_of_getElem? (i := 839) (by decide +kernel), List.mem_of_getElem? (i := 1229) (by decide +kernel), List.mem_of_getElem? (i := 1230) (by decide +kernel)⟩
theorem lw_p59 : lw_okq (⟨"FlyingChangeModel", "onMany", "(IZ)I"⟩, 59) := ⟨⟨by decide +kernel, by decide +kernel⟩, List.mem_of_getElem? (i := 839) (by decide +kernel), List.mem_of_getElem? (i := 1233) (by decide +kernel), List.mem_of_getElem? (i := 1234) (by decide +kernel)⟩
theorem lw_p60 : lw_okq (⟨"FlyingChangeModel", "letOn", "(IIZ)V"⟩, 59) := ⟨⟨by decide +kernel, by decide +kernel⟩, List.mem_of_getElem? (i := 839) (by decide +kernel), List.mem_of_getElem? (i := 1237) (by decide +kernel), List.mem_of_getElem? (i := 1238) (by decide +kernel)⟩
theorem lw_p61 : lw_okq (⟨"FlyingChangeModel", "mayOrder", "()I"⟩, 59) := ⟨⟨by decide +kernel, by decide +kernel⟩, List.mem_of_getElem? (i := 839) (by decide +kernel), List.mem_of_getElem? (i := 1261) (by decide +kernel), List.mem_of_getElem? (i := 1262) (by decide +kernel)⟩
theorem lw_p62 : lw_okq (⟨"FlyingChangeModel", "layBest", "()V"⟩, 59) := ⟨⟨by decide +kernel, by decide +kernel⟩, List.mem_of_getElem? (i := 839) (by decide +kernel), List.mem_of_getElem? (i := 1265) (by decide +kernel), List.mem_of_getElem? (i := 1266) (by decide +kernel)⟩
theorem lw_p63 : lw_okq (⟨"FlyingChangeModel", "measure", "()V"⟩, 59) := ⟨⟨by decide +kernel, by decide +kernel⟩, List.mem_of_getElem? (i := 839) (by decide +kernel), List.mem_of_getElem? (i := 1269) (by decide +kernel), List.mem_of_getElem? (i := 1270) (by decide +kernel)⟩
def lw_privs_4 : List (MethodName × Nat) := [(⟨"FlyingChangeModel", "layRow", "(I)V"⟩, 59), (⟨"FlyingChangeModel", "isAhead", "(III)Z"⟩, 59), (⟨"FlyingChangeModel", "sentOf", "(I)I"⟩, 59), (⟨"FlyingChangeModel", "letAll", "()V"⟩, 59), (⟨"FlyingChangeModel", "isNear", "(IZ)Z"⟩, 59), (⟨"FlyingChangeModel", "upOf", "(I)I"⟩, 59), (⟨"FlyingChangeModel", "firstUp", "(II)I"⟩, 59), (⟨"FlyingChangeModel", "waitsUp", "(III)Z"⟩, 59), (⟨"FlyingChangeModel", "isEarlier", "(II)Z"⟩, 59), (⟨"FlyingChangeModel", "downOf", "(I)I"⟩, 59), (⟨"FlyingChangeModel", "isClear", "(IZ)Z"⟩, 59), (⟨"FlyingChangeModel", "onMany", "(IZ)I"⟩, 59), (⟨"FlyingChangeModel", "letOn", "(IIZ)V"⟩, 59), (⟨"FlyingChangeModel", "mayOrder", "()I"⟩, 59), (⟨"FlyingChangeModel", "layBest", "()V"⟩, 59), (⟨"FlyingChangeModel", "measure", "()V"⟩, 59)]
theorem lw_r4 : ∀ q ∈ lw_privs_4, lw_okq q := List.forall_mem_cons.mpr ⟨lw_p48, List.forall_mem_cons.mpr ⟨lw_p49, List.forall_mem_cons.mpr ⟨lw_p50, List.forall_mem_cons.mpr ⟨lw_p51, List.forall_mem_cons.mpr ⟨lw_p52, List.forall_mem_cons.mpr ⟨lw_p53, List.forall_mem_cons.mpr ⟨lw_p54, List.forall_mem_cons.mpr ⟨lw_p55, List.forall_mem_cons.mpr ⟨lw_p56, List.forall_mem_cons.mpr ⟨lw_p57, List.forall_mem_cons.mpr ⟨lw_p58, List.forall_mem_cons.mpr ⟨lw_p59, List.forall_mem_cons.mpr ⟨lw_p60, List.forall_mem_cons.mpr ⟨lw_p61, List.forall_mem_cons.mpr ⟨lw_p62, List.forall_mem_cons.mpr ⟨lw_p63, fun _ h => absurd h List.not_mem_nil⟩⟩⟩⟩⟩⟩⟩⟩⟩⟩⟩⟩⟩⟩⟩⟩
theorem lw_p64 : lw_okq (⟨"FlyingChangeModel", "nextLine", "()Z"⟩, 59) := ⟨⟨by decide +kernel, by decide +kernel⟩, List.mem_of_getElem? (i := 839) (by decide +kernel), List.mem_of_getElem? (i := 1273) (by decide +kernel), List.mem_of_getElem? (i := 1274) (by decide +kernel)⟩
theorem lw_p65 : lw_okq (⟨"FlyingChangeModel", "swap", "(II)V"⟩, 59) := ⟨⟨by decide +kernel, by decide +kernel⟩, List.mem_of_getElem? (i := 839) (by decide +kernel), List.mem_of_getElem? (i := 1277) (by decide +kernel), List.mem_of_getElem? (i := 1278) (by decide +kernel)⟩
theorem lw_p66 : lw_okq (⟨"FlyingChangeModel", "loadOf", "(II)I"⟩, 59) := ⟨⟨by decide +kernel, by decide +kernel⟩, List.mem_of_getElem? (i := 839) (by decide +kernel), List.mem_of_getElem? (i := 1297) (by decide +kernel), List.mem_of_getElem? (i := 1298) (by decide +kernel)⟩
theorem lw_p67 : lw_okq (⟨"FlyingChangeModel", "linesOf", "(I)I"⟩, 59) := ⟨⟨by decide +kernel, by decide +kernel⟩, List.mem_of_getElem? (i := 839) (by decide +kernel), List.mem_of_getElem? (i := 1305) (by decide +kernel), List.mem_of_getElem? (i := 1306) (by decide +kernel)⟩
theorem lw_p68 : lw_okq (⟨"FlyingChangeModel", "rungBehind", "(II)I"⟩, 59) := ⟨⟨by decide +kernel, by decide +kernel⟩, List.mem_of_getElem? (i := 839) (by decide +kernel), List.mem_of_getElem? (i := 1333) (by decide +kernel), List.mem_of_getElem? (i := 1334) (by decide +kernel)⟩
def lw_privs_5 : List (MethodName × Nat) := [(⟨"FlyingChangeModel", "nextLine", "()Z"⟩, 59), (⟨"FlyingChangeModel", "swap", "(II)V"⟩, 59), (⟨"FlyingChangeModel", "loadOf", "(II)I"⟩, 59), (⟨"FlyingChangeModel", "linesOf", "(I)I"⟩, 59), (⟨"FlyingChangeModel", "rungBehind", "(II)I"⟩, 59)]
theorem lw_r5 : ∀ q ∈ lw_privs_5, lw_okq q := List.forall_mem_cons.mpr ⟨lw_p64, List.forall_mem_cons.mpr ⟨lw_p65, List.forall_mem_cons.mpr ⟨lw_p66, List.forall_mem_cons.mpr ⟨lw_p67, List.forall_mem_cons.mpr ⟨lw_p68, fun _ h => absurd h List.not_mem_nil⟩⟩⟩⟩⟩
def lw_privs : List (MethodName × Nat) := lw_privs_1 ++ (lw_privs_2 ++ (lw_privs_3 ++ (lw_privs_4 ++ (lw_privs_5))))
def lw_tbl : List Cond := k2_sels lw_privs ++ tables_1
theorem lw_privs_ok : ∀ q ∈ lw_privs, lw_okq q := by
  show ∀ q ∈ lw_privs_1 ++ (lw_privs_2 ++ (lw_privs_3 ++ (lw_privs_4 ++ (lw_privs_5)))), lw_okq q
  exact List.forall_mem_append.mpr ⟨lw_r1, List.forall_mem_append.mpr ⟨lw_r2, List.forall_mem_append.mpr ⟨lw_r3, List.forall_mem_append.mpr ⟨lw_r4, lw_r5⟩⟩⟩⟩
def RX0 : String := "FlyingChange$Bells"
def TX0 : u_T := fun k => match k with
  | 0 => ("FlyingChange$Bells", "joints", "[I", true)
  | 1 => ("FlyingChange$Bells", "ticks", "[I", true)
  | 2 => ("FlyingChange$Bells", "oldest", "I", false)
  | _ => ("FlyingChange$Bells", "size", "I", false)
def tyX0 : Nat → FieldType := fun k => match k with
  | 0 => .array .int
  | 1 => .array .int
  | 2 => .int
  | _ => .int
theorem nmX0 : ∀ a, a < 4 → ∀ b, b < 4 → a ≠ b → (TX0 a).2.1 ≠ (TX0 b).2.1 := by decide +kernel
theorem tyX0_ok : ∀ k, k < 4 → parseFieldDescriptor (TX0 k).2.2.1 = some (tyX0 k) := by decide +kernel
abbrev cX0_init : ByteArray := prog_2_method_1_code
def yX0_init : MethodName := ⟨RX0, "<init>", "()V"⟩
abbrev cX0_ring : ByteArray := prog_2_method_2_code
def yX0_ring : MethodName := ⟨RX0, "ring", "(II)V"⟩
abbrev cX0_jointOf : ByteArray := prog_2_method_3_code
def yX0_jointOf : MethodName := ⟨RX0, "jointOf", "(I)I"⟩
abbrev cX0_tickOf : ByteArray := prog_2_method_4_code
def yX0_tickOf : MethodName := ⟨RX0, "tickOf", "(I)I"⟩
abbrev cX0_firstFrom : ByteArray := prog_2_method_5_code
def yX0_firstFrom : MethodName := ⟨RX0, "firstFrom", "(II)I"⟩
def RX1 : String := "FlyingChange$Change"
def TX1 : u_T := fun k => match k with
  | 0 => ("FlyingChange$Change", "best", "[I", true)
  | _ => ("FlyingChange$Change", "tried", "[I", true)
def tyX1 : Nat → FieldType := fun k => match k with
  | 0 => .array .int
  | _ => .array .int
theorem nmX1 : ∀ a, a < 2 → ∀ b, b < 2 → a ≠ b → (TX1 a).2.1 ≠ (TX1 b).2.1 := by decide +kernel
theorem tyX1_ok : ∀ k, k < 2 → parseFieldDescriptor (TX1 k).2.2.1 = some (tyX1 k) := by decide +kernel
abbrev cX1_init : ByteArray := prog_3_method_1_code
def yX1_init : MethodName := ⟨RX1, "<init>", "()V"⟩
abbrev cX1_find : ByteArray := prog_3_method_2_code
def yX1_find : MethodName := ⟨RX1, "find", "([II)I"⟩
abbrev cX1_fill : ByteArray := prog_3_method_3_code
def yX1_fill : MethodName := ⟨RX1, "fill", "([IIII)I"⟩
def RX2 : String := "FlyingChange$Clerk"
def TX2 : u_T := fun k => match k with
  | 0 => ("FlyingChange$Clerk", "number", "I", true)
  | 1 => ("FlyingChange$Clerk", "needs", "I", true)
  | 2 => ("FlyingChange$Clerk", "cup", "LFlyingChange$Cup;", false)
  | _ => ("FlyingChange$Clerk", "left", "I", false)
def tyX2 : Nat → FieldType := fun k => match k with
  | 0 => .int
  | 1 => .int
  | 2 => .object "FlyingChange$Cup"
  | _ => .int
theorem nmX2 : ∀ a, a < 4 → ∀ b, b < 4 → a ≠ b → (TX2 a).2.1 ≠ (TX2 b).2.1 := by decide +kernel
theorem tyX2_ok : ∀ k, k < 4 → parseFieldDescriptor (TX2 k).2.2.1 = some (tyX2 k) := by decide +kernel
abbrev cX2_init : ByteArray := prog_4_method_1_code
def yX2_init : MethodName := ⟨RX2, "<init>", "(II)V"⟩
def RX3 : String := "FlyingChange$Coins"
def TX3 : u_T := fun k => match k with
  | _ => ("FlyingChange$Coins", "count", "[I", true)
def tyX3 : Nat → FieldType := fun k => match k with
  | _ => .array .int
theorem nmX3 : ∀ a, a < 1 → ∀ b, b < 1 → a ≠ b → (TX3 a).2.1 ≠ (TX3 b).2.1 := by decide +kernel
theorem tyX3_ok : ∀ k, k < 1 → parseFieldDescriptor (TX3 k).2.2.1 = some (tyX3 k) := by decide +kernel
abbrev cX3_init : ByteArray := prog_5_method_1_code
def yX3_init : MethodName := ⟨RX3, "<init>", "()V"⟩
abbrev cX3_worth : ByteArray := prog_5_method_2_code
def yX3_worth : MethodName := ⟨RX3, "worth", "()I"⟩
abbrev cX3_told : ByteArray := prog_5_method_3_code
def yX3_told : MethodName := ⟨RX3, "told", "(I)I"⟩
abbrev cX3_put : ByteArray := prog_5_method_4_code
def yX3_put : MethodName := ⟨RX3, "put", "([I)V"⟩
abbrev cX3_take : ByteArray := prog_5_method_5_code
def yX3_take : MethodName := ⟨RX3, "take", "([I)V"⟩
abbrev cX3_empty : ByteArray := prog_5_method_6_code
def yX3_empty : MethodName := ⟨RX3, "empty", "()V"⟩
def RX4 : String := "FlyingChange$Cup"
def TX4 : u_T := fun k => match k with
  | 0 => ("FlyingChange$Cup", "number", "I", true)
  | 1 => ("FlyingChange$Cup", "home", "LFlyingChange$Post;", true)
  | 2 => ("FlyingChange$Cup", "coins", "LFlyingChange$Coins;", true)
  | 3 => ("FlyingChange$Cup", "where", "I", false)
  | 4 => ("FlyingChange$Cup", "at", "LFlyingChange$Post;", false)
  | 5 => ("FlyingChange$Cup", "goesUp", "Z", false)
  | 6 => ("FlyingChange$Cup", "from", "LFlyingChange$Post;", false)
  | 7 => ("FlyingChange$Cup", "toward", "LFlyingChange$Post;", false)
  | 8 => ("FlyingChange$Cup", "clerk", "LFlyingChange$Clerk;", false)
  | 9 => ("FlyingChange$Cup", "place", "I", false)
  | 10 => ("FlyingChange$Cup", "stamp", "I", false)
  | 11 => ("FlyingChange$Cup", "due", "I", false)
  | 12 => ("FlyingChange$Cup", "sale", "I", false)
  | 13 => ("FlyingChange$Cup", "price", "I", false)
  | _ => ("FlyingChange$Cup", "sent", "I", false)
def tyX4 : Nat → FieldType := fun k => match k with
  | 0 => .int
  | 1 => .object "FlyingChange$Post"
  | 2 => .object "FlyingChange$Coins"
  | 3 => .int
  | 4 => .object "FlyingChange$Post"
  | 5 => .boolean
  | 6 => .object "FlyingChange$Post"
  | 7 => .object "FlyingChange$Post"
  | 8 => .object "FlyingChange$Clerk"
  | 9 => .int
  | 10 => .int
  | 11 => .int
  | 12 => .int
  | 13 => .int
  | _ => .int
theorem nmX4 : ∀ a, a < 15 → ∀ b, b < 15 → a ≠ b → (TX4 a).2.1 ≠ (TX4 b).2.1 := by decide +kernel
theorem tyX4_ok : ∀ k, k < 15 → parseFieldDescriptor (TX4 k).2.2.1 = some (tyX4 k) := by decide +kernel
abbrev cX4_init : ByteArray := prog_6_method_1_code
def yX4_init : MethodName := ⟨RX4, "<init>", "(ILFlyingChange$Post;)V"⟩
abbrev cX4_leaveFor : ByteArray := prog_6_method_2_code
def yX4_leaveFor : MethodName := ⟨RX4, "leaveFor", "(I)V"⟩
abbrev cX4_waitToGoUp : ByteArray := prog_6_method_3_code
def yX4_waitToGoUp : MethodName := ⟨RX4, "waitToGoUp", "(LFlyingChange$Post;I)V"⟩
abbrev cX4_waitToGoDown : ByteArray := prog_6_method_4_code
def yX4_waitToGoDown : MethodName := ⟨RX4, "waitToGoDown", "(LFlyingChange$Post;LFlyingChange$Post;I)V"⟩
abbrev cX4_goOn : ByteArray := prog_6_method_5_code
def yX4_goOn : MethodName := ⟨RX4, "goOn", "(LFlyingChange$Post;Z)V"⟩
abbrev cX4_sentTick : ByteArray := prog_6_method_6_code
def yX4_sentTick : MethodName := ⟨RX4, "sentTick", "()I"⟩
abbrev cX4_holder : ByteArray := prog_6_method_7_code
def yX4_holder : MethodName := ⟨RX4, "holder", "()I"⟩
abbrev cX4_measure : ByteArray := prog_6_method_8_code
def yX4_measure : MethodName := ⟨RX4, "measure", "()I"⟩
abbrev cX4_isAhead : ByteArray := prog_6_method_9_code
def yX4_isAhead : MethodName := ⟨RX4, "isAhead", "(LFlyingChange$Cup;I)Z"⟩
def RX5 : String := "FlyingChange$Fetches"
def TX5 : u_T := fun k => match k with
  | 0 => ("FlyingChange$Fetches", "kinds", "[I", true)
  | 1 => ("FlyingChange$Fetches", "counts", "[I", true)
  | 2 => ("FlyingChange$Fetches", "dues", "[I", true)
  | _ => ("FlyingChange$Fetches", "size", "I", false)
def tyX5 : Nat → FieldType := fun k => match k with
  | 0 => .array .int
  | 1 => .array .int
  | 2 => .array .int
  | _ => .int
theorem nmX5 : ∀ a, a < 4 → ∀ b, b < 4 → a ≠ b → (TX5 a).2.1 ≠ (TX5 b).2.1 := by decide +kernel
theorem tyX5_ok : ∀ k, k < 4 → parseFieldDescriptor (TX5 k).2.2.1 = some (tyX5 k) := by decide +kernel
abbrev cX5_init : ByteArray := prog_7_method_1_code
def yX5_init : MethodName := ⟨RX5, "<init>", "()V"⟩
abbrev cX5_add : ByteArray := prog_7_method_2_code
def yX5_add : MethodName := ⟨RX5, "add", "(III)V"⟩
abbrev cX5_bring : ByteArray := prog_7_method_3_code
def yX5_bring : MethodName := ⟨RX5, "bring", "(ILFlyingChange$Coins;)V"⟩
def RX6 : String := "FlyingChange$Plan"
def TX6 : u_T := fun k => match k with
  | 0 => ("FlyingChange$Plan", "free", "[I", true)
  | 1 => ("FlyingChange$Plan", "needs", "[I", true)
  | 2 => ("FlyingChange$Plan", "clerkCount", "I", false)
  | 3 => ("FlyingChange$Plan", "waited", "[I", true)
  | 4 => ("FlyingChange$Plan", "size", "I", false)
  | 5 => ("FlyingChange$Plan", "done", "[I", true)
  | 6 => ("FlyingChange$Plan", "taken", "[Z", true)
  | 7 => ("FlyingChange$Plan", "tried", "[I", true)
  | 8 => ("FlyingChange$Plan", "best", "[I", true)
  | _ => ("FlyingChange$Plan", "least", "I", false)
def tyX6 : Nat → FieldType := fun k => match k with
  | 0 => .array .int
  | 1 => .array .int
  | 2 => .int
  | 3 => .array .int
  | 4 => .int
  | 5 => .array .int
  | 6 => .array .boolean
  | 7 => .array .int
  | 8 => .array .int
  | _ => .int
theorem nmX6 : ∀ a, a < 10 → ∀ b, b < 10 → a ≠ b → (TX6 a).2.1 ≠ (TX6 b).2.1 := by decide +kernel
theorem tyX6_ok : ∀ k, k < 10 → parseFieldDescriptor (TX6 k).2.2.1 = some (tyX6 k) := by decide +kernel
abbrev cX6_init : ByteArray := prog_8_method_1_code
def yX6_init : MethodName := ⟨RX6, "<init>", "()V"⟩
abbrev cX6_begin : ByteArray := prog_8_method_2_code
def yX6_begin : MethodName := ⟨RX6, "begin", "()V"⟩
abbrev cX6_addClerk : ByteArray := prog_8_method_3_code
def yX6_addClerk : MethodName := ⟨RX6, "addClerk", "(II)V"⟩
abbrev cX6_addCup : ByteArray := prog_8_method_4_code
def yX6_addCup : MethodName := ⟨RX6, "addCup", "(I)V"⟩
abbrev cX6_layPlaces : ByteArray := prog_8_method_5_code
def yX6_layPlaces : MethodName := ⟨RX6, "layPlaces", "()V"⟩
abbrev cX6_greatestInTurn : ByteArray := prog_8_method_6_code
def yX6_greatestInTurn : MethodName := ⟨RX6, "greatestInTurn", "()I"⟩
abbrev cX6_findBest : ByteArray := prog_8_method_7_code
def yX6_findBest : MethodName := ⟨RX6, "findBest", "()I"⟩
abbrev cX6_cupAtPlace : ByteArray := prog_8_method_8_code
def yX6_cupAtPlace : MethodName := ⟨RX6, "cupAtPlace", "(I)I"⟩
abbrev cX6_search : ByteArray := prog_8_method_9_code
def yX6_search : MethodName := ⟨RX6, "search", "(LFlyingChange$Plan;II)V"⟩
def RX7 : String := "FlyingChange$Post"
def TX7 : u_T := fun k => match k with
  | 0 => ("FlyingChange$Post", "number", "I", true)
  | 1 => ("FlyingChange$Post", "above", "LFlyingChange$Post;", true)
  | 2 => ("FlyingChange$Post", "sort", "I", true)
  | 3 => ("FlyingChange$Post", "length", "I", false)
  | 4 => ("FlyingChange$Post", "gap", "I", false)
  | 5 => ("FlyingChange$Post", "both", "Z", false)
  | 6 => ("FlyingChange$Post", "whole", "Z", false)
  | 7 => ("FlyingChange$Post", "up", "LFlyingChange$Way;", true)
  | 8 => ("FlyingChange$Post", "down", "LFlyingChange$Way;", true)
  | 9 => ("FlyingChange$Post", "latch", "I", false)
  | 10 => ("FlyingChange$Post", "turn", "I", false)
  | 11 => ("FlyingChange$Post", "worn", "I", false)
  | 12 => ("FlyingChange$Post", "fallen", "I", false)
  | 13 => ("FlyingChange$Post", "silent", "Z", false)
  | 14 => ("FlyingChange$Post", "load", "[I", true)
  | _ => ("FlyingChange$Post", "tally", "LFlyingChange$Tally;", true)
def tyX7 : Nat → FieldType := fun k => match k with
  | 0 => .int
  | 1 => .object "FlyingChange$Post"
  | 2 => .int
  | 3 => .int
  | 4 => .int
  | 5 => .boolean
  | 6 => .boolean
  | 7 => .object "FlyingChange$Way"
  | 8 => .object "FlyingChange$Way"
  | 9 => .int
  | 10 => .int
  | 11 => .int
  | 12 => .int
  | 13 => .boolean
  | 14 => .array .int
  | _ => .object "FlyingChange$Tally"
theorem nmX7 : ∀ a, a < 16 → ∀ b, b < 16 → a ≠ b → (TX7 a).2.1 ≠ (TX7 b).2.1 := by decide +kernel
theorem tyX7_ok : ∀ k, k < 16 → parseFieldDescriptor (TX7 k).2.2.1 = some (tyX7 k) := by decide +kernel
abbrev cX7_init : ByteArray := prog_9_method_1_code
def yX7_init : MethodName := ⟨RX7, "<init>", "(ILFlyingChange$Post;I)V"⟩
abbrev cX7_wearBy : ByteArray := prog_9_method_2_code
def yX7_wearBy : MethodName := ⟨RX7, "wearBy", "(I)V"⟩
abbrev cX7_wearsThrough : ByteArray := prog_9_method_3_code
def yX7_wearsThrough : MethodName := ⟨RX7, "wearsThrough", "()Z"⟩
abbrev cX7_rank : ByteArray := prog_9_method_4_code
def yX7_rank : MethodName := ⟨RX7, "rank", "(LFlyingChange$Post;)I"⟩
abbrev cX7_wantedLines : ByteArray := prog_9_method_5_code
def yX7_wantedLines : MethodName := ⟨RX7, "wantedLines", "()I"⟩
abbrev cX7_lossIn : ByteArray := prog_9_method_6_code
def yX7_lossIn : MethodName := ⟨RX7, "lossIn", "(I)I"⟩
def RX8 : String := "FlyingChange$Tally"
def TX8 : u_T := fun k => match k with
  | 0 => ("FlyingChange$Tally", "done", "I", false)
  | 1 => ("FlyingChange$Tally", "refused", "I", false)
  | 2 => ("FlyingChange$Tally", "greatest", "I", false)
  | 3 => ("FlyingChange$Tally", "together", "I", false)
  | _ => ("FlyingChange$Tally", "handed", "I", false)
def tyX8 : Nat → FieldType := fun k => match k with
  | 0 => .int
  | 1 => .int
  | 2 => .int
  | 3 => .int
  | _ => .int
theorem nmX8 : ∀ a, a < 5 → ∀ b, b < 5 → a ≠ b → (TX8 a).2.1 ≠ (TX8 b).2.1 := by decide +kernel
theorem tyX8_ok : ∀ k, k < 5 → parseFieldDescriptor (TX8 k).2.2.1 = some (tyX8 k) := by decide +kernel
abbrev cX8_init : ByteArray := prog_10_method_1_code
def yX8_init : MethodName := ⟨RX8, "<init>", "()V"⟩
abbrev cX8_finish : ByteArray := prog_10_method_2_code
def yX8_finish : MethodName := ⟨RX8, "finish", "(IZ)V"⟩
abbrev cX8_handOut : ByteArray := prog_10_method_3_code
def yX8_handOut : MethodName := ⟨RX8, "handOut", "(I)V"⟩
def RX9 : String := "FlyingChange$Way"
def TX9 : u_T := fun k => match k with
  | 0 => ("FlyingChange$Way", "last", "I", false)
  | 1 => ("FlyingChange$Way", "carried", "I", false)
  | 2 => ("FlyingChange$Way", "nearest", "I", false)
  | 3 => ("FlyingChange$Way", "first", "LFlyingChange$Cup;", false)
  | _ => ("FlyingChange$Way", "firstRank", "I", false)
def tyX9 : Nat → FieldType := fun k => match k with
  | 0 => .int
  | 1 => .int
  | 2 => .int
  | 3 => .object "FlyingChange$Cup"
  | _ => .int
theorem nmX9 : ∀ a, a < 5 → ∀ b, b < 5 → a ≠ b → (TX9 a).2.1 ≠ (TX9 b).2.1 := by decide +kernel
theorem tyX9_ok : ∀ k, k < 5 → parseFieldDescriptor (TX9 k).2.2.1 = some (tyX9 k) := by decide +kernel
abbrev cX9_init : ByteArray := prog_11_method_1_code
def yX9_init : MethodName := ⟨RX9, "<init>", "()V"⟩
abbrev cX9_clear : ByteArray := prog_11_method_2_code
def yX9_clear : MethodName := ⟨RX9, "clear", "()V"⟩
abbrev cX9_carry : ByteArray := prog_11_method_3_code
def yX9_carry : MethodName := ⟨RX9, "carry", "(I)V"⟩
abbrev cX9_offer : ByteArray := prog_11_method_4_code
def yX9_offer : MethodName := ⟨RX9, "offer", "(LFlyingChange$Cup;I)V"⟩
def RX10 : String := "FlyingChange"
def TX10 : u_T := fun k => match k with
  | 0 => ("FlyingChange", "posts", "[LFlyingChange$Post;", true)
  | 1 => ("FlyingChange", "cups", "[LFlyingChange$Cup;", true)
  | 2 => ("FlyingChange", "clerks", "[LFlyingChange$Clerk;", true)
  | 3 => ("FlyingChange", "inLine", "[LFlyingChange$Cup;", true)
  | 4 => ("FlyingChange", "lying", "LFlyingChange$Coins;", true)
  | 5 => ("FlyingChange", "change", "LFlyingChange$Change;", true)
  | 6 => ("FlyingChange", "fetches", "LFlyingChange$Fetches;", true)
  | 7 => ("FlyingChange", "rung", "LFlyingChange$Bells;", true)
  | 8 => ("FlyingChange", "plan", "LFlyingChange$Plan;", true)
  | 9 => ("FlyingChange", "cage", "LFlyingChange$Post;", true)
  | 10 => ("FlyingChange", "postCount", "I", false)
  | 11 => ("FlyingChange", "cupCount", "I", false)
  | 12 => ("FlyingChange", "clerkCount", "I", false)
  | 13 => ("FlyingChange", "now", "I", false)
  | 14 => ("FlyingChange", "orderRule", "I", false)
  | 15 => ("FlyingChange", "paidIn", "I", false)
  | _ => ("FlyingChange", "handedOut", "I", false)
def tyX10 : Nat → FieldType := fun k => match k with
  | 0 => .array (.object "FlyingChange$Post")
  | 1 => .array (.object "FlyingChange$Cup")
  | 2 => .array (.object "FlyingChange$Clerk")
  | 3 => .array (.object "FlyingChange$Cup")
  | 4 => .object "FlyingChange$Coins"
  | 5 => .object "FlyingChange$Change"
  | 6 => .object "FlyingChange$Fetches"
  | 7 => .object "FlyingChange$Bells"
  | 8 => .object "FlyingChange$Plan"
  | 9 => .object "FlyingChange$Post"
  | 10 => .int
  | 11 => .int
  | 12 => .int
  | 13 => .int
  | 14 => .int
  | 15 => .int
  | _ => .int
theorem nmX10 : ∀ a, a < 17 → ∀ b, b < 17 → a ≠ b → (TX10 a).2.1 ≠ (TX10 b).2.1 := by decide +kernel
theorem tyX10_ok : ∀ k, k < 17 → parseFieldDescriptor (TX10 k).2.2.1 = some (tyX10 k) := by decide +kernel
abbrev cX10_init : ByteArray := prog_1_method_1_code
def yX10_init : MethodName := ⟨RX10, "<init>", "()V"⟩
abbrev cX10_post : ByteArray := prog_1_method_2_code
def yX10_post : MethodName := ⟨RX10, "post", "(IZIIZ)I"⟩
abbrev cX10_joint : ByteArray := prog_1_method_3_code
def yX10_joint : MethodName := ⟨RX10, "joint", "(III)I"⟩
abbrev cX10_fitsJoint : ByteArray := prog_1_method_4_code
def yX10_fitsJoint : MethodName := ⟨RX10, "fitsJoint", "(II)Z"⟩
abbrev cX10_about : ByteArray := prog_1_method_5_code
def yX10_about : MethodName := ⟨RX10, "about", "(II)I"⟩
abbrev cX10_cord : ByteArray := prog_1_method_6_code
def yX10_cord : MethodName := ⟨RX10, "cord", "(IZ)I"⟩
abbrev cX10_cup : ByteArray := prog_1_method_7_code
def yX10_cup : MethodName := ⟨RX10, "cup", "(I)I"⟩
abbrev cX10_clerk : ByteArray := prog_1_method_8_code
def yX10_clerk : MethodName := ⟨RX10, "clerk", "(I)I"⟩
abbrev cX10_order : ByteArray := prog_1_method_9_code
def yX10_order : MethodName := ⟨RX10, "order", "(I)I"⟩
abbrev cX10_drawer : ByteArray := prog_1_method_10_code
def yX10_drawer : MethodName := ⟨RX10, "drawer", "(II)I"⟩
abbrev cX10_fetch : ByteArray := prog_1_method_11_code
def yX10_fetch : MethodName := ⟨RX10, "fetch", "(III)I"⟩
abbrev cX10_send : ByteArray := prog_1_method_12_code
def yX10_send : MethodName := ⟨RX10, "send", "(IIII)I"⟩
abbrev cX10_resend : ByteArray := prog_1_method_13_code
def yX10_resend : MethodName := ⟨RX10, "resend", "(I)I"⟩
abbrev cX10_porter : ByteArray := prog_1_method_14_code
def yX10_porter : MethodName := ⟨RX10, "porter", "(I)I"⟩
abbrev cX10_porterMayTake : ByteArray := prog_1_method_15_code
def yX10_porterMayTake : MethodName := ⟨RX10, "porterMayTake", "(LFlyingChange$Cup;)Z"⟩
abbrev cX10_way : ByteArray := prog_1_method_16_code
def yX10_way : MethodName := ⟨RX10, "way", "(LFlyingChange$Post;LFlyingChange$Post;)I"⟩
abbrev cX10_cupAt : ByteArray := prog_1_method_17_code
def yX10_cupAt : MethodName := ⟨RX10, "cupAt", "(II)I"⟩
abbrev cX10_coins : ByteArray := prog_1_method_18_code
def yX10_coins : MethodName := ⟨RX10, "coins", "(II)I"⟩
abbrev cX10_tick : ByteArray := prog_1_method_19_code
def yX10_tick : MethodName := ⟨RX10, "tick", "(I)I"⟩
abbrev cX10_moveCups : ByteArray := prog_1_method_20_code
def yX10_moveCups : MethodName := ⟨RX10, "moveCups", "()V"⟩
abbrev cX10_endWire : ByteArray := prog_1_method_21_code
def yX10_endWire : MethodName := ⟨RX10, "endWire", "(LFlyingChange$Cup;LFlyingChange$Post;)V"⟩
abbrev cX10_comeUp : ByteArray := prog_1_method_22_code
def yX10_comeUp : MethodName := ⟨RX10, "comeUp", "(LFlyingChange$Cup;LFlyingChange$Post;)V"⟩
abbrev cX10_comeDown : ByteArray := prog_1_method_23_code
def yX10_comeDown : MethodName := ⟨RX10, "comeDown", "(LFlyingChange$Cup;LFlyingChange$Post;)V"⟩
abbrev cX10_ringAt : ByteArray := prog_1_method_24_code
def yX10_ringAt : MethodName := ⟨RX10, "ringAt", "(LFlyingChange$Post;)V"⟩
abbrev cX10_thrownTo : ByteArray := prog_1_method_25_code
def yX10_thrownTo : MethodName := ⟨RX10, "thrownTo", "(LFlyingChange$Cup;LFlyingChange$Post;)LFlyingChange$Post;"⟩
abbrev cX10_rightChild : ByteArray := prog_1_method_26_code
def yX10_rightChild : MethodName := ⟨RX10, "rightChild", "(LFlyingChange$Post;LFlyingChange$Post;)LFlyingChange$Post;"⟩
abbrev cX10_childBehind : ByteArray := prog_1_method_27_code
def yX10_childBehind : MethodName := ⟨RX10, "childBehind", "(LFlyingChange$Post;I)LFlyingChange$Post;"⟩
abbrev cX10_comeHome : ByteArray := prog_1_method_28_code
def yX10_comeHome : MethodName := ⟨RX10, "comeHome", "(LFlyingChange$Cup;)V"⟩
abbrev cX10_porterCups : ByteArray := prog_1_method_29_code
def yX10_porterCups : MethodName := ⟨RX10, "porterCups", "()V"⟩
abbrev cX10_workClerks : ByteArray := prog_1_method_30_code
def yX10_workClerks : MethodName := ⟨RX10, "workClerks", "()V"⟩
abbrev cX10_finish : ByteArray := prog_1_method_31_code
def yX10_finish : MethodName := ⟨RX10, "finish", "(LFlyingChange$Clerk;LFlyingChange$Cup;)V"⟩
abbrev cX10_settle : ByteArray := prog_1_method_32_code
def yX10_settle : MethodName := ⟨RX10, "settle", "(LFlyingChange$Cup;)V"⟩
abbrev cX10_takeFromRow : ByteArray := prog_1_method_33_code
def yX10_takeFromRow : MethodName := ⟨RX10, "takeFromRow", "()V"⟩
abbrev cX10_nextOfRow : ByteArray := prog_1_method_34_code
def yX10_nextOfRow : MethodName := ⟨RX10, "nextOfRow", "()LFlyingChange$Cup;"⟩
abbrev cX10_letOnWires : ByteArray := prog_1_method_35_code
def yX10_letOnWires : MethodName := ⟨RX10, "letOnWires", "()V"⟩
abbrev cX10_noteOnWires : ByteArray := prog_1_method_36_code
def yX10_noteOnWires : MethodName := ⟨RX10, "noteOnWires", "(LFlyingChange$Cup;)V"⟩
abbrev cX10_letOn : ByteArray := prog_1_method_37_code
def yX10_letOn : MethodName := ⟨RX10, "letOn", "(LFlyingChange$Post;)V"⟩
abbrev cX10_isFree : ByteArray := prog_1_method_38_code
def yX10_isFree : MethodName := ⟨RX10, "isFree", "(LFlyingChange$Post;LFlyingChange$Way;LFlyingChange$Way;)Z"⟩
abbrev cX10_row : ByteArray := prog_1_method_39_code
def yX10_row : MethodName := ⟨RX10, "row", "(I)I"⟩
abbrev cX10_lineUp : ByteArray := prog_1_method_40_code
def yX10_lineUp : MethodName := ⟨RX10, "lineUp", "(I)I"⟩
abbrev cX10_clerkAt : ByteArray := prog_1_method_41_code
def yX10_clerkAt : MethodName := ⟨RX10, "clerkAt", "(II)I"⟩
abbrev cX10_till : ByteArray := prog_1_method_42_code
def yX10_till : MethodName := ⟨RX10, "till", "(I)I"⟩
abbrev cX10_could : ByteArray := prog_1_method_43_code
def yX10_could : MethodName := ⟨RX10, "could", "(I)I"⟩
abbrev cX10_gives : ByteArray := prog_1_method_44_code
def yX10_gives : MethodName := ⟨RX10, "gives", "(II)I"⟩
abbrev cX10_on : ByteArray := prog_1_method_45_code
def yX10_on : MethodName := ⟨RX10, "on", "(IZ)I"⟩
abbrev cX10_waits : ByteArray := prog_1_method_46_code
def yX10_waits : MethodName := ⟨RX10, "waits", "(II)I"⟩
abbrev cX10_worst : ByteArray := prog_1_method_47_code
def yX10_worst : MethodName := ⟨RX10, "worst", "()I"⟩
abbrev cX10_best : ByteArray := prog_1_method_48_code
def yX10_best : MethodName := ⟨RX10, "best", "(I)I"⟩
abbrev cX10_worstBy : ByteArray := prog_1_method_49_code
def yX10_worstBy : MethodName := ⟨RX10, "worstBy", "(I)I"⟩
abbrev cX10_planRefusal : ByteArray := prog_1_method_50_code
def yX10_planRefusal : MethodName := ⟨RX10, "planRefusal", "(I)I"⟩
abbrev cX10_layPlan : ByteArray := prog_1_method_51_code
def yX10_layPlan : MethodName := ⟨RX10, "layPlan", "(I)V"⟩
abbrev cX10_rush : ByteArray := prog_1_method_52_code
def yX10_rush : MethodName := ⟨RX10, "rush", "(III)I"⟩
abbrev cX10_load : ByteArray := prog_1_method_53_code
def yX10_load : MethodName := ⟨RX10, "load", "(II)I"⟩
abbrev cX10_lines : ByteArray := prog_1_method_54_code
def yX10_lines : MethodName := ⟨RX10, "lines", "(I)I"⟩
abbrev cX10_wanted : ByteArray := prog_1_method_55_code
def yX10_wanted : MethodName := ⟨RX10, "wanted", "()I"⟩
abbrev cX10_vital : ByteArray := prog_1_method_56_code
def yX10_vital : MethodName := ⟨RX10, "vital", "(I)I"⟩
abbrev cX10_loss : ByteArray := prog_1_method_57_code
def yX10_loss : MethodName := ⟨RX10, "loss", "(II)I"⟩
abbrev cX10_bells : ByteArray := prog_1_method_58_code
def yX10_bells : MethodName := ⟨RX10, "bells", "()I"⟩
abbrev cX10_bell : ByteArray := prog_1_method_59_code
def yX10_bell : MethodName := ⟨RX10, "bell", "(IZ)I"⟩
abbrev cX10_mayBe : ByteArray := prog_1_method_60_code
def yX10_mayBe : MethodName := ⟨RX10, "mayBe", "(I)I"⟩
abbrev cX10_total : ByteArray := prog_1_method_61_code
def yX10_total : MethodName := ⟨RX10, "total", "(I)I"⟩
abbrev cX10_cupsOut : ByteArray := prog_1_method_62_code
def yX10_cupsOut : MethodName := ⟨RX10, "cupsOut", "()I"⟩
abbrev cX10_cupsWorth : ByteArray := prog_1_method_63_code
def yX10_cupsWorth : MethodName := ⟨RX10, "cupsWorth", "()I"⟩
abbrev cX10_within : ByteArray := prog_1_method_64_code
def yX10_within : MethodName := ⟨RX10, "within", "(III)Z"⟩
abbrev cX10_findPost : ByteArray := prog_1_method_65_code
def yX10_findPost : MethodName := ⟨RX10, "findPost", "(I)LFlyingChange$Post;"⟩
abbrev cX10_findWire : ByteArray := prog_1_method_66_code
def yX10_findWire : MethodName := ⟨RX10, "findWire", "(I)LFlyingChange$Post;"⟩
abbrev cX10_findCup : ByteArray := prog_1_method_67_code
def yX10_findCup : MethodName := ⟨RX10, "findCup", "(I)LFlyingChange$Cup;"⟩
def RX11 : String := "FlyingChangeModel"
def TX11 : u_T := fun k => match k with
  | 0 => ("FlyingChangeModel", "posts", "I", false)
  | 1 => ("FlyingChangeModel", "under", "[I", true)
  | 2 => ("FlyingChangeModel", "sort", "[I", true)
  | 3 => ("FlyingChangeModel", "length", "[I", true)
  | 4 => ("FlyingChangeModel", "gap", "[I", true)
  | 5 => ("FlyingChangeModel", "isDouble", "[Z", true)
  | 6 => ("FlyingChangeModel", "isBroken", "[Z", true)
  | 7 => ("FlyingChangeModel", "rule", "[I", true)
  | 8 => ("FlyingChangeModel", "worn", "[I", true)
  | 9 => ("FlyingChangeModel", "wornCount", "[I", true)
  | 10 => ("FlyingChangeModel", "isSilent", "[Z", true)
  | 11 => ("FlyingChangeModel", "lastTurn", "[I", true)
  | 12 => ("FlyingChangeModel", "lastOn", "[I", true)
  | 13 => ("FlyingChangeModel", "clock", "I", false)
  | 14 => ("FlyingChangeModel", "cups", "I", false)
  | 15 => ("FlyingChangeModel", "homeOf", "[I", true)
  | 16 => ("FlyingChangeModel", "where", "[I", true)
  | 17 => ("FlyingChangeModel", "place", "[I", true)
  | 18 => ("FlyingChangeModel", "stamp", "[I", true)
  | 19 => ("FlyingChangeModel", "goesUp", "[Z", true)
  | 20 => ("FlyingChangeModel", "child", "[I", true)
  | 21 => ("FlyingChangeModel", "came", "[I", true)
  | 22 => ("FlyingChangeModel", "sale", "[I", true)
  | 23 => ("FlyingChangeModel", "price", "[I", true)
  | 24 => ("FlyingChangeModel", "sent", "[I", true)
  | 25 => ("FlyingChangeModel", "coins", "[I", true)
  | 26 => ("FlyingChangeModel", "till", "[I", true)
  | 27 => ("FlyingChangeModel", "paid", "I", false)
  | 28 => ("FlyingChangeModel", "handed", "I", false)
  | 29 => ("FlyingChangeModel", "doneMany", "[I", true)
  | 30 => ("FlyingChangeModel", "refusedMany", "[I", true)
  | 31 => ("FlyingChangeModel", "mostWait", "[I", true)
  | 32 => ("FlyingChangeModel", "allWaits", "[I", true)
  | 33 => ("FlyingChangeModel", "handedAt", "[I", true)
  | 34 => ("FlyingChangeModel", "clerks", "I", false)
  | 35 => ("FlyingChangeModel", "needs", "[I", true)
  | 36 => ("FlyingChangeModel", "has", "[I", true)
  | 37 => ("FlyingChangeModel", "left", "[I", true)
  | 38 => ("FlyingChangeModel", "ruling", "I", false)
  | 39 => ("FlyingChangeModel", "fetches", "I", false)
  | 40 => ("FlyingChangeModel", "fetchKind", "[I", true)
  | 41 => ("FlyingChangeModel", "fetchMany", "[I", true)
  | 42 => ("FlyingChangeModel", "fetchTick", "[I", true)
  | 43 => ("FlyingChangeModel", "at", "[I", true)
  | 44 => ("FlyingChangeModel", "change", "[I", true)
  | 45 => ("FlyingChangeModel", "tried", "[I", true)
  | 46 => ("FlyingChangeModel", "changeMany", "I", false)
  | 47 => ("FlyingChangeModel", "bellMany", "I", false)
  | 48 => ("FlyingChangeModel", "bellFirst", "I", false)
  | 49 => ("FlyingChangeModel", "bellPost", "[I", true)
  | 50 => ("FlyingChangeModel", "bellTick", "[I", true)
  | 51 => ("FlyingChangeModel", "line", "[I", true)
  | 52 => ("FlyingChangeModel", "lined", "I", false)
  | 53 => ("FlyingChangeModel", "free", "[I", true)
  | 54 => ("FlyingChangeModel", "greatest", "I", false)
  | 55 => ("FlyingChangeModel", "together", "I", false)
  | 56 => ("FlyingChangeModel", "best", "[I", true)
  | 57 => ("FlyingChangeModel", "bestGreatest", "I", false)
  | _ => ("FlyingChangeModel", "rush", "[I", true)
def tyX11 : Nat → FieldType := fun k => match k with
  | 0 => .int
  | 1 => .array .int
  | 2 => .array .int
  | 3 => .array .int
  | 4 => .array .int
  | 5 => .array .boolean
  | 6 => .array .boolean
  | 7 => .array .int
  | 8 => .array .int
  | 9 => .array .int
  | 10 => .array .boolean
  | 11 => .array .int
  | 12 => .array .int
  | 13 => .int
  | 14 => .int
  | 15 => .array .int
  | 16 => .array .int
  | 17 => .array .int
  | 18 => .array .int
  | 19 => .array .boolean
  | 20 => .array .int
  | 21 => .array .int
  | 22 => .array .int
  | 23 => .array .int
  | 24 => .array .int
  | 25 => .array .int
  | 26 => .array .int
  | 27 => .int
  | 28 => .int
  | 29 => .array .int
  | 30 => .array .int
  | 31 => .array .int
  | 32 => .array .int
  | 33 => .array .int
  | 34 => .int
  | 35 => .array .int
  | 36 => .array .int
  | 37 => .array .int
  | 38 => .int
  | 39 => .int
  | 40 => .array .int
  | 41 => .array .int
  | 42 => .array .int
  | 43 => .array .int
  | 44 => .array .int
  | 45 => .array .int
  | 46 => .int
  | 47 => .int
  | 48 => .int
  | 49 => .array .int
  | 50 => .array .int
  | 51 => .array .int
  | 52 => .int
  | 53 => .array .int
  | 54 => .int
  | 55 => .int
  | 56 => .array .int
  | 57 => .int
  | _ => .array .int
theorem nmX11 : ∀ a, a < 59 → ∀ b, b < 59 → a ≠ b → (TX11 a).2.1 ≠ (TX11 b).2.1 := by decide +kernel
theorem tyX11_ok : ∀ k, k < 59 → parseFieldDescriptor (TX11 k).2.2.1 = some (tyX11 k) := by decide +kernel
abbrev cX11_init : ByteArray := prog_13_method_1_code
def yX11_init : MethodName := ⟨RX11, "<init>", "()V"⟩
abbrev cX11_in : ByteArray := prog_13_method_3_code
def yX11_in : MethodName := ⟨RX11, "in", "(III)Z"⟩
abbrev cX11_isPost : ByteArray := prog_13_method_4_code
def yX11_isPost : MethodName := ⟨RX11, "isPost", "(I)Z"⟩
abbrev cX11_isWire : ByteArray := prog_13_method_5_code
def yX11_isWire : MethodName := ⟨RX11, "isWire", "(I)Z"⟩
abbrev cX11_post : ByteArray := prog_13_method_6_code
def yX11_post : MethodName := ⟨RX11, "post", "(IZIIZ)I"⟩
abbrev cX11_joint : ByteArray := prog_13_method_7_code
def yX11_joint : MethodName := ⟨RX11, "joint", "(III)I"⟩
abbrev cX11_about : ByteArray := prog_13_method_8_code
def yX11_about : MethodName := ⟨RX11, "about", "(II)I"⟩
abbrev cX11_cord : ByteArray := prog_13_method_9_code
def yX11_cord : MethodName := ⟨RX11, "cord", "(IZ)I"⟩
abbrev cX11_liesBelow : ByteArray := prog_13_method_10_code
def yX11_liesBelow : MethodName := ⟨RX11, "liesBelow", "(II)Z"⟩
abbrev cX11_worth : ByteArray := prog_13_method_11_code
def yX11_worth : MethodName := ⟨RX11, "worth", "(I)I"⟩
abbrev cX11_isCup : ByteArray := prog_13_method_12_code
def yX11_isCup : MethodName := ⟨RX11, "isCup", "(I)Z"⟩
abbrev cX11_cup : ByteArray := prog_13_method_13_code
def yX11_cup : MethodName := ⟨RX11, "cup", "(I)I"⟩
abbrev cX11_clerk : ByteArray := prog_13_method_14_code
def yX11_clerk : MethodName := ⟨RX11, "clerk", "(I)I"⟩
abbrev cX11_order : ByteArray := prog_13_method_15_code
def yX11_order : MethodName := ⟨RX11, "order", "(I)I"⟩
abbrev cX11_drawer : ByteArray := prog_13_method_16_code
def yX11_drawer : MethodName := ⟨RX11, "drawer", "(II)I"⟩
abbrev cX11_fetch : ByteArray := prog_13_method_17_code
def yX11_fetch : MethodName := ⟨RX11, "fetch", "(III)I"⟩
abbrev cX11_waitAt : ByteArray := prog_13_method_18_code
def yX11_waitAt : MethodName := ⟨RX11, "waitAt", "(IIZI)V"⟩
abbrev cX11_send : ByteArray := prog_13_method_19_code
def yX11_send : MethodName := ⟨RX11, "send", "(IIII)I"⟩
abbrev cX11_resend : ByteArray := prog_13_method_20_code
def yX11_resend : MethodName := ⟨RX11, "resend", "(I)I"⟩
abbrev cX11_between : ByteArray := prog_13_method_21_code
def yX11_between : MethodName := ⟨RX11, "between", "(II)I"⟩
abbrev cX11_porter : ByteArray := prog_13_method_22_code
def yX11_porter : MethodName := ⟨RX11, "porter", "(I)I"⟩
abbrev cX11_leftOf : ByteArray := prog_13_method_23_code
def yX11_leftOf : MethodName := ⟨RX11, "leftOf", "(I)I"⟩
abbrev cX11_clerkOf : ByteArray := prog_13_method_24_code
def yX11_clerkOf : MethodName := ⟨RX11, "clerkOf", "(I)I"⟩
abbrev cX11_cupAt : ByteArray := prog_13_method_25_code
def yX11_cupAt : MethodName := ⟨RX11, "cupAt", "(II)I"⟩
abbrev cX11_worthOf : ByteArray := prog_13_method_26_code
def yX11_worthOf : MethodName := ⟨RX11, "worthOf", "(I)I"⟩
abbrev cX11_coins : ByteArray := prog_13_method_27_code
def yX11_coins : MethodName := ⟨RX11, "coins", "(II)I"⟩
abbrev cX11_tryRest : ByteArray := prog_13_method_28_code
def yX11_tryRest : MethodName := ⟨RX11, "tryRest", "(II)Z"⟩
abbrev cX11_layChange : ByteArray := prog_13_method_29_code
def yX11_layChange : MethodName := ⟨RX11, "layChange", "(I)V"⟩
abbrev cX11_till : ByteArray := prog_13_method_30_code
def yX11_till : MethodName := ⟨RX11, "till", "(I)I"⟩
abbrev cX11_could : ByteArray := prog_13_method_31_code
def yX11_could : MethodName := ⟨RX11, "could", "(I)I"⟩
abbrev cX11_gives : ByteArray := prog_13_method_32_code
def yX11_gives : MethodName := ⟨RX11, "gives", "(II)I"⟩
abbrev cX11_ring : ByteArray := prog_13_method_33_code
def yX11_ring : MethodName := ⟨RX11, "ring", "(I)V"⟩
abbrev cX11_rightChild : ByteArray := prog_13_method_34_code
def yX11_rightChild : MethodName := ⟨RX11, "rightChild", "(II)I"⟩
abbrev cX11_nextChild : ByteArray := prog_13_method_35_code
def yX11_nextChild : MethodName := ⟨RX11, "nextChild", "(II)I"⟩
abbrev cX11_comeHome : ByteArray := prog_13_method_36_code
def yX11_comeHome : MethodName := ⟨RX11, "comeHome", "(I)V"⟩
abbrev cX11_comeDown : ByteArray := prog_13_method_37_code
def yX11_comeDown : MethodName := ⟨RX11, "comeDown", "(II)V"⟩
abbrev cX11_comeUp : ByteArray := prog_13_method_38_code
def yX11_comeUp : MethodName := ⟨RX11, "comeUp", "(II)V"⟩
abbrev cX11_move : ByteArray := prog_13_method_39_code
def yX11_move : MethodName := ⟨RX11, "move", "()V"⟩
abbrev cX11_settle : ByteArray := prog_13_method_40_code
def yX11_settle : MethodName := ⟨RX11, "settle", "(I)V"⟩
abbrev cX11_serve : ByteArray := prog_13_method_41_code
def yX11_serve : MethodName := ⟨RX11, "serve", "()V"⟩
abbrev cX11_bring : ByteArray := prog_13_method_42_code
def yX11_bring : MethodName := ⟨RX11, "bring", "()V"⟩
abbrev cX11_sentOf : ByteArray := prog_13_method_43_code
def yX11_sentOf : MethodName := ⟨RX11, "sentOf", "(I)I"⟩
abbrev cX11_isAhead : ByteArray := prog_13_method_44_code
def yX11_isAhead : MethodName := ⟨RX11, "isAhead", "(III)Z"⟩
abbrev cX11_layRow : ByteArray := prog_13_method_45_code
def yX11_layRow : MethodName := ⟨RX11, "layRow", "(I)V"⟩
abbrev cX11_takeOn : ByteArray := prog_13_method_46_code
def yX11_takeOn : MethodName := ⟨RX11, "takeOn", "()V"⟩
abbrev cX11_isEarlier : ByteArray := prog_13_method_47_code
def yX11_isEarlier : MethodName := ⟨RX11, "isEarlier", "(II)Z"⟩
abbrev cX11_waitsUp : ByteArray := prog_13_method_48_code
def yX11_waitsUp : MethodName := ⟨RX11, "waitsUp", "(III)Z"⟩
abbrev cX11_firstUp : ByteArray := prog_13_method_49_code
def yX11_firstUp : MethodName := ⟨RX11, "firstUp", "(II)I"⟩
abbrev cX11_upOf : ByteArray := prog_13_method_50_code
def yX11_upOf : MethodName := ⟨RX11, "upOf", "(I)I"⟩
abbrev cX11_downOf : ByteArray := prog_13_method_51_code
def yX11_downOf : MethodName := ⟨RX11, "downOf", "(I)I"⟩
abbrev cX11_onMany : ByteArray := prog_13_method_52_code
def yX11_onMany : MethodName := ⟨RX11, "onMany", "(IZ)I"⟩
abbrev cX11_isClear : ByteArray := prog_13_method_53_code
def yX11_isClear : MethodName := ⟨RX11, "isClear", "(IZ)Z"⟩
abbrev cX11_isNear : ByteArray := prog_13_method_54_code
def yX11_isNear : MethodName := ⟨RX11, "isNear", "(IZ)Z"⟩
abbrev cX11_letOn : ByteArray := prog_13_method_55_code
def yX11_letOn : MethodName := ⟨RX11, "letOn", "(IIZ)V"⟩
abbrev cX11_letAll : ByteArray := prog_13_method_56_code
def yX11_letAll : MethodName := ⟨RX11, "letAll", "()V"⟩
abbrev cX11_tick : ByteArray := prog_13_method_57_code
def yX11_tick : MethodName := ⟨RX11, "tick", "(I)I"⟩
abbrev cX11_row : ByteArray := prog_13_method_58_code
def yX11_row : MethodName := ⟨RX11, "row", "(I)I"⟩
abbrev cX11_clerkAt : ByteArray := prog_13_method_59_code
def yX11_clerkAt : MethodName := ⟨RX11, "clerkAt", "(II)I"⟩
abbrev cX11_on : ByteArray := prog_13_method_60_code
def yX11_on : MethodName := ⟨RX11, "on", "(IZ)I"⟩
abbrev cX11_waits : ByteArray := prog_13_method_61_code
def yX11_waits : MethodName := ⟨RX11, "waits", "(II)I"⟩
abbrev cX11_measure : ByteArray := prog_13_method_62_code
def yX11_measure : MethodName := ⟨RX11, "measure", "()V"⟩
abbrev cX11_nextLine : ByteArray := prog_13_method_63_code
def yX11_nextLine : MethodName := ⟨RX11, "nextLine", "()Z"⟩
abbrev cX11_swap : ByteArray := prog_13_method_64_code
def yX11_swap : MethodName := ⟨RX11, "swap", "(II)V"⟩
abbrev cX11_mayOrder : ByteArray := prog_13_method_65_code
def yX11_mayOrder : MethodName := ⟨RX11, "mayOrder", "()I"⟩
abbrev cX11_layBest : ByteArray := prog_13_method_66_code
def yX11_layBest : MethodName := ⟨RX11, "layBest", "()V"⟩
abbrev cX11_worst : ByteArray := prog_13_method_67_code
def yX11_worst : MethodName := ⟨RX11, "worst", "()I"⟩
abbrev cX11_best : ByteArray := prog_13_method_68_code
def yX11_best : MethodName := ⟨RX11, "best", "(I)I"⟩
abbrev cX11_worstBy : ByteArray := prog_13_method_69_code
def yX11_worstBy : MethodName := ⟨RX11, "worstBy", "(I)I"⟩
abbrev cX11_rush : ByteArray := prog_13_method_70_code
def yX11_rush : MethodName := ⟨RX11, "rush", "(III)I"⟩
abbrev cX11_loadOf : ByteArray := prog_13_method_71_code
def yX11_loadOf : MethodName := ⟨RX11, "loadOf", "(II)I"⟩
abbrev cX11_load : ByteArray := prog_13_method_72_code
def yX11_load : MethodName := ⟨RX11, "load", "(II)I"⟩
abbrev cX11_linesOf : ByteArray := prog_13_method_73_code
def yX11_linesOf : MethodName := ⟨RX11, "linesOf", "(I)I"⟩
abbrev cX11_lines : ByteArray := prog_13_method_74_code
def yX11_lines : MethodName := ⟨RX11, "lines", "(I)I"⟩
abbrev cX11_wanted : ByteArray := prog_13_method_75_code
def yX11_wanted : MethodName := ⟨RX11, "wanted", "()I"⟩
abbrev cX11_vital : ByteArray := prog_13_method_76_code
def yX11_vital : MethodName := ⟨RX11, "vital", "(I)I"⟩
abbrev cX11_loss : ByteArray := prog_13_method_77_code
def yX11_loss : MethodName := ⟨RX11, "loss", "(II)I"⟩
abbrev cX11_bells : ByteArray := prog_13_method_78_code
def yX11_bells : MethodName := ⟨RX11, "bells", "()I"⟩
abbrev cX11_bell : ByteArray := prog_13_method_79_code
def yX11_bell : MethodName := ⟨RX11, "bell", "(IZ)I"⟩
abbrev cX11_rungBehind : ByteArray := prog_13_method_80_code
def yX11_rungBehind : MethodName := ⟨RX11, "rungBehind", "(II)I"⟩
abbrev cX11_mayBe : ByteArray := prog_13_method_81_code
def yX11_mayBe : MethodName := ⟨RX11, "mayBe", "(I)I"⟩
abbrev cX11_total : ByteArray := prog_13_method_82_code
def yX11_total : MethodName := ⟨RX11, "total", "(I)I"⟩
def RJ6 : String := "java/lang/Integer"
abbrev cJ6_compare_7cf53 : ByteArray := prog_14_method_40_code
def yJ6_compare_7cf53 : MethodName := ⟨RJ6, "compare", "(II)I"⟩
def RJ9 : String := "java/lang/Math"
abbrev cJ9_max_7cf53 : ByteArray := prog_15_method_65_code
def yJ9_max_7cf53 : MethodName := ⟨RJ9, "max", "(II)I"⟩
abbrev cJ9_min_7cf53 : ByteArray := prog_15_method_69_code
def yJ9_min_7cf53 : MethodName := ⟨RJ9, "min", "(II)I"⟩
def RJ10 : String := "java/lang/System"
def RL : String := "FlyingChangeLaw"
abbrev cL_law : ByteArray := code
def yL_law : MethodName := ⟨RL, "law", "([I)Z"⟩
abbrev vwCl : List vw_C := [(RX0, TX0, 4), (RX1, TX1, 2), (RX2, TX2, 4), (RX3, TX3, 1), (RX4, TX4, 15), (RX5, TX5, 4), (RX6, TX6, 10), (RX7, TX7, 16), (RX8, TX8, 5), (RX9, TX9, 5), (RX10, TX10, 17), (RX11, TX11, 59)]
