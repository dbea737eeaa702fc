theorem dX0_init_0 : decode cX0_init 0 = .ok (.aload_n 0, 1) := by decide +kernel
theorem dX0_init_1 : decode cX0_init 1 = .ok (.invokespecial 3, 3) := by decide +kernel
theorem dX0_init_4 : decode cX0_init 4 = .ok (.aload_n 0, 1) := by decide +kernel
theorem dX0_init_5 : decode cX0_init 5 = .ok (.sipush 300, 3) := by decide +kernel
theorem dX0_init_8 : decode cX0_init 8 = .ok (.newarray .int, 2) := by decide +kernel
theorem dX0_init_10 : decode cX0_init 10 = .ok (.putfield 9, 3) := by decide +kernel
theorem dX0_init_13 : decode cX0_init 13 = .ok (.aload_n 0, 1) := by decide +kernel
theorem dX0_init_14 : decode cX0_init 14 = .ok (.sipush 300, 3) := by decide +kernel
theorem dX0_init_17 : decode cX0_init 17 = .ok (.newarray .int, 2) := by decide +kernel
theorem dX0_init_19 : decode cX0_init 19 = .ok (.putfield 15, 3) := by decide +kernel
theorem dX0_init_22 : decode cX0_init 22 = .ok (.return_, 1) := by decide +kernel
theorem dX0_ring_0 : decode cX0_ring 0 = .ok (.aload_n 0, 1) := by decide +kernel
theorem dX0_ring_1 : decode cX0_ring 1 = .ok (.getfield 18, 3) := by decide +kernel
theorem dX0_ring_4 : decode cX0_ring 4 = .ok (.aload_n 0, 1) := by decide +kernel
theorem dX0_ring_5 : decode cX0_ring 5 = .ok (.getfield 22, 3) := by decide +kernel
theorem dX0_ring_8 : decode cX0_ring 8 = .ok (.iadd, 1) := by decide +kernel
theorem dX0_ring_9 : decode cX0_ring 9 = .ok (.sipush 300, 3) := by decide +kernel
theorem dX0_ring_12 : decode cX0_ring 12 = .ok (.irem, 1) := by decide +kernel
theorem dX0_ring_13 : decode cX0_ring 13 = .ok (.istore_n 3, 1) := by decide +kernel
theorem dX0_ring_14 : decode cX0_ring 14 = .ok (.aload_n 0, 1) := by decide +kernel
theorem dX0_ring_15 : decode cX0_ring 15 = .ok (.getfield 9, 3) := by decide +kernel
theorem dX0_ring_18 : decode cX0_ring 18 = .ok (.iload_n 3, 1) := by decide +kernel
theorem dX0_ring_19 : decode cX0_ring 19 = .ok (.iload_n 1, 1) := by decide +kernel
theorem dX0_ring_20 : decode cX0_ring 20 = .ok (.iastore, 1) := by decide +kernel
theorem dX0_ring_21 : decode cX0_ring 21 = .ok (.aload_n 0, 1) := by decide +kernel
theorem dX0_ring_22 : decode cX0_ring 22 = .ok (.getfield 15, 3) := by decide +kernel
theorem dX0_ring_25 : decode cX0_ring 25 = .ok (.iload_n 3, 1) := by decide +kernel
theorem dX0_ring_26 : decode cX0_ring 26 = .ok (.iload_n 2, 1) := by decide +kernel
theorem dX0_ring_27 : decode cX0_ring 27 = .ok (.iastore, 1) := by decide +kernel
theorem dX0_ring_28 : decode cX0_ring 28 = .ok (.aload_n 0, 1) := by decide +kernel
theorem dX0_ring_29 : decode cX0_ring 29 = .ok (.getfield 22, 3) := by decide +kernel
theorem dX0_ring_32 : decode cX0_ring 32 = .ok (.sipush 300, 3) := by decide +kernel
theorem dX0_ring_35 : decode cX0_ring 35 = .ok (.if_icmp .ge 16, 3) := by decide +kernel
theorem dX0_ring_38 : decode cX0_ring 38 = .ok (.aload_n 0, 1) := by decide +kernel
theorem dX0_ring_39 : decode cX0_ring 39 = .ok (.dup, 1) := by decide +kernel
theorem dX0_ring_40 : decode cX0_ring 40 = .ok (.getfield 22, 3) := by decide +kernel
theorem dX0_ring_43 : decode cX0_ring 43 = .ok (.iconst 1, 1) := by decide +kernel
theorem dX0_ring_44 : decode cX0_ring 44 = .ok (.iadd, 1) := by decide +kernel
theorem dX0_ring_45 : decode cX0_ring 45 = .ok (.putfield 22, 3) := by decide +kernel
theorem dX0_ring_48 : decode cX0_ring 48 = .ok (.goto 17, 3) := by decide +kernel
theorem dX0_ring_51 : decode cX0_ring 51 = .ok (.aload_n 0, 1) := by decide +kernel
theorem dX0_ring_52 : decode cX0_ring 52 = .ok (.aload_n 0, 1) := by decide +kernel
theorem dX0_ring_53 : decode cX0_ring 53 = .ok (.getfield 18, 3) := by decide +kernel
theorem dX0_ring_56 : decode cX0_ring 56 = .ok (.iconst 1, 1) := by decide +kernel
theorem dX0_ring_57 : decode cX0_ring 57 = .ok (.iadd, 1) := by decide +kernel
theorem dX0_ring_58 : decode cX0_ring 58 = .ok (.sipush 300, 3) := by decide +kernel
theorem dX0_ring_61 : decode cX0_ring 61 = .ok (.irem, 1) := by decide +kernel
theorem dX0_ring_62 : decode cX0_ring 62 = .ok (.putfield 18, 3) := by decide +kernel
theorem dX0_ring_65 : decode cX0_ring 65 = .ok (.return_, 1) := by decide +kernel
theorem dX0_jointOf_0 : decode cX0_jointOf 0 = .ok (.aload_n 0, 1) := by decide +kernel
theorem dX0_jointOf_1 : decode cX0_jointOf 1 = .ok (.getfield 9, 3) := by decide +kernel
theorem dX0_jointOf_4 : decode cX0_jointOf 4 = .ok (.aload_n 0, 1) := by decide +kernel
theorem dX0_jointOf_5 : decode cX0_jointOf 5 = .ok (.getfield 18, 3) := by decide +kernel
theorem dX0_jointOf_8 : decode cX0_jointOf 8 = .ok (.iload_n 1, 1) := by decide +kernel
theorem dX0_jointOf_9 : decode cX0_jointOf 9 = .ok (.iadd, 1) := by decide +kernel
theorem dX0_jointOf_10 : decode cX0_jointOf 10 = .ok (.sipush 300, 3) := by decide +kernel
theorem dX0_jointOf_13 : decode cX0_jointOf 13 = .ok (.irem, 1) := by decide +kernel
theorem dX0_jointOf_14 : decode cX0_jointOf 14 = .ok (.iaload, 1) := by decide +kernel
theorem dX0_jointOf_15 : decode cX0_jointOf 15 = .ok (.ireturn, 1) := by decide +kernel
theorem dX0_tickOf_0 : decode cX0_tickOf 0 = .ok (.aload_n 0, 1) := by decide +kernel
theorem dX0_tickOf_1 : decode cX0_tickOf 1 = .ok (.getfield 15, 3) := by decide +kernel
theorem dX0_tickOf_4 : decode cX0_tickOf 4 = .ok (.aload_n 0, 1) := by decide +kernel
theorem dX0_tickOf_5 : decode cX0_tickOf 5 = .ok (.getfield 18, 3) := by decide +kernel
theorem dX0_tickOf_8 : decode cX0_tickOf 8 = .ok (.iload_n 1, 1) := by decide +kernel
theorem dX0_tickOf_9 : decode cX0_tickOf 9 = .ok (.iadd, 1) := by decide +kernel
theorem dX0_tickOf_10 : decode cX0_tickOf 10 = .ok (.sipush 300, 3) := by decide +kernel
theorem dX0_tickOf_13 : decode cX0_tickOf 13 = .ok (.irem, 1) := by decide +kernel
theorem dX0_tickOf_14 : decode cX0_tickOf 14 = .ok (.iaload, 1) := by decide +kernel
theorem dX0_tickOf_15 : decode cX0_tickOf 15 = .ok (.ireturn, 1) := by decide +kernel
theorem dX0_firstFrom_0 : decode cX0_firstFrom 0 = .ok (.iconst 0, 1) := by decide +kernel
theorem dX0_firstFrom_1 : decode cX0_firstFrom 1 = .ok (.istore_n 3, 1) := by decide +kernel
theorem dX0_firstFrom_2 : decode cX0_firstFrom 2 = .ok (.iload_n 3, 1) := by decide +kernel
theorem dX0_firstFrom_3 : decode cX0_firstFrom 3 = .ok (.aload_n 0, 1) := by decide +kernel
theorem dX0_firstFrom_4 : decode cX0_firstFrom 4 = .ok (.getfield 22, 3) := by decide +kernel
theorem dX0_firstFrom_7 : decode cX0_firstFrom 7 = .ok (.if_icmp .ge 33, 3) := by decide +kernel
theorem dX0_firstFrom_10 : decode cX0_firstFrom 10 = .ok (.aload_n 0, 1) := by decide +kernel
theorem dX0_firstFrom_11 : decode cX0_firstFrom 11 = .ok (.iload_n 3, 1) := by decide +kernel
theorem dX0_firstFrom_12 : decode cX0_firstFrom 12 = .ok (.invokevirtual 25, 3) := by decide +kernel
theorem dX0_firstFrom_15 : decode cX0_firstFrom 15 = .ok (.iload_n 1, 1) := by decide +kernel
theorem dX0_firstFrom_16 : decode cX0_firstFrom 16 = .ok (.if_icmp .ne 18, 3) := by decide +kernel
theorem dX0_firstFrom_19 : decode cX0_firstFrom 19 = .ok (.aload_n 0, 1) := by decide +kernel
theorem dX0_firstFrom_20 : decode cX0_firstFrom 20 = .ok (.iload_n 3, 1) := by decide +kernel
theorem dX0_firstFrom_21 : decode cX0_firstFrom 21 = .ok (.invokevirtual 29, 3) := by decide +kernel
theorem dX0_firstFrom_24 : decode cX0_firstFrom 24 = .ok (.iload_n 2, 1) := by decide +kernel
theorem dX0_firstFrom_25 : decode cX0_firstFrom 25 = .ok (.if_icmp .lt 9, 3) := by decide +kernel
theorem dX0_firstFrom_28 : decode cX0_firstFrom 28 = .ok (.aload_n 0, 1) := by decide +kernel
theorem dX0_firstFrom_29 : decode cX0_firstFrom 29 = .ok (.iload_n 3, 1) := by decide +kernel
theorem dX0_firstFrom_30 : decode cX0_firstFrom 30 = .ok (.invokevirtual 29, 3) := by decide +kernel
theorem dX0_firstFrom_33 : decode cX0_firstFrom 33 = .ok (.ireturn, 1) := by decide +kernel
theorem dX0_firstFrom_34 : decode cX0_firstFrom 34 = .ok (.iinc 3 1, 3) := by decide +kernel
theorem dX0_firstFrom_37 : decode cX0_firstFrom 37 = .ok (.goto (-35), 3) := by decide +kernel
theorem dX0_firstFrom_40 : decode cX0_firstFrom 40 = .ok (.bipush (-9), 2) := by decide +kernel
theorem dX0_firstFrom_42 : decode cX0_firstFrom 42 = .ok (.ireturn, 1) := by decide +kernel
theorem dX1_init_0 : decode cX1_init 0 = .ok (.aload_n 0, 1) := by decide +kernel
theorem dX1_init_1 : decode cX1_init 1 = .ok (.invokespecial 3, 3) := by decide +kernel
theorem dX1_init_4 : decode cX1_init 4 = .ok (.aload_n 0, 1) := by decide +kernel
theorem dX1_init_5 : decode cX1_init 5 = .ok (.bipush 6, 2) := by decide +kernel
theorem dX1_init_7 : decode cX1_init 7 = .ok (.newarray .int, 2) := by decide +kernel
theorem dX1_init_9 : decode cX1_init 9 = .ok (.putfield 9, 3) := by decide +kernel
theorem dX1_init_12 : decode cX1_init 12 = .ok (.aload_n 0, 1) := by decide +kernel
theorem dX1_init_13 : decode cX1_init 13 = .ok (.bipush 6, 2) := by decide +kernel
theorem dX1_init_15 : decode cX1_init 15 = .ok (.newarray .int, 2) := by decide +kernel
theorem dX1_init_17 : decode cX1_init 17 = .ok (.putfield 15, 3) := by decide +kernel
theorem dX1_init_20 : decode cX1_init 20 = .ok (.return_, 1) := by decide +kernel
theorem dX1_find_0 : decode cX1_find 0 = .ok (.bipush (-9), 2) := by decide +kernel
theorem dX1_find_2 : decode cX1_find 2 = .ok (.istore_n 3, 1) := by decide +kernel
theorem dX1_find_3 : decode cX1_find 3 = .ok (.aload_n 1, 1) := by decide +kernel
theorem dX1_find_4 : decode cX1_find 4 = .ok (.iconst 5, 1) := by decide +kernel
theorem dX1_find_5 : decode cX1_find 5 = .ok (.iaload, 1) := by decide +kernel
theorem dX1_find_6 : decode cX1_find 6 = .ok (.iload_n 2, 1) := by decide +kernel
theorem dX1_find_7 : decode cX1_find 7 = .ok (.getstatic 18, 3) := by decide +kernel
theorem dX1_find_10 : decode cX1_find 10 = .ok (.iconst 5, 1) := by decide +kernel
theorem dX1_find_11 : decode cX1_find 11 = .ok (.iaload, 1) := by decide +kernel
theorem dX1_find_12 : decode cX1_find 12 = .ok (.idiv, 1) := by decide +kernel
theorem dX1_find_13 : decode cX1_find 13 = .ok (.invokestatic 21, 3) := by decide +kernel
theorem dX1_find_16 : decode cX1_find 16 = .ok (.istore 4, 2) := by decide +kernel
theorem dX1_find_18 : decode cX1_find 18 = .ok (.iload 4, 2) := by decide +kernel
theorem dX1_find_20 : decode cX1_find 20 = .ok (.istore 5, 2) := by decide +kernel
theorem dX1_find_22 : decode cX1_find 22 = .ok (.iload 5, 2) := by decide +kernel
theorem dX1_find_24 : decode cX1_find 24 = .ok (.ifCond .lt 129, 3) := by decide +kernel
theorem dX1_find_27 : decode cX1_find 27 = .ok (.iload 5, 2) := by decide +kernel
theorem dX1_find_29 : decode cX1_find 29 = .ok (.iload 4, 2) := by decide +kernel
theorem dX1_find_31 : decode cX1_find 31 = .ok (.iconst 1, 1) := by decide +kernel
theorem dX1_find_32 : decode cX1_find 32 = .ok (.isub, 1) := by decide +kernel
theorem dX1_find_33 : decode cX1_find 33 = .ok (.if_icmp .lt 120, 3) := by decide +kernel
theorem dX1_find_36 : decode cX1_find 36 = .ok (.iload_n 2, 1) := by decide +kernel
theorem dX1_find_37 : decode cX1_find 37 = .ok (.iload 5, 2) := by decide +kernel
theorem dX1_find_39 : decode cX1_find 39 = .ok (.getstatic 18, 3) := by decide +kernel
theorem dX1_find_42 : decode cX1_find 42 = .ok (.iconst 5, 1) := by decide +kernel
theorem dX1_find_43 : decode cX1_find 43 = .ok (.iaload, 1) := by decide +kernel
theorem dX1_find_44 : decode cX1_find 44 = .ok (.imul, 1) := by decide +kernel
theorem dX1_find_45 : decode cX1_find 45 = .ok (.isub, 1) := by decide +kernel
theorem dX1_find_46 : decode cX1_find 46 = .ok (.istore 6, 2) := by decide +kernel
theorem dX1_find_48 : decode cX1_find 48 = .ok (.aload_n 1, 1) := by decide +kernel
theorem dX1_find_49 : decode cX1_find 49 = .ok (.iconst 4, 1) := by decide +kernel
theorem dX1_find_50 : decode cX1_find 50 = .ok (.iaload, 1) := by decide +kernel
theorem dX1_find_51 : decode cX1_find 51 = .ok (.iload 6, 2) := by decide +kernel
theorem dX1_find_53 : decode cX1_find 53 = .ok (.getstatic 18, 3) := by decide +kernel
theorem dX1_find_56 : decode cX1_find 56 = .ok (.iconst 4, 1) := by decide +kernel
theorem dX1_find_57 : decode cX1_find 57 = .ok (.iaload, 1) := by decide +kernel
theorem dX1_find_58 : decode cX1_find 58 = .ok (.idiv, 1) := by decide +kernel
theorem dX1_find_59 : decode cX1_find 59 = .ok (.invokestatic 21, 3) := by decide +kernel
theorem dX1_find_62 : decode cX1_find 62 = .ok (.istore 7, 2) := by decide +kernel
theorem dX1_find_64 : decode cX1_find 64 = .ok (.iload 7, 2) := by decide +kernel
theorem dX1_find_66 : decode cX1_find 66 = .ok (.istore 8, 2) := by decide +kernel
theorem dX1_find_68 : decode cX1_find 68 = .ok (.iload 8, 2) := by decide +kernel
theorem dX1_find_70 : decode cX1_find 70 = .ok (.ifCond .lt 77, 3) := by decide +kernel
theorem dX1_find_73 : decode cX1_find 73 = .ok (.iload 8, 2) := by decide +kernel
theorem dX1_find_75 : decode cX1_find 75 = .ok (.iload 7, 2) := by decide +kernel
theorem dX1_find_77 : decode cX1_find 77 = .ok (.iconst 1, 1) := by decide +kernel
theorem dX1_find_78 : decode cX1_find 78 = .ok (.isub, 1) := by decide +kernel
theorem dX1_find_79 : decode cX1_find 79 = .ok (.if_icmp .lt 68, 3) := by decide +kernel
theorem dX1_find_82 : decode cX1_find 82 = .ok (.aload_n 0, 1) := by decide +kernel
theorem dX1_find_83 : decode cX1_find 83 = .ok (.aload_n 1, 1) := by decide +kernel
theorem dX1_find_84 : decode cX1_find 84 = .ok (.iload 5, 2) := by decide +kernel
theorem dX1_find_86 : decode cX1_find 86 = .ok (.iload 8, 2) := by decide +kernel
theorem dX1_find_88 : decode cX1_find 88 = .ok (.iload 6, 2) := by decide +kernel
theorem dX1_find_90 : decode cX1_find 90 = .ok (.iload 8, 2) := by decide +kernel
theorem dX1_find_92 : decode cX1_find 92 = .ok (.getstatic 18, 3) := by decide +kernel
theorem dX1_find_95 : decode cX1_find 95 = .ok (.iconst 4, 1) := by decide +kernel
theorem dX1_find_96 : decode cX1_find 96 = .ok (.iaload, 1) := by decide +kernel
theorem dX1_find_97 : decode cX1_find 97 = .ok (.imul, 1) := by decide +kernel
theorem dX1_find_98 : decode cX1_find 98 = .ok (.isub, 1) := by decide +kernel
theorem dX1_find_99 : decode cX1_find 99 = .ok (.invokevirtual 27, 3) := by decide +kernel
theorem dX1_find_102 : decode cX1_find 102 = .ok (.istore 9, 2) := by decide +kernel
theorem dX1_find_104 : decode cX1_find 104 = .ok (.iload 9, 2) := by decide +kernel
theorem dX1_find_106 : decode cX1_find 106 = .ok (.bipush (-9), 2) := by decide +kernel
theorem dX1_find_108 : decode cX1_find 108 = .ok (.if_icmp .eq 33, 3) := by decide +kernel
theorem dX1_find_111 : decode cX1_find 111 = .ok (.iload_n 3, 1) := by decide +kernel
theorem dX1_find_112 : decode cX1_find 112 = .ok (.bipush (-9), 2) := by decide +kernel
theorem dX1_find_114 : decode cX1_find 114 = .ok (.if_icmp .eq 9, 3) := by decide +kernel
theorem dX1_find_117 : decode cX1_find 117 = .ok (.iload 9, 2) := by decide +kernel
theorem dX1_find_119 : decode cX1_find 119 = .ok (.iload_n 3, 1) := by decide +kernel
theorem dX1_find_120 : decode cX1_find 120 = .ok (.if_icmp .ge 21, 3) := by decide +kernel
theorem dX1_find_123 : decode cX1_find 123 = .ok (.iload 9, 2) := by decide +kernel
theorem dX1_find_125 : decode cX1_find 125 = .ok (.istore_n 3, 1) := by decide +kernel
theorem dX1_find_126 : decode cX1_find 126 = .ok (.aload_n 0, 1) := by decide +kernel
theorem dX1_find_127 : decode cX1_find 127 = .ok (.getfield 15, 3) := by decide +kernel
theorem dX1_find_130 : decode cX1_find 130 = .ok (.iconst 0, 1) := by decide +kernel
theorem dX1_find_131 : decode cX1_find 131 = .ok (.aload_n 0, 1) := by decide +kernel
theorem dX1_find_132 : decode cX1_find 132 = .ok (.getfield 9, 3) := by decide +kernel
theorem dX1_find_135 : decode cX1_find 135 = .ok (.iconst 0, 1) := by decide +kernel
theorem dX1_find_136 : decode cX1_find 136 = .ok (.bipush 6, 2) := by decide +kernel
theorem dX1_find_138 : decode cX1_find 138 = .ok (.invokestatic 31, 3) := by decide +kernel
theorem dX1_find_141 : decode cX1_find 141 = .ok (.iinc 8 (-1), 3) := by decide +kernel
theorem dX1_find_144 : decode cX1_find 144 = .ok (.goto (-76), 3) := by decide +kernel
theorem dX1_find_147 : decode cX1_find 147 = .ok (.iinc 5 (-1), 3) := by decide +kernel
theorem dX1_find_150 : decode cX1_find 150 = .ok (.goto (-128), 3) := by decide +kernel
theorem dX1_find_153 : decode cX1_find 153 = .ok (.iload_n 3, 1) := by decide +kernel
theorem dX1_find_154 : decode cX1_find 154 = .ok (.ireturn, 1) := by decide +kernel
theorem dX1_fill_0 : decode cX1_fill 0 = .ok (.aload_n 0, 1) := by decide +kernel
theorem dX1_fill_1 : decode cX1_fill 1 = .ok (.getfield 15, 3) := by decide +kernel
theorem dX1_fill_4 : decode cX1_fill 4 = .ok (.iconst 5, 1) := by decide +kernel
theorem dX1_fill_5 : decode cX1_fill 5 = .ok (.iload_n 2, 1) := by decide +kernel
theorem dX1_fill_6 : decode cX1_fill 6 = .ok (.iastore, 1) := by decide +kernel
theorem dX1_fill_7 : decode cX1_fill 7 = .ok (.aload_n 0, 1) := by decide +kernel
theorem dX1_fill_8 : decode cX1_fill 8 = .ok (.getfield 15, 3) := by decide +kernel
theorem dX1_fill_11 : decode cX1_fill 11 = .ok (.iconst 4, 1) := by decide +kernel
theorem dX1_fill_12 : decode cX1_fill 12 = .ok (.iload_n 3, 1) := by decide +kernel
theorem dX1_fill_13 : decode cX1_fill 13 = .ok (.iastore, 1) := by decide +kernel
theorem dX1_fill_14 : decode cX1_fill 14 = .ok (.iload_n 2, 1) := by decide +kernel
theorem dX1_fill_15 : decode cX1_fill 15 = .ok (.iload_n 3, 1) := by decide +kernel
theorem dX1_fill_16 : decode cX1_fill 16 = .ok (.iadd, 1) := by decide +kernel
theorem dX1_fill_17 : decode cX1_fill 17 = .ok (.istore 5, 2) := by decide +kernel
theorem dX1_fill_19 : decode cX1_fill 19 = .ok (.iload 4, 2) := by decide +kernel
theorem dX1_fill_21 : decode cX1_fill 21 = .ok (.istore 6, 2) := by decide +kernel
theorem dX1_fill_23 : decode cX1_fill 23 = .ok (.iconst 3, 1) := by decide +kernel
theorem dX1_fill_24 : decode cX1_fill 24 = .ok (.istore 7, 2) := by decide +kernel
theorem dX1_fill_26 : decode cX1_fill 26 = .ok (.iload 7, 2) := by decide +kernel
theorem dX1_fill_28 : decode cX1_fill 28 = .ok (.ifCond .lt 63, 3) := by decide +kernel
theorem dX1_fill_31 : decode cX1_fill 31 = .ok (.aload_n 0, 1) := by decide +kernel
theorem dX1_fill_32 : decode cX1_fill 32 = .ok (.getfield 15, 3) := by decide +kernel
theorem dX1_fill_35 : decode cX1_fill 35 = .ok (.iload 7, 2) := by decide +kernel
theorem dX1_fill_37 : decode cX1_fill 37 = .ok (.aload_n 1, 1) := by decide +kernel
theorem dX1_fill_38 : decode cX1_fill 38 = .ok (.iload 7, 2) := by decide +kernel
theorem dX1_fill_40 : decode cX1_fill 40 = .ok (.iaload, 1) := by decide +kernel
theorem dX1_fill_41 : decode cX1_fill 41 = .ok (.iload 6, 2) := by decide +kernel
theorem dX1_fill_43 : decode cX1_fill 43 = .ok (.getstatic 18, 3) := by decide +kernel
theorem dX1_fill_46 : decode cX1_fill 46 = .ok (.iload 7, 2) := by decide +kernel
theorem dX1_fill_48 : decode cX1_fill 48 = .ok (.iaload, 1) := by decide +kernel
theorem dX1_fill_49 : decode cX1_fill 49 = .ok (.idiv, 1) := by decide +kernel
theorem dX1_fill_50 : decode cX1_fill 50 = .ok (.invokestatic 21, 3) := by decide +kernel
theorem dX1_fill_53 : decode cX1_fill 53 = .ok (.iastore, 1) := by decide +kernel
theorem dX1_fill_54 : decode cX1_fill 54 = .ok (.iload 6, 2) := by decide +kernel
theorem dX1_fill_56 : decode cX1_fill 56 = .ok (.aload_n 0, 1) := by decide +kernel
theorem dX1_fill_57 : decode cX1_fill 57 = .ok (.getfield 15, 3) := by decide +kernel
theorem dX1_fill_60 : decode cX1_fill 60 = .ok (.iload 7, 2) := by decide +kernel
theorem dX1_fill_62 : decode cX1_fill 62 = .ok (.iaload, 1) := by decide +kernel
theorem dX1_fill_63 : decode cX1_fill 63 = .ok (.getstatic 18, 3) := by decide +kernel
theorem dX1_fill_66 : decode cX1_fill 66 = .ok (.iload 7, 2) := by decide +kernel
theorem dX1_fill_68 : decode cX1_fill 68 = .ok (.iaload, 1) := by decide +kernel
theorem dX1_fill_69 : decode cX1_fill 69 = .ok (.imul, 1) := by decide +kernel
theorem dX1_fill_70 : decode cX1_fill 70 = .ok (.isub, 1) := by decide +kernel
theorem dX1_fill_71 : decode cX1_fill 71 = .ok (.istore 6, 2) := by decide +kernel
theorem dX1_fill_73 : decode cX1_fill 73 = .ok (.iload 5, 2) := by decide +kernel
theorem dX1_fill_75 : decode cX1_fill 75 = .ok (.aload_n 0, 1) := by decide +kernel
theorem dX1_fill_76 : decode cX1_fill 76 = .ok (.getfield 15, 3) := by decide +kernel
theorem dX1_fill_79 : decode cX1_fill 79 = .ok (.iload 7, 2) := by decide +kernel
theorem dX1_fill_81 : decode cX1_fill 81 = .ok (.iaload, 1) := by decide +kernel
theorem dX1_fill_82 : decode cX1_fill 82 = .ok (.iadd, 1) := by decide +kernel
theorem dX1_fill_83 : decode cX1_fill 83 = .ok (.istore 5, 2) := by decide +kernel
theorem dX1_fill_85 : decode cX1_fill 85 = .ok (.iinc 7 (-1), 3) := by decide +kernel
theorem dX1_fill_88 : decode cX1_fill 88 = .ok (.goto (-62), 3) := by decide +kernel
theorem dX1_fill_91 : decode cX1_fill 91 = .ok (.iload 6, 2) := by decide +kernel
theorem dX1_fill_93 : decode cX1_fill 93 = .ok (.ifCond .ne 8, 3) := by decide +kernel
theorem dX1_fill_96 : decode cX1_fill 96 = .ok (.iload 5, 2) := by decide +kernel
theorem dX1_fill_98 : decode cX1_fill 98 = .ok (.goto 5, 3) := by decide +kernel
theorem dX1_fill_101 : decode cX1_fill 101 = .ok (.bipush (-9), 2) := by decide +kernel
theorem dX1_fill_103 : decode cX1_fill 103 = .ok (.ireturn, 1) := by decide +kernel
theorem dX2_init_0 : decode cX2_init 0 = .ok (.aload_n 0, 1) := by decide +kernel
theorem dX2_init_1 : decode cX2_init 1 = .ok (.invokespecial 1, 3) := by decide +kernel
theorem dX2_init_4 : decode cX2_init 4 = .ok (.aload_n 0, 1) := by decide +kernel
theorem dX2_init_5 : decode cX2_init 5 = .ok (.iload_n 1, 1) := by decide +kernel
theorem dX2_init_6 : decode cX2_init 6 = .ok (.putfield 7, 3) := by decide +kernel
theorem dX2_init_9 : decode cX2_init 9 = .ok (.aload_n 0, 1) := by decide +kernel
theorem dX2_init_10 : decode cX2_init 10 = .ok (.iload_n 2, 1) := by decide +kernel
theorem dX2_init_11 : decode cX2_init 11 = .ok (.putfield 13, 3) := by decide +kernel
theorem dX2_init_14 : decode cX2_init 14 = .ok (.return_, 1) := by decide +kernel
theorem dX3_init_0 : decode cX3_init 0 = .ok (.aload_n 0, 1) := by decide +kernel
theorem dX3_init_1 : decode cX3_init 1 = .ok (.invokespecial 3, 3) := by decide +kernel
theorem dX3_init_4 : decode cX3_init 4 = .ok (.aload_n 0, 1) := by decide +kernel
theorem dX3_init_5 : decode cX3_init 5 = .ok (.bipush 6, 2) := by decide +kernel
theorem dX3_init_7 : decode cX3_init 7 = .ok (.newarray .int, 2) := by decide +kernel
theorem dX3_init_9 : decode cX3_init 9 = .ok (.putfield 9, 3) := by decide +kernel
theorem dX3_init_12 : decode cX3_init 12 = .ok (.return_, 1) := by decide +kernel
theorem dX3_worth_0 : decode cX3_worth 0 = .ok (.iconst 0, 1) := by decide +kernel
theorem dX3_worth_1 : decode cX3_worth 1 = .ok (.istore_n 1, 1) := by decide +kernel
theorem dX3_worth_2 : decode cX3_worth 2 = .ok (.iconst 0, 1) := by decide +kernel
theorem dX3_worth_3 : decode cX3_worth 3 = .ok (.istore_n 2, 1) := by decide +kernel
theorem dX3_worth_4 : decode cX3_worth 4 = .ok (.iload_n 2, 1) := by decide +kernel
theorem dX3_worth_5 : decode cX3_worth 5 = .ok (.bipush 6, 2) := by decide +kernel
theorem dX3_worth_7 : decode cX3_worth 7 = .ok (.if_icmp .ge 24, 3) := by decide +kernel
theorem dX3_worth_10 : decode cX3_worth 10 = .ok (.iload_n 1, 1) := by decide +kernel
theorem dX3_worth_11 : decode cX3_worth 11 = .ok (.aload_n 0, 1) := by decide +kernel
theorem dX3_worth_12 : decode cX3_worth 12 = .ok (.getfield 9, 3) := by decide +kernel
theorem dX3_worth_15 : decode cX3_worth 15 = .ok (.iload_n 2, 1) := by decide +kernel
theorem dX3_worth_16 : decode cX3_worth 16 = .ok (.iaload, 1) := by decide +kernel
theorem dX3_worth_17 : decode cX3_worth 17 = .ok (.getstatic 15, 3) := by decide +kernel
theorem dX3_worth_20 : decode cX3_worth 20 = .ok (.iload_n 2, 1) := by decide +kernel
theorem dX3_worth_21 : decode cX3_worth 21 = .ok (.iaload, 1) := by decide +kernel
theorem dX3_worth_22 : decode cX3_worth 22 = .ok (.imul, 1) := by decide +kernel
theorem dX3_worth_23 : decode cX3_worth 23 = .ok (.iadd, 1) := by decide +kernel
theorem dX3_worth_24 : decode cX3_worth 24 = .ok (.istore_n 1, 1) := by decide +kernel
theorem dX3_worth_25 : decode cX3_worth 25 = .ok (.iinc 2 1, 3) := by decide +kernel
theorem dX3_worth_28 : decode cX3_worth 28 = .ok (.goto (-24), 3) := by decide +kernel
theorem dX3_worth_31 : decode cX3_worth 31 = .ok (.iload_n 1, 1) := by decide +kernel
theorem dX3_worth_32 : decode cX3_worth 32 = .ok (.ireturn, 1) := by decide +kernel
theorem dX3_told_0 : decode cX3_told 0 = .ok (.iload_n 1, 1) := by decide +kernel
theorem dX3_told_1 : decode cX3_told 1 = .ok (.bipush 6, 2) := by decide +kernel
theorem dX3_told_3 : decode cX3_told 3 = .ok (.if_icmp .ne 8, 3) := by decide +kernel
theorem dX3_told_6 : decode cX3_told 6 = .ok (.aload_n 0, 1) := by decide +kernel
theorem dX3_told_7 : decode cX3_told 7 = .ok (.invokevirtual 18, 3) := by decide +kernel
theorem dX3_told_10 : decode cX3_told 10 = .ok (.ireturn, 1) := by decide +kernel
theorem dX3_told_11 : decode cX3_told 11 = .ok (.iload_n 1, 1) := by decide +kernel
theorem dX3_told_12 : decode cX3_told 12 = .ok (.ifCond .lt 9, 3) := by decide +kernel
theorem dX3_told_15 : decode cX3_told 15 = .ok (.iload_n 1, 1) := by decide +kernel
theorem dX3_told_16 : decode cX3_told 16 = .ok (.bipush 6, 2) := by decide +kernel
theorem dX3_told_18 : decode cX3_told 18 = .ok (.if_icmp .le 8, 3) := by decide +kernel
theorem dX3_told_21 : decode cX3_told 21 = .ok (.bipush (-2), 2) := by decide +kernel
theorem dX3_told_23 : decode cX3_told 23 = .ok (.goto 9, 3) := by decide +kernel
theorem dX3_told_26 : decode cX3_told 26 = .ok (.aload_n 0, 1) := by decide +kernel
theorem dX3_told_27 : decode cX3_told 27 = .ok (.getfield 9, 3) := by decide +kernel
theorem dX3_told_30 : decode cX3_told 30 = .ok (.iload_n 1, 1) := by decide +kernel
theorem dX3_told_31 : decode cX3_told 31 = .ok (.iaload, 1) := by decide +kernel
theorem dX3_told_32 : decode cX3_told 32 = .ok (.ireturn, 1) := by decide +kernel
theorem dX3_put_0 : decode cX3_put 0 = .ok (.iconst 0, 1) := by decide +kernel
theorem dX3_put_1 : decode cX3_put 1 = .ok (.istore_n 2, 1) := by decide +kernel
theorem dX3_put_2 : decode cX3_put 2 = .ok (.iload_n 2, 1) := by decide +kernel
theorem dX3_put_3 : decode cX3_put 3 = .ok (.bipush 6, 2) := by decide +kernel
theorem dX3_put_5 : decode cX3_put 5 = .ok (.if_icmp .ge 21, 3) := by decide +kernel
theorem dX3_put_8 : decode cX3_put 8 = .ok (.aload_n 0, 1) := by decide +kernel
theorem dX3_put_9 : decode cX3_put 9 = .ok (.getfield 9, 3) := by decide +kernel
theorem dX3_put_12 : decode cX3_put 12 = .ok (.iload_n 2, 1) := by decide +kernel
theorem dX3_put_13 : decode cX3_put 13 = .ok (.dup2, 1) := by decide +kernel
theorem dX3_put_14 : decode cX3_put 14 = .ok (.iaload, 1) := by decide +kernel
theorem dX3_put_15 : decode cX3_put 15 = .ok (.aload_n 1, 1) := by decide +kernel
theorem dX3_put_16 : decode cX3_put 16 = .ok (.iload_n 2, 1) := by decide +kernel
theorem dX3_put_17 : decode cX3_put 17 = .ok (.iaload, 1) := by decide +kernel
theorem dX3_put_18 : decode cX3_put 18 = .ok (.iadd, 1) := by decide +kernel
theorem dX3_put_19 : decode cX3_put 19 = .ok (.iastore, 1) := by decide +kernel
theorem dX3_put_20 : decode cX3_put 20 = .ok (.iinc 2 1, 3) := by decide +kernel
theorem dX3_put_23 : decode cX3_put 23 = .ok (.goto (-21), 3) := by decide +kernel
theorem dX3_put_26 : decode cX3_put 26 = .ok (.return_, 1) := by decide +kernel
theorem dX3_take_0 : decode cX3_take 0 = .ok (.iconst 0, 1) := by decide +kernel
theorem dX3_take_1 : decode cX3_take 1 = .ok (.istore_n 2, 1) := by decide +kernel
theorem dX3_take_2 : decode cX3_take 2 = .ok (.iload_n 2, 1) := by decide +kernel
theorem dX3_take_3 : decode cX3_take 3 = .ok (.bipush 6, 2) := by decide +kernel
theorem dX3_take_5 : decode cX3_take 5 = .ok (.if_icmp .ge 21, 3) := by decide +kernel
theorem dX3_take_8 : decode cX3_take 8 = .ok (.aload_n 0, 1) := by decide +kernel
theorem dX3_take_9 : decode cX3_take 9 = .ok (.getfield 9, 3) := by decide +kernel
theorem dX3_take_12 : decode cX3_take 12 = .ok (.iload_n 2, 1) := by decide +kernel
theorem dX3_take_13 : decode cX3_take 13 = .ok (.dup2, 1) := by decide +kernel
theorem dX3_take_14 : decode cX3_take 14 = .ok (.iaload, 1) := by decide +kernel
theorem dX3_take_15 : decode cX3_take 15 = .ok (.aload_n 1, 1) := by decide +kernel
theorem dX3_take_16 : decode cX3_take 16 = .ok (.iload_n 2, 1) := by decide +kernel
theorem dX3_take_17 : decode cX3_take 17 = .ok (.iaload, 1) := by decide +kernel
theorem dX3_take_18 : decode cX3_take 18 = .ok (.isub, 1) := by decide +kernel
theorem dX3_take_19 : decode cX3_take 19 = .ok (.iastore, 1) := by decide +kernel
theorem dX3_take_20 : decode cX3_take 20 = .ok (.iinc 2 1, 3) := by decide +kernel
theorem dX3_take_23 : decode cX3_take 23 = .ok (.goto (-21), 3) := by decide +kernel
theorem dX3_take_26 : decode cX3_take 26 = .ok (.return_, 1) := by decide +kernel
theorem dX3_empty_0 : decode cX3_empty 0 = .ok (.iconst 0, 1) := by decide +kernel
theorem dX3_empty_1 : decode cX3_empty 1 = .ok (.istore_n 1, 1) := by decide +kernel
theorem dX3_empty_2 : decode cX3_empty 2 = .ok (.iload_n 1, 1) := by decide +kernel
theorem dX3_empty_3 : decode cX3_empty 3 = .ok (.bipush 6, 2) := by decide +kernel
theorem dX3_empty_5 : decode cX3_empty 5 = .ok (.if_icmp .ge 16, 3) := by decide +kernel
theorem dX3_empty_8 : decode cX3_empty 8 = .ok (.aload_n 0, 1) := by decide +kernel
theorem dX3_empty_9 : decode cX3_empty 9 = .ok (.getfield 9, 3) := by decide +kernel
theorem dX3_empty_12 : decode cX3_empty 12 = .ok (.iload_n 1, 1) := by decide +kernel
theorem dX3_empty_13 : decode cX3_empty 13 = .ok (.iconst 0, 1) := by decide +kernel
theorem dX3_empty_14 : decode cX3_empty 14 = .ok (.iastore, 1) := by decide +kernel
theorem dX3_empty_15 : decode cX3_empty 15 = .ok (.iinc 1 1, 3) := by decide +kernel
theorem dX3_empty_18 : decode cX3_empty 18 = .ok (.goto (-16), 3) := by decide +kernel
theorem dX3_empty_21 : decode cX3_empty 21 = .ok (.return_, 1) := by decide +kernel
theorem dX4_init_0 : decode cX4_init 0 = .ok (.aload_n 0, 1) := by decide +kernel
theorem dX4_init_1 : decode cX4_init 1 = .ok (.invokespecial 3, 3) := by decide +kernel
theorem dX4_init_4 : decode cX4_init 4 = .ok (.aload_n 0, 1) := by decide +kernel
theorem dX4_init_5 : decode cX4_init 5 = .ok (.new 9, 3) := by decide +kernel
theorem dX4_init_8 : decode cX4_init 8 = .ok (.dup, 1) := by decide +kernel
theorem dX4_init_9 : decode cX4_init 9 = .ok (.invokespecial 11, 3) := by decide +kernel
theorem dX4_init_12 : decode cX4_init 12 = .ok (.putfield 12, 3) := by decide +kernel
theorem dX4_init_15 : decode cX4_init 15 = .ok (.aload_n 0, 1) := by decide +kernel
theorem dX4_init_16 : decode cX4_init 16 = .ok (.iconst 0, 1) := by decide +kernel
theorem dX4_init_17 : decode cX4_init 17 = .ok (.putfield 18, 3) := by decide +kernel
theorem dX4_init_20 : decode cX4_init 20 = .ok (.aload_n 0, 1) := by decide +kernel
theorem dX4_init_21 : decode cX4_init 21 = .ok (.iconst 0, 1) := by decide +kernel
theorem dX4_init_22 : decode cX4_init 22 = .ok (.putfield 22, 3) := by decide +kernel
theorem dX4_init_25 : decode cX4_init 25 = .ok (.aload_n 0, 1) := by decide +kernel
theorem dX4_init_26 : decode cX4_init 26 = .ok (.iload_n 1, 1) := by decide +kernel
theorem dX4_init_27 : decode cX4_init 27 = .ok (.putfield 25, 3) := by decide +kernel
theorem dX4_init_30 : decode cX4_init 30 = .ok (.aload_n 0, 1) := by decide +kernel
theorem dX4_init_31 : decode cX4_init 31 = .ok (.aload_n 2, 1) := by decide +kernel
theorem dX4_init_32 : decode cX4_init 32 = .ok (.putfield 28, 3) := by decide +kernel
theorem dX4_init_35 : decode cX4_init 35 = .ok (.aload_n 0, 1) := by decide +kernel
theorem dX4_init_36 : decode cX4_init 36 = .ok (.aload_n 2, 1) := by decide +kernel
theorem dX4_init_37 : decode cX4_init 37 = .ok (.putfield 32, 3) := by decide +kernel
theorem dX4_init_40 : decode cX4_init 40 = .ok (.return_, 1) := by decide +kernel
theorem dX4_leaveFor_0 : decode cX4_leaveFor 0 = .ok (.aload_n 0, 1) := by decide +kernel
theorem dX4_leaveFor_1 : decode cX4_leaveFor 1 = .ok (.iload_n 1, 1) := by decide +kernel
theorem dX4_leaveFor_2 : decode cX4_leaveFor 2 = .ok (.putfield 18, 3) := by decide +kernel
theorem dX4_leaveFor_5 : decode cX4_leaveFor 5 = .ok (.aload_n 0, 1) := by decide +kernel
theorem dX4_leaveFor_6 : decode cX4_leaveFor 6 = .ok (.aconst_null, 1) := by decide +kernel
theorem dX4_leaveFor_7 : decode cX4_leaveFor 7 = .ok (.putfield 32, 3) := by decide +kernel
theorem dX4_leaveFor_10 : decode cX4_leaveFor 10 = .ok (.aload_n 0, 1) := by decide +kernel
theorem dX4_leaveFor_11 : decode cX4_leaveFor 11 = .ok (.aconst_null, 1) := by decide +kernel
theorem dX4_leaveFor_12 : decode cX4_leaveFor 12 = .ok (.putfield 35, 3) := by decide +kernel
theorem dX4_leaveFor_15 : decode cX4_leaveFor 15 = .ok (.aload_n 0, 1) := by decide +kernel
theorem dX4_leaveFor_16 : decode cX4_leaveFor 16 = .ok (.aconst_null, 1) := by decide +kernel
theorem dX4_leaveFor_17 : decode cX4_leaveFor 17 = .ok (.putfield 38, 3) := by decide +kernel
theorem dX4_leaveFor_20 : decode cX4_leaveFor 20 = .ok (.aload_n 0, 1) := by decide +kernel
theorem dX4_leaveFor_21 : decode cX4_leaveFor 21 = .ok (.aconst_null, 1) := by decide +kernel
theorem dX4_leaveFor_22 : decode cX4_leaveFor 22 = .ok (.putfield 41, 3) := by decide +kernel
theorem dX4_leaveFor_25 : decode cX4_leaveFor 25 = .ok (.return_, 1) := by decide +kernel
theorem dX4_waitToGoUp_0 : decode cX4_waitToGoUp 0 = .ok (.aload_n 0, 1) := by decide +kernel
theorem dX4_waitToGoUp_1 : decode cX4_waitToGoUp 1 = .ok (.iconst 1, 1) := by decide +kernel
theorem dX4_waitToGoUp_2 : decode cX4_waitToGoUp 2 = .ok (.invokevirtual 45, 3) := by decide +kernel
theorem dX4_waitToGoUp_5 : decode cX4_waitToGoUp 5 = .ok (.aload_n 0, 1) := by decide +kernel
theorem dX4_waitToGoUp_6 : decode cX4_waitToGoUp 6 = .ok (.aload_n 1, 1) := by decide +kernel
theorem dX4_waitToGoUp_7 : decode cX4_waitToGoUp 7 = .ok (.putfield 32, 3) := by decide +kernel
theorem dX4_waitToGoUp_10 : decode cX4_waitToGoUp 10 = .ok (.aload_n 0, 1) := by decide +kernel
theorem dX4_waitToGoUp_11 : decode cX4_waitToGoUp 11 = .ok (.iconst 1, 1) := by decide +kernel
theorem dX4_waitToGoUp_12 : decode cX4_waitToGoUp 12 = .ok (.putfield 49, 3) := by decide +kernel
theorem dX4_waitToGoUp_15 : decode cX4_waitToGoUp 15 = .ok (.aload_n 0, 1) := by decide +kernel
theorem dX4_waitToGoUp_16 : decode cX4_waitToGoUp 16 = .ok (.iload_n 2, 1) := by decide +kernel
theorem dX4_waitToGoUp_17 : decode cX4_waitToGoUp 17 = .ok (.putfield 53, 3) := by decide +kernel
theorem dX4_waitToGoUp_20 : decode cX4_waitToGoUp 20 = .ok (.return_, 1) := by decide +kernel
theorem dX4_waitToGoDown_0 : decode cX4_waitToGoDown 0 = .ok (.aload_n 0, 1) := by decide +kernel
theorem dX4_waitToGoDown_1 : decode cX4_waitToGoDown 1 = .ok (.iconst 1, 1) := by decide +kernel
theorem dX4_waitToGoDown_2 : decode cX4_waitToGoDown 2 = .ok (.invokevirtual 45, 3) := by decide +kernel
theorem dX4_waitToGoDown_5 : decode cX4_waitToGoDown 5 = .ok (.aload_n 0, 1) := by decide +kernel
theorem dX4_waitToGoDown_6 : decode cX4_waitToGoDown 6 = .ok (.aload_n 1, 1) := by decide +kernel
theorem dX4_waitToGoDown_7 : decode cX4_waitToGoDown 7 = .ok (.putfield 32, 3) := by decide +kernel
theorem dX4_waitToGoDown_10 : decode cX4_waitToGoDown 10 = .ok (.aload_n 0, 1) := by decide +kernel
theorem dX4_waitToGoDown_11 : decode cX4_waitToGoDown 11 = .ok (.iconst 0, 1) := by decide +kernel
theorem dX4_waitToGoDown_12 : decode cX4_waitToGoDown 12 = .ok (.putfield 49, 3) := by decide +kernel
theorem dX4_waitToGoDown_15 : decode cX4_waitToGoDown 15 = .ok (.aload_n 0, 1) := by decide +kernel
theorem dX4_waitToGoDown_16 : decode cX4_waitToGoDown 16 = .ok (.aload_n 2, 1) := by decide +kernel
theorem dX4_waitToGoDown_17 : decode cX4_waitToGoDown 17 = .ok (.putfield 38, 3) := by decide +kernel
theorem dX4_waitToGoDown_20 : decode cX4_waitToGoDown 20 = .ok (.aload_n 0, 1) := by decide +kernel
theorem dX4_waitToGoDown_21 : decode cX4_waitToGoDown 21 = .ok (.iload_n 3, 1) := by decide +kernel
theorem dX4_waitToGoDown_22 : decode cX4_waitToGoDown 22 = .ok (.putfield 53, 3) := by decide +kernel
theorem dX4_waitToGoDown_25 : decode cX4_waitToGoDown 25 = .ok (.return_, 1) := by decide +kernel
theorem dX4_goOn_0 : decode cX4_goOn 0 = .ok (.aload_n 0, 1) := by decide +kernel
theorem dX4_goOn_1 : decode cX4_goOn 1 = .ok (.iconst 2, 1) := by decide +kernel
theorem dX4_goOn_2 : decode cX4_goOn 2 = .ok (.invokevirtual 45, 3) := by decide +kernel
theorem dX4_goOn_5 : decode cX4_goOn 5 = .ok (.aload_n 0, 1) := by decide +kernel
theorem dX4_goOn_6 : decode cX4_goOn 6 = .ok (.aload_n 1, 1) := by decide +kernel
theorem dX4_goOn_7 : decode cX4_goOn 7 = .ok (.putfield 32, 3) := by decide +kernel
theorem dX4_goOn_10 : decode cX4_goOn 10 = .ok (.aload_n 0, 1) := by decide +kernel
theorem dX4_goOn_11 : decode cX4_goOn 11 = .ok (.iload_n 2, 1) := by decide +kernel
theorem dX4_goOn_12 : decode cX4_goOn 12 = .ok (.putfield 49, 3) := by decide +kernel
theorem dX4_goOn_15 : decode cX4_goOn 15 = .ok (.aload_n 0, 1) := by decide +kernel
theorem dX4_goOn_16 : decode cX4_goOn 16 = .ok (.iconst 0, 1) := by decide +kernel
theorem dX4_goOn_17 : decode cX4_goOn 17 = .ok (.putfield 56, 3) := by decide +kernel
theorem dX4_goOn_20 : decode cX4_goOn 20 = .ok (.return_, 1) := by decide +kernel
theorem dX4_sentTick_0 : decode cX4_sentTick 0 = .ok (.aload_n 0, 1) := by decide +kernel
theorem dX4_sentTick_1 : decode cX4_sentTick 1 = .ok (.getfield 22, 3) := by decide +kernel
theorem dX4_sentTick_4 : decode cX4_sentTick 4 = .ok (.ifCond .ne 7, 3) := by decide +kernel
theorem dX4_sentTick_7 : decode cX4_sentTick 7 = .ok (.iconst 0, 1) := by decide +kernel
theorem dX4_sentTick_8 : decode cX4_sentTick 8 = .ok (.goto 7, 3) := by decide +kernel
theorem dX4_sentTick_11 : decode cX4_sentTick 11 = .ok (.aload_n 0, 1) := by decide +kernel
theorem dX4_sentTick_12 : decode cX4_sentTick 12 = .ok (.getfield 59, 3) := by decide +kernel
theorem dX4_sentTick_15 : decode cX4_sentTick 15 = .ok (.ireturn, 1) := by decide +kernel
theorem dX4_holder_0 : decode cX4_holder 0 = .ok (.aload_n 0, 1) := by decide +kernel
theorem dX4_holder_1 : decode cX4_holder 1 = .ok (.getfield 41, 3) := by decide +kernel
theorem dX4_holder_4 : decode cX4_holder 4 = .ok (.ifnull 11, 3) := by decide +kernel
theorem dX4_holder_7 : decode cX4_holder 7 = .ok (.aload_n 0, 1) := by decide +kernel
theorem dX4_holder_8 : decode cX4_holder 8 = .ok (.getfield 41, 3) := by decide +kernel
theorem dX4_holder_11 : decode cX4_holder 11 = .ok (.getfield 62, 3) := by decide +kernel
theorem dX4_holder_14 : decode cX4_holder 14 = .ok (.ireturn, 1) := by decide +kernel
theorem dX4_holder_15 : decode cX4_holder 15 = .ok (.aload_n 0, 1) := by decide +kernel
theorem dX4_holder_16 : decode cX4_holder 16 = .ok (.getfield 32, 3) := by decide +kernel
theorem dX4_holder_19 : decode cX4_holder 19 = .ok (.ifnonnull 8, 3) := by decide +kernel
theorem dX4_holder_22 : decode cX4_holder 22 = .ok (.bipush (-9), 2) := by decide +kernel
theorem dX4_holder_24 : decode cX4_holder 24 = .ok (.goto 10, 3) := by decide +kernel
theorem dX4_holder_27 : decode cX4_holder 27 = .ok (.aload_n 0, 1) := by decide +kernel
theorem dX4_holder_28 : decode cX4_holder 28 = .ok (.getfield 32, 3) := by decide +kernel
theorem dX4_holder_31 : decode cX4_holder 31 = .ok (.getfield 65, 3) := by decide +kernel
theorem dX4_holder_34 : decode cX4_holder 34 = .ok (.ireturn, 1) := by decide +kernel
theorem dX4_measure_0 : decode cX4_measure 0 = .ok (.aload_n 0, 1) := by decide +kernel
theorem dX4_measure_1 : decode cX4_measure 1 = .ok (.getfield 18, 3) := by decide +kernel
theorem dX4_measure_4 : decode cX4_measure 4 = .ok (.tableswitch 75 1 6 #[40, 45, 40, 50, 75, 70], 40) := by decide +kernel
theorem dX4_measure_44 : decode cX4_measure 44 = .ok (.aload_n 0, 1) := by decide +kernel
theorem dX4_measure_45 : decode cX4_measure 45 = .ok (.getfield 53, 3) := by decide +kernel
theorem dX4_measure_48 : decode cX4_measure 48 = .ok (.ireturn, 1) := by decide +kernel
theorem dX4_measure_49 : decode cX4_measure 49 = .ok (.aload_n 0, 1) := by decide +kernel
theorem dX4_measure_50 : decode cX4_measure 50 = .ok (.getfield 56, 3) := by decide +kernel
theorem dX4_measure_53 : decode cX4_measure 53 = .ok (.ireturn, 1) := by decide +kernel
theorem dX4_measure_54 : decode cX4_measure 54 = .ok (.aload_n 0, 1) := by decide +kernel
theorem dX4_measure_55 : decode cX4_measure 55 = .ok (.getfield 41, 3) := by decide +kernel
theorem dX4_measure_58 : decode cX4_measure 58 = .ok (.ifnonnull 8, 3) := by decide +kernel
theorem dX4_measure_61 : decode cX4_measure 61 = .ok (.bipush (-9), 2) := by decide +kernel
theorem dX4_measure_63 : decode cX4_measure 63 = .ok (.goto 10, 3) := by decide +kernel
theorem dX4_measure_66 : decode cX4_measure 66 = .ok (.aload_n 0, 1) := by decide +kernel
theorem dX4_measure_67 : decode cX4_measure 67 = .ok (.getfield 41, 3) := by decide +kernel
theorem dX4_measure_70 : decode cX4_measure 70 = .ok (.getfield 68, 3) := by decide +kernel
theorem dX4_measure_73 : decode cX4_measure 73 = .ok (.ireturn, 1) := by decide +kernel
theorem dX4_measure_74 : decode cX4_measure 74 = .ok (.aload_n 0, 1) := by decide +kernel
theorem dX4_measure_75 : decode cX4_measure 75 = .ok (.getfield 71, 3) := by decide +kernel
theorem dX4_measure_78 : decode cX4_measure 78 = .ok (.ireturn, 1) := by decide +kernel
theorem dX4_measure_79 : decode cX4_measure 79 = .ok (.bipush (-9), 2) := by decide +kernel
theorem dX4_measure_81 : decode cX4_measure 81 = .ok (.ireturn, 1) := by decide +kernel
theorem dX4_isAhead_0 : decode cX4_isAhead 0 = .ok (.iload_n 2, 1) := by decide +kernel
theorem dX4_isAhead_1 : decode cX4_isAhead 1 = .ok (.tableswitch 98 0 2 #[27, 42, 57], 27) := by decide +kernel
theorem dX4_isAhead_28 : decode cX4_isAhead 28 = .ok (.aload_n 0, 1) := by decide +kernel
theorem dX4_isAhead_29 : decode cX4_isAhead 29 = .ok (.getfield 53, 3) := by decide +kernel
theorem dX4_isAhead_32 : decode cX4_isAhead 32 = .ok (.aload_n 1, 1) := by decide +kernel
theorem dX4_isAhead_33 : decode cX4_isAhead 33 = .ok (.getfield 53, 3) := by decide +kernel
theorem dX4_isAhead_36 : decode cX4_isAhead 36 = .ok (.invokestatic 74, 3) := by decide +kernel
theorem dX4_isAhead_39 : decode cX4_isAhead 39 = .ok (.istore_n 3, 1) := by decide +kernel
theorem dX4_isAhead_40 : decode cX4_isAhead 40 = .ok (.goto 61, 3) := by decide +kernel
theorem dX4_isAhead_43 : decode cX4_isAhead 43 = .ok (.aload_n 0, 1) := by decide +kernel
theorem dX4_isAhead_44 : decode cX4_isAhead 44 = .ok (.invokevirtual 80, 3) := by decide +kernel
theorem dX4_isAhead_47 : decode cX4_isAhead 47 = .ok (.aload_n 1, 1) := by decide +kernel
theorem dX4_isAhead_48 : decode cX4_isAhead 48 = .ok (.invokevirtual 80, 3) := by decide +kernel
theorem dX4_isAhead_51 : decode cX4_isAhead 51 = .ok (.invokestatic 74, 3) := by decide +kernel
theorem dX4_isAhead_54 : decode cX4_isAhead 54 = .ok (.istore_n 3, 1) := by decide +kernel
theorem dX4_isAhead_55 : decode cX4_isAhead 55 = .ok (.goto 46, 3) := by decide +kernel
theorem dX4_isAhead_58 : decode cX4_isAhead 58 = .ok (.aload_n 0, 1) := by decide +kernel
theorem dX4_isAhead_59 : decode cX4_isAhead 59 = .ok (.getfield 28, 3) := by decide +kernel
theorem dX4_isAhead_62 : decode cX4_isAhead 62 = .ok (.getfield 65, 3) := by decide +kernel
theorem dX4_isAhead_65 : decode cX4_isAhead 65 = .ok (.aload_n 1, 1) := by decide +kernel
theorem dX4_isAhead_66 : decode cX4_isAhead 66 = .ok (.getfield 28, 3) := by decide +kernel
theorem dX4_isAhead_69 : decode cX4_isAhead 69 = .ok (.getfield 65, 3) := by decide +kernel
theorem dX4_isAhead_72 : decode cX4_isAhead 72 = .ok (.invokestatic 74, 3) := by decide +kernel
theorem dX4_isAhead_75 : decode cX4_isAhead 75 = .ok (.istore_n 3, 1) := by decide +kernel
theorem dX4_isAhead_76 : decode cX4_isAhead 76 = .ok (.iload_n 3, 1) := by decide +kernel
theorem dX4_isAhead_77 : decode cX4_isAhead 77 = .ok (.ifCond .ne 17, 3) := by decide +kernel
theorem dX4_isAhead_80 : decode cX4_isAhead 80 = .ok (.aload_n 0, 1) := by decide +kernel
theorem dX4_isAhead_81 : decode cX4_isAhead 81 = .ok (.getfield 53, 3) := by decide +kernel
theorem dX4_isAhead_84 : decode cX4_isAhead 84 = .ok (.aload_n 1, 1) := by decide +kernel
theorem dX4_isAhead_85 : decode cX4_isAhead 85 = .ok (.getfield 53, 3) := by decide +kernel
theorem dX4_isAhead_88 : decode cX4_isAhead 88 = .ok (.invokestatic 74, 3) := by decide +kernel
theorem dX4_isAhead_91 : decode cX4_isAhead 91 = .ok (.goto 4, 3) := by decide +kernel
theorem dX4_isAhead_94 : decode cX4_isAhead 94 = .ok (.iload_n 3, 1) := by decide +kernel
theorem dX4_isAhead_95 : decode cX4_isAhead 95 = .ok (.istore_n 3, 1) := by decide +kernel
theorem dX4_isAhead_96 : decode cX4_isAhead 96 = .ok (.goto 5, 3) := by decide +kernel
theorem dX4_isAhead_99 : decode cX4_isAhead 99 = .ok (.iconst 0, 1) := by decide +kernel
theorem dX4_isAhead_100 : decode cX4_isAhead 100 = .ok (.istore_n 3, 1) := by decide +kernel
theorem dX4_isAhead_101 : decode cX4_isAhead 101 = .ok (.iload_n 3, 1) := by decide +kernel
theorem dX4_isAhead_102 : decode cX4_isAhead 102 = .ok (.ifCond .ne 22, 3) := by decide +kernel
theorem dX4_isAhead_105 : decode cX4_isAhead 105 = .ok (.aload_n 0, 1) := by decide +kernel
theorem dX4_isAhead_106 : decode cX4_isAhead 106 = .ok (.getfield 25, 3) := by decide +kernel
theorem dX4_isAhead_109 : decode cX4_isAhead 109 = .ok (.aload_n 1, 1) := by decide +kernel
theorem dX4_isAhead_110 : decode cX4_isAhead 110 = .ok (.getfield 25, 3) := by decide +kernel
theorem dX4_isAhead_113 : decode cX4_isAhead 113 = .ok (.if_icmp .ge 7, 3) := by decide +kernel
theorem dX4_isAhead_116 : decode cX4_isAhead 116 = .ok (.iconst 1, 1) := by decide +kernel
theorem dX4_isAhead_117 : decode cX4_isAhead 117 = .ok (.goto 16, 3) := by decide +kernel
theorem dX4_isAhead_120 : decode cX4_isAhead 120 = .ok (.iconst 0, 1) := by decide +kernel
theorem dX4_isAhead_121 : decode cX4_isAhead 121 = .ok (.goto 12, 3) := by decide +kernel
theorem dX4_isAhead_124 : decode cX4_isAhead 124 = .ok (.iload_n 3, 1) := by decide +kernel
theorem dX4_isAhead_125 : decode cX4_isAhead 125 = .ok (.ifCond .ge 7, 3) := by decide +kernel
theorem dX4_isAhead_128 : decode cX4_isAhead 128 = .ok (.iconst 1, 1) := by decide +kernel
theorem dX4_isAhead_129 : decode cX4_isAhead 129 = .ok (.goto 4, 3) := by decide +kernel
theorem dX4_isAhead_132 : decode cX4_isAhead 132 = .ok (.iconst 0, 1) := by decide +kernel
theorem dX4_isAhead_133 : decode cX4_isAhead 133 = .ok (.ireturn, 1) := by decide +kernel
theorem dX5_init_0 : decode cX5_init 0 = .ok (.aload_n 0, 1) := by decide +kernel
theorem dX5_init_1 : decode cX5_init 1 = .ok (.invokespecial 3, 3) := by decide +kernel
theorem dX5_init_4 : decode cX5_init 4 = .ok (.aload_n 0, 1) := by decide +kernel
theorem dX5_init_5 : decode cX5_init 5 = .ok (.bipush 20, 2) := by decide +kernel
theorem dX5_init_7 : decode cX5_init 7 = .ok (.newarray .int, 2) := by decide +kernel
theorem dX5_init_9 : decode cX5_init 9 = .ok (.putfield 9, 3) := by decide +kernel
theorem dX5_init_12 : decode cX5_init 12 = .ok (.aload_n 0, 1) := by decide +kernel
theorem dX5_init_13 : decode cX5_init 13 = .ok (.bipush 20, 2) := by decide +kernel
theorem dX5_init_15 : decode cX5_init 15 = .ok (.newarray .int, 2) := by decide +kernel
theorem dX5_init_17 : decode cX5_init 17 = .ok (.putfield 15, 3) := by decide +kernel
theorem dX5_init_20 : decode cX5_init 20 = .ok (.aload_n 0, 1) := by decide +kernel
theorem dX5_init_21 : decode cX5_init 21 = .ok (.bipush 20, 2) := by decide +kernel
theorem dX5_init_23 : decode cX5_init 23 = .ok (.newarray .int, 2) := by decide +kernel
theorem dX5_init_25 : decode cX5_init 25 = .ok (.putfield 18, 3) := by decide +kernel
theorem dX5_init_28 : decode cX5_init 28 = .ok (.return_, 1) := by decide +kernel
theorem dX5_add_0 : decode cX5_add 0 = .ok (.aload_n 0, 1) := by decide +kernel
theorem dX5_add_1 : decode cX5_add 1 = .ok (.getfield 21, 3) := by decide +kernel
theorem dX5_add_4 : decode cX5_add 4 = .ok (.bipush 20, 2) := by decide +kernel
theorem dX5_add_6 : decode cX5_add 6 = .ok (.if_icmp .ge 43, 3) := by decide +kernel
theorem dX5_add_9 : decode cX5_add 9 = .ok (.aload_n 0, 1) := by decide +kernel
theorem dX5_add_10 : decode cX5_add 10 = .ok (.getfield 9, 3) := by decide +kernel
theorem dX5_add_13 : decode cX5_add 13 = .ok (.aload_n 0, 1) := by decide +kernel
theorem dX5_add_14 : decode cX5_add 14 = .ok (.getfield 21, 3) := by decide +kernel
theorem dX5_add_17 : decode cX5_add 17 = .ok (.iload_n 1, 1) := by decide +kernel
theorem dX5_add_18 : decode cX5_add 18 = .ok (.iastore, 1) := by decide +kernel
theorem dX5_add_19 : decode cX5_add 19 = .ok (.aload_n 0, 1) := by decide +kernel
theorem dX5_add_20 : decode cX5_add 20 = .ok (.getfield 15, 3) := by decide +kernel
theorem dX5_add_23 : decode cX5_add 23 = .ok (.aload_n 0, 1) := by decide +kernel
theorem dX5_add_24 : decode cX5_add 24 = .ok (.getfield 21, 3) := by decide +kernel
theorem dX5_add_27 : decode cX5_add 27 = .ok (.iload_n 2, 1) := by decide +kernel
theorem dX5_add_28 : decode cX5_add 28 = .ok (.iastore, 1) := by decide +kernel
theorem dX5_add_29 : decode cX5_add 29 = .ok (.aload_n 0, 1) := by decide +kernel
theorem dX5_add_30 : decode cX5_add 30 = .ok (.getfield 18, 3) := by decide +kernel
theorem dX5_add_33 : decode cX5_add 33 = .ok (.aload_n 0, 1) := by decide +kernel
theorem dX5_add_34 : decode cX5_add 34 = .ok (.getfield 21, 3) := by decide +kernel
theorem dX5_add_37 : decode cX5_add 37 = .ok (.iload_n 3, 1) := by decide +kernel
theorem dX5_add_38 : decode cX5_add 38 = .ok (.iastore, 1) := by decide +kernel
theorem dX5_add_39 : decode cX5_add 39 = .ok (.aload_n 0, 1) := by decide +kernel
theorem dX5_add_40 : decode cX5_add 40 = .ok (.dup, 1) := by decide +kernel
theorem dX5_add_41 : decode cX5_add 41 = .ok (.getfield 21, 3) := by decide +kernel
theorem dX5_add_44 : decode cX5_add 44 = .ok (.iconst 1, 1) := by decide +kernel
theorem dX5_add_45 : decode cX5_add 45 = .ok (.iadd, 1) := by decide +kernel
theorem dX5_add_46 : decode cX5_add 46 = .ok (.putfield 21, 3) := by decide +kernel
theorem dX5_add_49 : decode cX5_add 49 = .ok (.return_, 1) := by decide +kernel
theorem dX5_bring_0 : decode cX5_bring 0 = .ok (.iconst 0, 1) := by decide +kernel
theorem dX5_bring_1 : decode cX5_bring 1 = .ok (.istore_n 3, 1) := by decide +kernel
theorem dX5_bring_2 : decode cX5_bring 2 = .ok (.iconst 0, 1) := by decide +kernel
theorem dX5_bring_3 : decode cX5_bring 3 = .ok (.istore 4, 2) := by decide +kernel
theorem dX5_bring_5 : decode cX5_bring 5 = .ok (.iload 4, 2) := by decide +kernel
theorem dX5_bring_7 : decode cX5_bring 7 = .ok (.aload_n 0, 1) := by decide +kernel
theorem dX5_bring_8 : decode cX5_bring 8 = .ok (.getfield 21, 3) := by decide +kernel
theorem dX5_bring_11 : decode cX5_bring 11 = .ok (.if_icmp .ge 87, 3) := by decide +kernel
theorem dX5_bring_14 : decode cX5_bring 14 = .ok (.aload_n 0, 1) := by decide +kernel
theorem dX5_bring_15 : decode cX5_bring 15 = .ok (.getfield 18, 3) := by decide +kernel
theorem dX5_bring_18 : decode cX5_bring 18 = .ok (.iload 4, 2) := by decide +kernel
theorem dX5_bring_20 : decode cX5_bring 20 = .ok (.iaload, 1) := by decide +kernel
theorem dX5_bring_21 : decode cX5_bring 21 = .ok (.iload_n 1, 1) := by decide +kernel
theorem dX5_bring_22 : decode cX5_bring 22 = .ok (.if_icmp .ne 28, 3) := by decide +kernel
theorem dX5_bring_25 : decode cX5_bring 25 = .ok (.aload_n 2, 1) := by decide +kernel
theorem dX5_bring_26 : decode cX5_bring 26 = .ok (.getfield 25, 3) := by decide +kernel
theorem dX5_bring_29 : decode cX5_bring 29 = .ok (.aload_n 0, 1) := by decide +kernel
theorem dX5_bring_30 : decode cX5_bring 30 = .ok (.getfield 9, 3) := by decide +kernel
theorem dX5_bring_33 : decode cX5_bring 33 = .ok (.iload 4, 2) := by decide +kernel
theorem dX5_bring_35 : decode cX5_bring 35 = .ok (.iaload, 1) := by decide +kernel
theorem dX5_bring_36 : decode cX5_bring 36 = .ok (.dup2, 1) := by decide +kernel
theorem dX5_bring_37 : decode cX5_bring 37 = .ok (.iaload, 1) := by decide +kernel
theorem dX5_bring_38 : decode cX5_bring 38 = .ok (.aload_n 0, 1) := by decide +kernel
theorem dX5_bring_39 : decode cX5_bring 39 = .ok (.getfield 15, 3) := by decide +kernel
theorem dX5_bring_42 : decode cX5_bring 42 = .ok (.iload 4, 2) := by decide +kernel
theorem dX5_bring_44 : decode cX5_bring 44 = .ok (.iaload, 1) := by decide +kernel
theorem dX5_bring_45 : decode cX5_bring 45 = .ok (.iadd, 1) := by decide +kernel
theorem dX5_bring_46 : decode cX5_bring 46 = .ok (.iastore, 1) := by decide +kernel
theorem dX5_bring_47 : decode cX5_bring 47 = .ok (.goto 45, 3) := by decide +kernel
theorem dX5_bring_50 : decode cX5_bring 50 = .ok (.aload_n 0, 1) := by decide +kernel
theorem dX5_bring_51 : decode cX5_bring 51 = .ok (.getfield 9, 3) := by decide +kernel
theorem dX5_bring_54 : decode cX5_bring 54 = .ok (.iload_n 3, 1) := by decide +kernel
theorem dX5_bring_55 : decode cX5_bring 55 = .ok (.aload_n 0, 1) := by decide +kernel
theorem dX5_bring_56 : decode cX5_bring 56 = .ok (.getfield 9, 3) := by decide +kernel
theorem dX5_bring_59 : decode cX5_bring 59 = .ok (.iload 4, 2) := by decide +kernel
theorem dX5_bring_61 : decode cX5_bring 61 = .ok (.iaload, 1) := by decide +kernel
theorem dX5_bring_62 : decode cX5_bring 62 = .ok (.iastore, 1) := by decide +kernel
theorem dX5_bring_63 : decode cX5_bring 63 = .ok (.aload_n 0, 1) := by decide +kernel
theorem dX5_bring_64 : decode cX5_bring 64 = .ok (.getfield 15, 3) := by decide +kernel
theorem dX5_bring_67 : decode cX5_bring 67 = .ok (.iload_n 3, 1) := by decide +kernel
theorem dX5_bring_68 : decode cX5_bring 68 = .ok (.aload_n 0, 1) := by decide +kernel
theorem dX5_bring_69 : decode cX5_bring 69 = .ok (.getfield 15, 3) := by decide +kernel
theorem dX5_bring_72 : decode cX5_bring 72 = .ok (.iload 4, 2) := by decide +kernel
theorem dX5_bring_74 : decode cX5_bring 74 = .ok (.iaload, 1) := by decide +kernel
theorem dX5_bring_75 : decode cX5_bring 75 = .ok (.iastore, 1) := by decide +kernel
theorem dX5_bring_76 : decode cX5_bring 76 = .ok (.aload_n 0, 1) := by decide +kernel
theorem dX5_bring_77 : decode cX5_bring 77 = .ok (.getfield 18, 3) := by decide +kernel
theorem dX5_bring_80 : decode cX5_bring 80 = .ok (.iload_n 3, 1) := by decide +kernel
theorem dX5_bring_81 : decode cX5_bring 81 = .ok (.aload_n 0, 1) := by decide +kernel
theorem dX5_bring_82 : decode cX5_bring 82 = .ok (.getfield 18, 3) := by decide +kernel
theorem dX5_bring_85 : decode cX5_bring 85 = .ok (.iload 4, 2) := by decide +kernel
theorem dX5_bring_87 : decode cX5_bring 87 = .ok (.iaload, 1) := by decide +kernel
theorem dX5_bring_88 : decode cX5_bring 88 = .ok (.iastore, 1) := by decide +kernel
theorem dX5_bring_89 : decode cX5_bring 89 = .ok (.iinc 3 1, 3) := by decide +kernel
theorem dX5_bring_92 : decode cX5_bring 92 = .ok (.iinc 4 1, 3) := by decide +kernel
theorem dX5_bring_95 : decode cX5_bring 95 = .ok (.goto (-90), 3) := by decide +kernel
theorem dX5_bring_98 : decode cX5_bring 98 = .ok (.aload_n 0, 1) := by decide +kernel
theorem dX5_bring_99 : decode cX5_bring 99 = .ok (.iload_n 3, 1) := by decide +kernel
theorem dX5_bring_100 : decode cX5_bring 100 = .ok (.putfield 21, 3) := by decide +kernel
theorem dX5_bring_103 : decode cX5_bring 103 = .ok (.return_, 1) := by decide +kernel
theorem dX6_init_0 : decode cX6_init 0 = .ok (.aload_n 0, 1) := by decide +kernel
theorem dX6_init_1 : decode cX6_init 1 = .ok (.invokespecial 3, 3) := by decide +kernel
theorem dX6_init_4 : decode cX6_init 4 = .ok (.aload_n 0, 1) := by decide +kernel
theorem dX6_init_5 : decode cX6_init 5 = .ok (.iconst 4, 1) := by decide +kernel
theorem dX6_init_6 : decode cX6_init 6 = .ok (.newarray .int, 2) := by decide +kernel
theorem dX6_init_8 : decode cX6_init 8 = .ok (.putfield 9, 3) := by decide +kernel
theorem dX6_init_11 : decode cX6_init 11 = .ok (.aload_n 0, 1) := by decide +kernel
theorem dX6_init_12 : decode cX6_init 12 = .ok (.iconst 4, 1) := by decide +kernel
theorem dX6_init_13 : decode cX6_init 13 = .ok (.newarray .int, 2) := by decide +kernel
theorem dX6_init_15 : decode cX6_init 15 = .ok (.putfield 15, 3) := by decide +kernel
theorem dX6_init_18 : decode cX6_init 18 = .ok (.aload_n 0, 1) := by decide +kernel
theorem dX6_init_19 : decode cX6_init 19 = .ok (.bipush 6, 2) := by decide +kernel
theorem dX6_init_21 : decode cX6_init 21 = .ok (.newarray .int, 2) := by decide +kernel
theorem dX6_init_23 : decode cX6_init 23 = .ok (.putfield 18, 3) := by decide +kernel
theorem dX6_init_26 : decode cX6_init 26 = .ok (.aload_n 0, 1) := by decide +kernel
theorem dX6_init_27 : decode cX6_init 27 = .ok (.bipush 6, 2) := by decide +kernel
theorem dX6_init_29 : decode cX6_init 29 = .ok (.newarray .int, 2) := by decide +kernel
theorem dX6_init_31 : decode cX6_init 31 = .ok (.putfield 21, 3) := by decide +kernel
theorem dX6_init_34 : decode cX6_init 34 = .ok (.aload_n 0, 1) := by decide +kernel
theorem dX6_init_35 : decode cX6_init 35 = .ok (.bipush 6, 2) := by decide +kernel
theorem dX6_init_37 : decode cX6_init 37 = .ok (.newarray .boolean, 2) := by decide +kernel
theorem dX6_init_39 : decode cX6_init 39 = .ok (.putfield 24, 3) := by decide +kernel
theorem dX6_init_42 : decode cX6_init 42 = .ok (.aload_n 0, 1) := by decide +kernel
theorem dX6_init_43 : decode cX6_init 43 = .ok (.bipush 6, 2) := by decide +kernel
theorem dX6_init_45 : decode cX6_init 45 = .ok (.newarray .int, 2) := by decide +kernel
theorem dX6_init_47 : decode cX6_init 47 = .ok (.putfield 28, 3) := by decide +kernel
theorem dX6_init_50 : decode cX6_init 50 = .ok (.aload_n 0, 1) := by decide +kernel
theorem dX6_init_51 : decode cX6_init 51 = .ok (.bipush 6, 2) := by decide +kernel
theorem dX6_init_53 : decode cX6_init 53 = .ok (.newarray .int, 2) := by decide +kernel
theorem dX6_init_55 : decode cX6_init 55 = .ok (.putfield 31, 3) := by decide +kernel
theorem dX6_init_58 : decode cX6_init 58 = .ok (.return_, 1) := by decide +kernel
theorem dX6_begin_0 : decode cX6_begin 0 = .ok (.aload_n 0, 1) := by decide +kernel
theorem dX6_begin_1 : decode cX6_begin 1 = .ok (.iconst 0, 1) := by decide +kernel
theorem dX6_begin_2 : decode cX6_begin 2 = .ok (.putfield 34, 3) := by decide +kernel
theorem dX6_begin_5 : decode cX6_begin 5 = .ok (.aload_n 0, 1) := by decide +kernel
theorem dX6_begin_6 : decode cX6_begin 6 = .ok (.iconst 0, 1) := by decide +kernel
theorem dX6_begin_7 : decode cX6_begin 7 = .ok (.putfield 38, 3) := by decide +kernel
theorem dX6_begin_10 : decode cX6_begin 10 = .ok (.return_, 1) := by decide +kernel
theorem dX6_addClerk_0 : decode cX6_addClerk 0 = .ok (.aload_n 0, 1) := by decide +kernel
theorem dX6_addClerk_1 : decode cX6_addClerk 1 = .ok (.getfield 34, 3) := by decide +kernel
theorem dX6_addClerk_4 : decode cX6_addClerk 4 = .ok (.iconst 4, 1) := by decide +kernel
theorem dX6_addClerk_5 : decode cX6_addClerk 5 = .ok (.if_icmp .ge 33, 3) := by decide +kernel
theorem dX6_addClerk_8 : decode cX6_addClerk 8 = .ok (.aload_n 0, 1) := by decide +kernel
theorem dX6_addClerk_9 : decode cX6_addClerk 9 = .ok (.getfield 9, 3) := by decide +kernel
theorem dX6_addClerk_12 : decode cX6_addClerk 12 = .ok (.aload_n 0, 1) := by decide +kernel
theorem dX6_addClerk_13 : decode cX6_addClerk 13 = .ok (.getfield 34, 3) := by decide +kernel
theorem dX6_addClerk_16 : decode cX6_addClerk 16 = .ok (.iload_n 1, 1) := by decide +kernel
theorem dX6_addClerk_17 : decode cX6_addClerk 17 = .ok (.iastore, 1) := by decide +kernel
theorem dX6_addClerk_18 : decode cX6_addClerk 18 = .ok (.aload_n 0, 1) := by decide +kernel
theorem dX6_addClerk_19 : decode cX6_addClerk 19 = .ok (.getfield 15, 3) := by decide +kernel
theorem dX6_addClerk_22 : decode cX6_addClerk 22 = .ok (.aload_n 0, 1) := by decide +kernel
theorem dX6_addClerk_23 : decode cX6_addClerk 23 = .ok (.getfield 34, 3) := by decide +kernel
theorem dX6_addClerk_26 : decode cX6_addClerk 26 = .ok (.iload_n 2, 1) := by decide +kernel
theorem dX6_addClerk_27 : decode cX6_addClerk 27 = .ok (.iastore, 1) := by decide +kernel
theorem dX6_addClerk_28 : decode cX6_addClerk 28 = .ok (.aload_n 0, 1) := by decide +kernel
theorem dX6_addClerk_29 : decode cX6_addClerk 29 = .ok (.dup, 1) := by decide +kernel
theorem dX6_addClerk_30 : decode cX6_addClerk 30 = .ok (.getfield 34, 3) := by decide +kernel
theorem dX6_addClerk_33 : decode cX6_addClerk 33 = .ok (.iconst 1, 1) := by decide +kernel
theorem dX6_addClerk_34 : decode cX6_addClerk 34 = .ok (.iadd, 1) := by decide +kernel
theorem dX6_addClerk_35 : decode cX6_addClerk 35 = .ok (.putfield 34, 3) := by decide +kernel
theorem dX6_addClerk_38 : decode cX6_addClerk 38 = .ok (.return_, 1) := by decide +kernel
theorem dX6_addCup_0 : decode cX6_addCup 0 = .ok (.aload_n 0, 1) := by decide +kernel
theorem dX6_addCup_1 : decode cX6_addCup 1 = .ok (.getfield 38, 3) := by decide +kernel
theorem dX6_addCup_4 : decode cX6_addCup 4 = .ok (.bipush 6, 2) := by decide +kernel
theorem dX6_addCup_6 : decode cX6_addCup 6 = .ok (.if_icmp .ge 23, 3) := by decide +kernel
theorem dX6_addCup_9 : decode cX6_addCup 9 = .ok (.aload_n 0, 1) := by decide +kernel
theorem dX6_addCup_10 : decode cX6_addCup 10 = .ok (.getfield 18, 3) := by decide +kernel
theorem dX6_addCup_13 : decode cX6_addCup 13 = .ok (.aload_n 0, 1) := by decide +kernel
theorem dX6_addCup_14 : decode cX6_addCup 14 = .ok (.getfield 38, 3) := by decide +kernel
theorem dX6_addCup_17 : decode cX6_addCup 17 = .ok (.iload_n 1, 1) := by decide +kernel
theorem dX6_addCup_18 : decode cX6_addCup 18 = .ok (.iastore, 1) := by decide +kernel
theorem dX6_addCup_19 : decode cX6_addCup 19 = .ok (.aload_n 0, 1) := by decide +kernel
theorem dX6_addCup_20 : decode cX6_addCup 20 = .ok (.dup, 1) := by decide +kernel
theorem dX6_addCup_21 : decode cX6_addCup 21 = .ok (.getfield 38, 3) := by decide +kernel
theorem dX6_addCup_24 : decode cX6_addCup 24 = .ok (.iconst 1, 1) := by decide +kernel
theorem dX6_addCup_25 : decode cX6_addCup 25 = .ok (.iadd, 1) := by decide +kernel
theorem dX6_addCup_26 : decode cX6_addCup 26 = .ok (.putfield 38, 3) := by decide +kernel
theorem dX6_addCup_29 : decode cX6_addCup 29 = .ok (.return_, 1) := by decide +kernel
theorem dX6_layPlaces_0 : decode cX6_layPlaces 0 = .ok (.iconst 0, 1) := by decide +kernel
theorem dX6_layPlaces_1 : decode cX6_layPlaces 1 = .ok (.istore_n 1, 1) := by decide +kernel
theorem dX6_layPlaces_2 : decode cX6_layPlaces 2 = .ok (.iload_n 1, 1) := by decide +kernel
theorem dX6_layPlaces_3 : decode cX6_layPlaces 3 = .ok (.aload_n 0, 1) := by decide +kernel
theorem dX6_layPlaces_4 : decode cX6_layPlaces 4 = .ok (.getfield 38, 3) := by decide +kernel
theorem dX6_layPlaces_7 : decode cX6_layPlaces 7 = .ok (.if_icmp .ge 71, 3) := by decide +kernel
theorem dX6_layPlaces_10 : decode cX6_layPlaces 10 = .ok (.iconst 0, 1) := by decide +kernel
theorem dX6_layPlaces_11 : decode cX6_layPlaces 11 = .ok (.istore_n 2, 1) := by decide +kernel
theorem dX6_layPlaces_12 : decode cX6_layPlaces 12 = .ok (.iconst 1, 1) := by decide +kernel
theorem dX6_layPlaces_13 : decode cX6_layPlaces 13 = .ok (.istore_n 3, 1) := by decide +kernel
theorem dX6_layPlaces_14 : decode cX6_layPlaces 14 = .ok (.iload_n 3, 1) := by decide +kernel
theorem dX6_layPlaces_15 : decode cX6_layPlaces 15 = .ok (.aload_n 0, 1) := by decide +kernel
theorem dX6_layPlaces_16 : decode cX6_layPlaces 16 = .ok (.getfield 34, 3) := by decide +kernel
theorem dX6_layPlaces_19 : decode cX6_layPlaces 19 = .ok (.if_icmp .ge 26, 3) := by decide +kernel
theorem dX6_layPlaces_22 : decode cX6_layPlaces 22 = .ok (.aload_n 0, 1) := by decide +kernel
theorem dX6_layPlaces_23 : decode cX6_layPlaces 23 = .ok (.getfield 9, 3) := by decide +kernel
theorem dX6_layPlaces_26 : decode cX6_layPlaces 26 = .ok (.iload_n 3, 1) := by decide +kernel
theorem dX6_layPlaces_27 : decode cX6_layPlaces 27 = .ok (.iaload, 1) := by decide +kernel
theorem dX6_layPlaces_28 : decode cX6_layPlaces 28 = .ok (.aload_n 0, 1) := by decide +kernel
theorem dX6_layPlaces_29 : decode cX6_layPlaces 29 = .ok (.getfield 9, 3) := by decide +kernel
theorem dX6_layPlaces_32 : decode cX6_layPlaces 32 = .ok (.iload_n 2, 1) := by decide +kernel
theorem dX6_layPlaces_33 : decode cX6_layPlaces 33 = .ok (.iaload, 1) := by decide +kernel
theorem dX6_layPlaces_34 : decode cX6_layPlaces 34 = .ok (.if_icmp .ge 5, 3) := by decide +kernel
theorem dX6_layPlaces_37 : decode cX6_layPlaces 37 = .ok (.iload_n 3, 1) := by decide +kernel
theorem dX6_layPlaces_38 : decode cX6_layPlaces 38 = .ok (.istore_n 2, 1) := by decide +kernel
theorem dX6_layPlaces_39 : decode cX6_layPlaces 39 = .ok (.iinc 3 1, 3) := by decide +kernel
theorem dX6_layPlaces_42 : decode cX6_layPlaces 42 = .ok (.goto (-28), 3) := by decide +kernel
theorem dX6_layPlaces_45 : decode cX6_layPlaces 45 = .ok (.aload_n 0, 1) := by decide +kernel
theorem dX6_layPlaces_46 : decode cX6_layPlaces 46 = .ok (.getfield 9, 3) := by decide +kernel
theorem dX6_layPlaces_49 : decode cX6_layPlaces 49 = .ok (.iload_n 2, 1) := by decide +kernel
theorem dX6_layPlaces_50 : decode cX6_layPlaces 50 = .ok (.dup2, 1) := by decide +kernel
theorem dX6_layPlaces_51 : decode cX6_layPlaces 51 = .ok (.iaload, 1) := by decide +kernel
theorem dX6_layPlaces_52 : decode cX6_layPlaces 52 = .ok (.aload_n 0, 1) := by decide +kernel
theorem dX6_layPlaces_53 : decode cX6_layPlaces 53 = .ok (.getfield 15, 3) := by decide +kernel
theorem dX6_layPlaces_56 : decode cX6_layPlaces 56 = .ok (.iload_n 2, 1) := by decide +kernel
theorem dX6_layPlaces_57 : decode cX6_layPlaces 57 = .ok (.iaload, 1) := by decide +kernel
theorem dX6_layPlaces_58 : decode cX6_layPlaces 58 = .ok (.iadd, 1) := by decide +kernel
theorem dX6_layPlaces_59 : decode cX6_layPlaces 59 = .ok (.iastore, 1) := by decide +kernel
theorem dX6_layPlaces_60 : decode cX6_layPlaces 60 = .ok (.aload_n 0, 1) := by decide +kernel
theorem dX6_layPlaces_61 : decode cX6_layPlaces 61 = .ok (.getfield 21, 3) := by decide +kernel
theorem dX6_layPlaces_64 : decode cX6_layPlaces 64 = .ok (.iload_n 1, 1) := by decide +kernel
theorem dX6_layPlaces_65 : decode cX6_layPlaces 65 = .ok (.aload_n 0, 1) := by decide +kernel
theorem dX6_layPlaces_66 : decode cX6_layPlaces 66 = .ok (.getfield 9, 3) := by decide +kernel
theorem dX6_layPlaces_69 : decode cX6_layPlaces 69 = .ok (.iload_n 2, 1) := by decide +kernel
theorem dX6_layPlaces_70 : decode cX6_layPlaces 70 = .ok (.iaload, 1) := by decide +kernel
theorem dX6_layPlaces_71 : decode cX6_layPlaces 71 = .ok (.iastore, 1) := by decide +kernel
theorem dX6_layPlaces_72 : decode cX6_layPlaces 72 = .ok (.iinc 1 1, 3) := by decide +kernel
theorem dX6_layPlaces_75 : decode cX6_layPlaces 75 = .ok (.goto (-73), 3) := by decide +kernel
theorem dX6_layPlaces_78 : decode cX6_layPlaces 78 = .ok (.return_, 1) := by decide +kernel
theorem dX6_greatestInTurn_0 : decode cX6_greatestInTurn 0 = .ok (.iconst 0, 1) := by decide +kernel
theorem dX6_greatestInTurn_1 : decode cX6_greatestInTurn 1 = .ok (.istore_n 1, 1) := by decide +kernel
theorem dX6_greatestInTurn_2 : decode cX6_greatestInTurn 2 = .ok (.iconst 0, 1) := by decide +kernel
theorem dX6_greatestInTurn_3 : decode cX6_greatestInTurn 3 = .ok (.istore_n 2, 1) := by decide +kernel
theorem dX6_greatestInTurn_4 : decode cX6_greatestInTurn 4 = .ok (.iload_n 2, 1) := by decide +kernel
theorem dX6_greatestInTurn_5 : decode cX6_greatestInTurn 5 = .ok (.aload_n 0, 1) := by decide +kernel
theorem dX6_greatestInTurn_6 : decode cX6_greatestInTurn 6 = .ok (.getfield 38, 3) := by decide +kernel
theorem dX6_greatestInTurn_9 : decode cX6_greatestInTurn 9 = .ok (.if_icmp .ge 27, 3) := by decide +kernel
theorem dX6_greatestInTurn_12 : decode cX6_greatestInTurn 12 = .ok (.iload_n 1, 1) := by decide +kernel
theorem dX6_greatestInTurn_13 : decode cX6_greatestInTurn 13 = .ok (.aload_n 0, 1) := by decide +kernel
theorem dX6_greatestInTurn_14 : decode cX6_greatestInTurn 14 = .ok (.getfield 18, 3) := by decide +kernel
theorem dX6_greatestInTurn_17 : decode cX6_greatestInTurn 17 = .ok (.iload_n 2, 1) := by decide +kernel
theorem dX6_greatestInTurn_18 : decode cX6_greatestInTurn 18 = .ok (.iaload, 1) := by decide +kernel
theorem dX6_greatestInTurn_19 : decode cX6_greatestInTurn 19 = .ok (.aload_n 0, 1) := by decide +kernel
theorem dX6_greatestInTurn_20 : decode cX6_greatestInTurn 20 = .ok (.getfield 21, 3) := by decide +kernel
theorem dX6_greatestInTurn_23 : decode cX6_greatestInTurn 23 = .ok (.iload_n 2, 1) := by decide +kernel
theorem dX6_greatestInTurn_24 : decode cX6_greatestInTurn 24 = .ok (.iaload, 1) := by decide +kernel
theorem dX6_greatestInTurn_25 : decode cX6_greatestInTurn 25 = .ok (.iadd, 1) := by decide +kernel
theorem dX6_greatestInTurn_26 : decode cX6_greatestInTurn 26 = .ok (.invokestatic 41, 3) := by decide +kernel
theorem dX6_greatestInTurn_29 : decode cX6_greatestInTurn 29 = .ok (.istore_n 1, 1) := by decide +kernel
theorem dX6_greatestInTurn_30 : decode cX6_greatestInTurn 30 = .ok (.iinc 2 1, 3) := by decide +kernel
theorem dX6_greatestInTurn_33 : decode cX6_greatestInTurn 33 = .ok (.goto (-29), 3) := by decide +kernel
theorem dX6_greatestInTurn_36 : decode cX6_greatestInTurn 36 = .ok (.iload_n 1, 1) := by decide +kernel
theorem dX6_greatestInTurn_37 : decode cX6_greatestInTurn 37 = .ok (.ireturn, 1) := by decide +kernel
theorem dX6_findBest_0 : decode cX6_findBest 0 = .ok (.aload_n 0, 1) := by decide +kernel
theorem dX6_findBest_1 : decode cX6_findBest 1 = .ok (.ldc 47, 2) := by decide +kernel
theorem dX6_findBest_3 : decode cX6_findBest 3 = .ok (.putfield 48, 3) := by decide +kernel
theorem dX6_findBest_6 : decode cX6_findBest 6 = .ok (.aload_n 0, 1) := by decide +kernel
theorem dX6_findBest_7 : decode cX6_findBest 7 = .ok (.iconst 0, 1) := by decide +kernel
theorem dX6_findBest_8 : decode cX6_findBest 8 = .ok (.iconst 0, 1) := by decide +kernel
theorem dX6_findBest_9 : decode cX6_findBest 9 = .ok (.invokestatic 51, 3) := by decide +kernel
theorem dX6_findBest_12 : decode cX6_findBest 12 = .ok (.aload_n 0, 1) := by decide +kernel
theorem dX6_findBest_13 : decode cX6_findBest 13 = .ok (.getfield 48, 3) := by decide +kernel
theorem dX6_findBest_16 : decode cX6_findBest 16 = .ok (.ireturn, 1) := by decide +kernel
theorem dX6_cupAtPlace_0 : decode cX6_cupAtPlace 0 = .ok (.iload_n 1, 1) := by decide +kernel
theorem dX6_cupAtPlace_1 : decode cX6_cupAtPlace 1 = .ok (.ifCond .lt 11, 3) := by decide +kernel
theorem dX6_cupAtPlace_4 : decode cX6_cupAtPlace 4 = .ok (.iload_n 1, 1) := by decide +kernel
theorem dX6_cupAtPlace_5 : decode cX6_cupAtPlace 5 = .ok (.aload_n 0, 1) := by decide +kernel
theorem dX6_cupAtPlace_6 : decode cX6_cupAtPlace 6 = .ok (.getfield 38, 3) := by decide +kernel
theorem dX6_cupAtPlace_9 : decode cX6_cupAtPlace 9 = .ok (.if_icmp .lt 7, 3) := by decide +kernel
theorem dX6_cupAtPlace_12 : decode cX6_cupAtPlace 12 = .ok (.iconst 0, 1) := by decide +kernel
theorem dX6_cupAtPlace_13 : decode cX6_cupAtPlace 13 = .ok (.goto 9, 3) := by decide +kernel
theorem dX6_cupAtPlace_16 : decode cX6_cupAtPlace 16 = .ok (.aload_n 0, 1) := by decide +kernel
theorem dX6_cupAtPlace_17 : decode cX6_cupAtPlace 17 = .ok (.getfield 31, 3) := by decide +kernel
theorem dX6_cupAtPlace_20 : decode cX6_cupAtPlace 20 = .ok (.iload_n 1, 1) := by decide +kernel
theorem dX6_cupAtPlace_21 : decode cX6_cupAtPlace 21 = .ok (.iaload, 1) := by decide +kernel
theorem dX6_cupAtPlace_22 : decode cX6_cupAtPlace 22 = .ok (.ireturn, 1) := by decide +kernel
theorem dX6_search_0 : decode cX6_search 0 = .ok (.iload_n 2, 1) := by decide +kernel
theorem dX6_search_1 : decode cX6_search 1 = .ok (.aload_n 0, 1) := by decide +kernel
theorem dX6_search_2 : decode cX6_search 2 = .ok (.getfield 48, 3) := by decide +kernel
theorem dX6_search_5 : decode cX6_search 5 = .ok (.if_icmp .lt 4, 3) := by decide +kernel
theorem dX6_search_8 : decode cX6_search 8 = .ok (.return_, 1) := by decide +kernel
theorem dX6_search_9 : decode cX6_search 9 = .ok (.iload_n 1, 1) := by decide +kernel
theorem dX6_search_10 : decode cX6_search 10 = .ok (.aload_n 0, 1) := by decide +kernel
theorem dX6_search_11 : decode cX6_search 11 = .ok (.getfield 38, 3) := by decide +kernel
theorem dX6_search_14 : decode cX6_search 14 = .ok (.if_icmp .lt 26, 3) := by decide +kernel
theorem dX6_search_17 : decode cX6_search 17 = .ok (.aload_n 0, 1) := by decide +kernel
theorem dX6_search_18 : decode cX6_search 18 = .ok (.iload_n 2, 1) := by decide +kernel
theorem dX6_search_19 : decode cX6_search 19 = .ok (.putfield 48, 3) := by decide +kernel
theorem dX6_search_22 : decode cX6_search 22 = .ok (.aload_n 0, 1) := by decide +kernel
theorem dX6_search_23 : decode cX6_search 23 = .ok (.getfield 28, 3) := by decide +kernel
theorem dX6_search_26 : decode cX6_search 26 = .ok (.iconst 0, 1) := by decide +kernel
theorem dX6_search_27 : decode cX6_search 27 = .ok (.aload_n 0, 1) := by decide +kernel
theorem dX6_search_28 : decode cX6_search 28 = .ok (.getfield 31, 3) := by decide +kernel
theorem dX6_search_31 : decode cX6_search 31 = .ok (.iconst 0, 1) := by decide +kernel
theorem dX6_search_32 : decode cX6_search 32 = .ok (.aload_n 0, 1) := by decide +kernel
theorem dX6_search_33 : decode cX6_search 33 = .ok (.getfield 38, 3) := by decide +kernel
theorem dX6_search_36 : decode cX6_search 36 = .ok (.invokestatic 55, 3) := by decide +kernel
theorem dX6_search_39 : decode cX6_search 39 = .ok (.return_, 1) := by decide +kernel
theorem dX6_search_40 : decode cX6_search 40 = .ok (.iconst 0, 1) := by decide +kernel
theorem dX6_search_41 : decode cX6_search 41 = .ok (.istore_n 3, 1) := by decide +kernel
theorem dX6_search_42 : decode cX6_search 42 = .ok (.iload_n 3, 1) := by decide +kernel
theorem dX6_search_43 : decode cX6_search 43 = .ok (.aload_n 0, 1) := by decide +kernel
theorem dX6_search_44 : decode cX6_search 44 = .ok (.getfield 38, 3) := by decide +kernel
theorem dX6_search_47 : decode cX6_search 47 = .ok (.if_icmp .ge 63, 3) := by decide +kernel
theorem dX6_search_50 : decode cX6_search 50 = .ok (.aload_n 0, 1) := by decide +kernel
theorem dX6_search_51 : decode cX6_search 51 = .ok (.getfield 24, 3) := by decide +kernel
theorem dX6_search_54 : decode cX6_search 54 = .ok (.iload_n 3, 1) := by decide +kernel
theorem dX6_search_55 : decode cX6_search 55 = .ok (.baload, 1) := by decide +kernel
theorem dX6_search_56 : decode cX6_search 56 = .ok (.ifCond .ne 48, 3) := by decide +kernel
theorem dX6_search_59 : decode cX6_search 59 = .ok (.aload_n 0, 1) := by decide +kernel
theorem dX6_search_60 : decode cX6_search 60 = .ok (.getfield 24, 3) := by decide +kernel
theorem dX6_search_63 : decode cX6_search 63 = .ok (.iload_n 3, 1) := by decide +kernel
theorem dX6_search_64 : decode cX6_search 64 = .ok (.iconst 1, 1) := by decide +kernel
theorem dX6_search_65 : decode cX6_search 65 = .ok (.bastore, 1) := by decide +kernel
theorem dX6_search_66 : decode cX6_search 66 = .ok (.aload_n 0, 1) := by decide +kernel
theorem dX6_search_67 : decode cX6_search 67 = .ok (.getfield 28, 3) := by decide +kernel
theorem dX6_search_70 : decode cX6_search 70 = .ok (.iload_n 1, 1) := by decide +kernel
theorem dX6_search_71 : decode cX6_search 71 = .ok (.iload_n 3, 1) := by decide +kernel
theorem dX6_search_72 : decode cX6_search 72 = .ok (.iastore, 1) := by decide +kernel
theorem dX6_search_73 : decode cX6_search 73 = .ok (.aload_n 0, 1) := by decide +kernel
theorem dX6_search_74 : decode cX6_search 74 = .ok (.iload_n 1, 1) := by decide +kernel
theorem dX6_search_75 : decode cX6_search 75 = .ok (.iconst 1, 1) := by decide +kernel
theorem dX6_search_76 : decode cX6_search 76 = .ok (.iadd, 1) := by decide +kernel
theorem dX6_search_77 : decode cX6_search 77 = .ok (.iload_n 2, 1) := by decide +kernel
theorem dX6_search_78 : decode cX6_search 78 = .ok (.aload_n 0, 1) := by decide +kernel
theorem dX6_search_79 : decode cX6_search 79 = .ok (.getfield 18, 3) := by decide +kernel
theorem dX6_search_82 : decode cX6_search 82 = .ok (.iload_n 3, 1) := by decide +kernel
theorem dX6_search_83 : decode cX6_search 83 = .ok (.iaload, 1) := by decide +kernel
theorem dX6_search_84 : decode cX6_search 84 = .ok (.aload_n 0, 1) := by decide +kernel
theorem dX6_search_85 : decode cX6_search 85 = .ok (.getfield 21, 3) := by decide +kernel
theorem dX6_search_88 : decode cX6_search 88 = .ok (.iload_n 1, 1) := by decide +kernel
theorem dX6_search_89 : decode cX6_search 89 = .ok (.iaload, 1) := by decide +kernel
theorem dX6_search_90 : decode cX6_search 90 = .ok (.iadd, 1) := by decide +kernel
theorem dX6_search_91 : decode cX6_search 91 = .ok (.invokestatic 41, 3) := by decide +kernel
theorem dX6_search_94 : decode cX6_search 94 = .ok (.invokestatic 51, 3) := by decide +kernel
theorem dX6_search_97 : decode cX6_search 97 = .ok (.aload_n 0, 1) := by decide +kernel
theorem dX6_search_98 : decode cX6_search 98 = .ok (.getfield 24, 3) := by decide +kernel
theorem dX6_search_101 : decode cX6_search 101 = .ok (.iload_n 3, 1) := by decide +kernel
theorem dX6_search_102 : decode cX6_search 102 = .ok (.iconst 0, 1) := by decide +kernel
theorem dX6_search_103 : decode cX6_search 103 = .ok (.bastore, 1) := by decide +kernel
theorem dX6_search_104 : decode cX6_search 104 = .ok (.iinc 3 1, 3) := by decide +kernel
theorem dX6_search_107 : decode cX6_search 107 = .ok (.goto (-65), 3) := by decide +kernel
theorem dX6_search_110 : decode cX6_search 110 = .ok (.return_, 1) := by decide +kernel
theorem dX7_init_0 : decode cX7_init 0 = .ok (.aload_n 0, 1) := by decide +kernel
theorem dX7_init_1 : decode cX7_init 1 = .ok (.invokespecial 3, 3) := by decide +kernel
theorem dX7_init_4 : decode cX7_init 4 = .ok (.aload_n 0, 1) := by decide +kernel
theorem dX7_init_5 : decode cX7_init 5 = .ok (.iconst 1, 1) := by decide +kernel
theorem dX7_init_6 : decode cX7_init 6 = .ok (.putfield 9, 3) := by decide +kernel
theorem dX7_init_9 : decode cX7_init 9 = .ok (.aload_n 0, 1) := by decide +kernel
theorem dX7_init_10 : decode cX7_init 10 = .ok (.new 15, 3) := by decide +kernel
theorem dX7_init_13 : decode cX7_init 13 = .ok (.dup, 1) := by decide +kernel
theorem dX7_init_14 : decode cX7_init 14 = .ok (.invokespecial 17, 3) := by decide +kernel
theorem dX7_init_17 : decode cX7_init 17 = .ok (.putfield 18, 3) := by decide +kernel
theorem dX7_init_20 : decode cX7_init 20 = .ok (.aload_n 0, 1) := by decide +kernel
theorem dX7_init_21 : decode cX7_init 21 = .ok (.new 15, 3) := by decide +kernel
theorem dX7_init_24 : decode cX7_init 24 = .ok (.dup, 1) := by decide +kernel
theorem dX7_init_25 : decode cX7_init 25 = .ok (.invokespecial 17, 3) := by decide +kernel
theorem dX7_init_28 : decode cX7_init 28 = .ok (.putfield 22, 3) := by decide +kernel
theorem dX7_init_31 : decode cX7_init 31 = .ok (.aload_n 0, 1) := by decide +kernel
theorem dX7_init_32 : decode cX7_init 32 = .ok (.iconst 0, 1) := by decide +kernel
theorem dX7_init_33 : decode cX7_init 33 = .ok (.putfield 25, 3) := by decide +kernel
theorem dX7_init_36 : decode cX7_init 36 = .ok (.aload_n 0, 1) := by decide +kernel
theorem dX7_init_37 : decode cX7_init 37 = .ok (.bipush 6, 2) := by decide +kernel
theorem dX7_init_39 : decode cX7_init 39 = .ok (.newarray .int, 2) := by decide +kernel
theorem dX7_init_41 : decode cX7_init 41 = .ok (.putfield 29, 3) := by decide +kernel
theorem dX7_init_44 : decode cX7_init 44 = .ok (.aload_n 0, 1) := by decide +kernel
theorem dX7_init_45 : decode cX7_init 45 = .ok (.new 33, 3) := by decide +kernel
theorem dX7_init_48 : decode cX7_init 48 = .ok (.dup, 1) := by decide +kernel
theorem dX7_init_49 : decode cX7_init 49 = .ok (.invokespecial 35, 3) := by decide +kernel
theorem dX7_init_52 : decode cX7_init 52 = .ok (.putfield 36, 3) := by decide +kernel
theorem dX7_init_55 : decode cX7_init 55 = .ok (.aload_n 0, 1) := by decide +kernel
theorem dX7_init_56 : decode cX7_init 56 = .ok (.iload_n 1, 1) := by decide +kernel
theorem dX7_init_57 : decode cX7_init 57 = .ok (.putfield 40, 3) := by decide +kernel
theorem dX7_init_60 : decode cX7_init 60 = .ok (.aload_n 0, 1) := by decide +kernel
theorem dX7_init_61 : decode cX7_init 61 = .ok (.aload_n 2, 1) := by decide +kernel
theorem dX7_init_62 : decode cX7_init 62 = .ok (.putfield 43, 3) := by decide +kernel
theorem dX7_init_65 : decode cX7_init 65 = .ok (.aload_n 0, 1) := by decide +kernel
theorem dX7_init_66 : decode cX7_init 66 = .ok (.iload_n 3, 1) := by decide +kernel
theorem dX7_init_67 : decode cX7_init 67 = .ok (.putfield 47, 3) := by decide +kernel
theorem dX7_init_70 : decode cX7_init 70 = .ok (.return_, 1) := by decide +kernel
theorem dX7_wearBy_0 : decode cX7_wearBy 0 = .ok (.aload_n 0, 1) := by decide +kernel
theorem dX7_wearBy_1 : decode cX7_wearBy 1 = .ok (.iload_n 1, 1) := by decide +kernel
theorem dX7_wearBy_2 : decode cX7_wearBy 2 = .ok (.putfield 50, 3) := by decide +kernel
theorem dX7_wearBy_5 : decode cX7_wearBy 5 = .ok (.aload_n 0, 1) := by decide +kernel
theorem dX7_wearBy_6 : decode cX7_wearBy 6 = .ok (.iconst 0, 1) := by decide +kernel
theorem dX7_wearBy_7 : decode cX7_wearBy 7 = .ok (.putfield 53, 3) := by decide +kernel
theorem dX7_wearBy_10 : decode cX7_wearBy 10 = .ok (.return_, 1) := by decide +kernel
theorem dX7_wearsThrough_0 : decode cX7_wearsThrough 0 = .ok (.aload_n 0, 1) := by decide +kernel
theorem dX7_wearsThrough_1 : decode cX7_wearsThrough 1 = .ok (.getfield 50, 3) := by decide +kernel
theorem dX7_wearsThrough_4 : decode cX7_wearsThrough 4 = .ok (.ifCond .ne 5, 3) := by decide +kernel
theorem dX7_wearsThrough_7 : decode cX7_wearsThrough 7 = .ok (.iconst 0, 1) := by decide +kernel
theorem dX7_wearsThrough_8 : decode cX7_wearsThrough 8 = .ok (.ireturn, 1) := by decide +kernel
theorem dX7_wearsThrough_9 : decode cX7_wearsThrough 9 = .ok (.aload_n 0, 1) := by decide +kernel
theorem dX7_wearsThrough_10 : decode cX7_wearsThrough 10 = .ok (.dup, 1) := by decide +kernel
theorem dX7_wearsThrough_11 : decode cX7_wearsThrough 11 = .ok (.getfield 53, 3) := by decide +kernel
theorem dX7_wearsThrough_14 : decode cX7_wearsThrough 14 = .ok (.iconst 1, 1) := by decide +kernel
theorem dX7_wearsThrough_15 : decode cX7_wearsThrough 15 = .ok (.iadd, 1) := by decide +kernel
theorem dX7_wearsThrough_16 : decode cX7_wearsThrough 16 = .ok (.putfield 53, 3) := by decide +kernel
theorem dX7_wearsThrough_19 : decode cX7_wearsThrough 19 = .ok (.aload_n 0, 1) := by decide +kernel
theorem dX7_wearsThrough_20 : decode cX7_wearsThrough 20 = .ok (.getfield 53, 3) := by decide +kernel
theorem dX7_wearsThrough_23 : decode cX7_wearsThrough 23 = .ok (.aload_n 0, 1) := by decide +kernel
theorem dX7_wearsThrough_24 : decode cX7_wearsThrough 24 = .ok (.getfield 50, 3) := by decide +kernel
theorem dX7_wearsThrough_27 : decode cX7_wearsThrough 27 = .ok (.if_icmp .ge 5, 3) := by decide +kernel
theorem dX7_wearsThrough_30 : decode cX7_wearsThrough 30 = .ok (.iconst 0, 1) := by decide +kernel
theorem dX7_wearsThrough_31 : decode cX7_wearsThrough 31 = .ok (.ireturn, 1) := by decide +kernel
theorem dX7_wearsThrough_32 : decode cX7_wearsThrough 32 = .ok (.aload_n 0, 1) := by decide +kernel
theorem dX7_wearsThrough_33 : decode cX7_wearsThrough 33 = .ok (.iconst 0, 1) := by decide +kernel
theorem dX7_wearsThrough_34 : decode cX7_wearsThrough 34 = .ok (.putfield 53, 3) := by decide +kernel
theorem dX7_wearsThrough_37 : decode cX7_wearsThrough 37 = .ok (.iconst 1, 1) := by decide +kernel
theorem dX7_wearsThrough_38 : decode cX7_wearsThrough 38 = .ok (.ireturn, 1) := by decide +kernel
theorem dX7_rank_0 : decode cX7_rank 0 = .ok (.aload_n 1, 1) := by decide +kernel
theorem dX7_rank_1 : decode cX7_rank 1 = .ok (.ifnull 10, 3) := by decide +kernel
theorem dX7_rank_4 : decode cX7_rank 4 = .ok (.aload_n 0, 1) := by decide +kernel
theorem dX7_rank_5 : decode cX7_rank 5 = .ok (.getfield 25, 3) := by decide +kernel
theorem dX7_rank_8 : decode cX7_rank 8 = .ok (.ifCond .ne 5, 3) := by decide +kernel
theorem dX7_rank_11 : decode cX7_rank 11 = .ok (.iconst 0, 1) := by decide +kernel
theorem dX7_rank_12 : decode cX7_rank 12 = .ok (.ireturn, 1) := by decide +kernel
theorem dX7_rank_13 : decode cX7_rank 13 = .ok (.aload_n 0, 1) := by decide +kernel
theorem dX7_rank_14 : decode cX7_rank 14 = .ok (.getfield 25, 3) := by decide +kernel
theorem dX7_rank_17 : decode cX7_rank 17 = .ok (.iconst 2, 1) := by decide +kernel
theorem dX7_rank_18 : decode cX7_rank 18 = .ok (.if_icmp .ne 24, 3) := by decide +kernel
theorem dX7_rank_21 : decode cX7_rank 21 = .ok (.aload_n 1, 1) := by decide +kernel
theorem dX7_rank_22 : decode cX7_rank 22 = .ok (.getfield 40, 3) := by decide +kernel
theorem dX7_rank_25 : decode cX7_rank 25 = .ok (.aload_n 0, 1) := by decide +kernel
theorem dX7_rank_26 : decode cX7_rank 26 = .ok (.getfield 56, 3) := by decide +kernel
theorem dX7_rank_29 : decode cX7_rank 29 = .ok (.if_icmp .gt 13, 3) := by decide +kernel
theorem dX7_rank_32 : decode cX7_rank 32 = .ok (.aload_n 1, 1) := by decide +kernel
theorem dX7_rank_33 : decode cX7_rank 33 = .ok (.getfield 40, 3) := by decide +kernel
theorem dX7_rank_36 : decode cX7_rank 36 = .ok (.bipush 16, 2) := by decide +kernel
theorem dX7_rank_38 : decode cX7_rank 38 = .ok (.iadd, 1) := by decide +kernel
theorem dX7_rank_39 : decode cX7_rank 39 = .ok (.goto 7, 3) := by decide +kernel
theorem dX7_rank_42 : decode cX7_rank 42 = .ok (.aload_n 1, 1) := by decide +kernel
theorem dX7_rank_43 : decode cX7_rank 43 = .ok (.getfield 40, 3) := by decide +kernel
theorem dX7_rank_46 : decode cX7_rank 46 = .ok (.ireturn, 1) := by decide +kernel
theorem dX7_wantedLines_0 : decode cX7_wantedLines 0 = .ok (.iconst 0, 1) := by decide +kernel
theorem dX7_wantedLines_1 : decode cX7_wantedLines 1 = .ok (.istore_n 1, 1) := by decide +kernel
theorem dX7_wantedLines_2 : decode cX7_wantedLines 2 = .ok (.iconst 0, 1) := by decide +kernel
theorem dX7_wantedLines_3 : decode cX7_wantedLines 3 = .ok (.istore_n 2, 1) := by decide +kernel
theorem dX7_wantedLines_4 : decode cX7_wantedLines 4 = .ok (.iload_n 2, 1) := by decide +kernel
theorem dX7_wantedLines_5 : decode cX7_wantedLines 5 = .ok (.bipush 6, 2) := by decide +kernel
theorem dX7_wantedLines_7 : decode cX7_wantedLines 7 = .ok (.if_icmp .ge 20, 3) := by decide +kernel
theorem dX7_wantedLines_10 : decode cX7_wantedLines 10 = .ok (.iload_n 1, 1) := by decide +kernel
theorem dX7_wantedLines_11 : decode cX7_wantedLines 11 = .ok (.aload_n 0, 1) := by decide +kernel
theorem dX7_wantedLines_12 : decode cX7_wantedLines 12 = .ok (.getfield 29, 3) := by decide +kernel
theorem dX7_wantedLines_15 : decode cX7_wantedLines 15 = .ok (.iload_n 2, 1) := by decide +kernel
theorem dX7_wantedLines_16 : decode cX7_wantedLines 16 = .ok (.iaload, 1) := by decide +kernel
theorem dX7_wantedLines_17 : decode cX7_wantedLines 17 = .ok (.invokestatic 59, 3) := by decide +kernel
theorem dX7_wantedLines_20 : decode cX7_wantedLines 20 = .ok (.istore_n 1, 1) := by decide +kernel
theorem dX7_wantedLines_21 : decode cX7_wantedLines 21 = .ok (.iinc 2 1, 3) := by decide +kernel
theorem dX7_wantedLines_24 : decode cX7_wantedLines 24 = .ok (.goto (-20), 3) := by decide +kernel
theorem dX7_wantedLines_27 : decode cX7_wantedLines 27 = .ok (.iconst 2, 1) := by decide +kernel
theorem dX7_wantedLines_28 : decode cX7_wantedLines 28 = .ok (.iload_n 1, 1) := by decide +kernel
theorem dX7_wantedLines_29 : decode cX7_wantedLines 29 = .ok (.imul, 1) := by decide +kernel
theorem dX7_wantedLines_30 : decode cX7_wantedLines 30 = .ok (.aload_n 0, 1) := by decide +kernel
theorem dX7_wantedLines_31 : decode cX7_wantedLines 31 = .ok (.getfield 65, 3) := by decide +kernel
theorem dX7_wantedLines_34 : decode cX7_wantedLines 34 = .ok (.imul, 1) := by decide +kernel
theorem dX7_wantedLines_35 : decode cX7_wantedLines 35 = .ok (.sipush 720, 3) := by decide +kernel
theorem dX7_wantedLines_38 : decode cX7_wantedLines 38 = .ok (.if_icmp .gt 5, 3) := by decide +kernel
theorem dX7_wantedLines_41 : decode cX7_wantedLines 41 = .ok (.iconst 1, 1) := by decide +kernel
theorem dX7_wantedLines_42 : decode cX7_wantedLines 42 = .ok (.ireturn, 1) := by decide +kernel
theorem dX7_wantedLines_43 : decode cX7_wantedLines 43 = .ok (.iconst 2, 1) := by decide +kernel
theorem dX7_wantedLines_44 : decode cX7_wantedLines 44 = .ok (.iload_n 1, 1) := by decide +kernel
theorem dX7_wantedLines_45 : decode cX7_wantedLines 45 = .ok (.aload_n 0, 1) := by decide +kernel
theorem dX7_wantedLines_46 : decode cX7_wantedLines 46 = .ok (.getfield 68, 3) := by decide +kernel
theorem dX7_wantedLines_49 : decode cX7_wantedLines 49 = .ok (.imul, 1) := by decide +kernel
theorem dX7_wantedLines_50 : decode cX7_wantedLines 50 = .ok (.sipush 720, 3) := by decide +kernel
theorem dX7_wantedLines_53 : decode cX7_wantedLines 53 = .ok (.iadd, 1) := by decide +kernel
theorem dX7_wantedLines_54 : decode cX7_wantedLines 54 = .ok (.iconst 1, 1) := by decide +kernel
theorem dX7_wantedLines_55 : decode cX7_wantedLines 55 = .ok (.isub, 1) := by decide +kernel
theorem dX7_wantedLines_56 : decode cX7_wantedLines 56 = .ok (.sipush 720, 3) := by decide +kernel
theorem dX7_wantedLines_59 : decode cX7_wantedLines 59 = .ok (.idiv, 1) := by decide +kernel
theorem dX7_wantedLines_60 : decode cX7_wantedLines 60 = .ok (.imul, 1) := by decide +kernel
theorem dX7_wantedLines_61 : decode cX7_wantedLines 61 = .ok (.ireturn, 1) := by decide +kernel
theorem dX7_lossIn_0 : decode cX7_lossIn 0 = .ok (.iconst 4, 1) := by decide +kernel
theorem dX7_lossIn_1 : decode cX7_lossIn 1 = .ok (.aload_n 0, 1) := by decide +kernel
theorem dX7_lossIn_2 : decode cX7_lossIn 2 = .ok (.getfield 29, 3) := by decide +kernel
theorem dX7_lossIn_5 : decode cX7_lossIn 5 = .ok (.iload_n 1, 1) := by decide +kernel
theorem dX7_lossIn_6 : decode cX7_lossIn 6 = .ok (.iaload, 1) := by decide +kernel
theorem dX7_lossIn_7 : decode cX7_lossIn 7 = .ok (.imul, 1) := by decide +kernel
theorem dX7_lossIn_8 : decode cX7_lossIn 8 = .ok (.aload_n 0, 1) := by decide +kernel
theorem dX7_lossIn_9 : decode cX7_lossIn 9 = .ok (.getfield 65, 3) := by decide +kernel
theorem dX7_lossIn_12 : decode cX7_lossIn 12 = .ok (.imul, 1) := by decide +kernel
theorem dX7_lossIn_13 : decode cX7_lossIn 13 = .ok (.ireturn, 1) := by decide +kernel
theorem dX8_init_0 : decode cX8_init 0 = .ok (.aload_n 0, 1) := by decide +kernel
theorem dX8_init_1 : decode cX8_init 1 = .ok (.invokespecial 3, 3) := by decide +kernel
theorem dX8_init_4 : decode cX8_init 4 = .ok (.aload_n 0, 1) := by decide +kernel
theorem dX8_init_5 : decode cX8_init 5 = .ok (.bipush (-9), 2) := by decide +kernel
theorem dX8_init_7 : decode cX8_init 7 = .ok (.putfield 9, 3) := by decide +kernel
theorem dX8_init_10 : decode cX8_init 10 = .ok (.return_, 1) := by decide +kernel
theorem dX8_finish_0 : decode cX8_finish 0 = .ok (.aload_n 0, 1) := by decide +kernel
theorem dX8_finish_1 : decode cX8_finish 1 = .ok (.dup, 1) := by decide +kernel
theorem dX8_finish_2 : decode cX8_finish 2 = .ok (.getfield 15, 3) := by decide +kernel
theorem dX8_finish_5 : decode cX8_finish 5 = .ok (.iconst 1, 1) := by decide +kernel
theorem dX8_finish_6 : decode cX8_finish 6 = .ok (.iadd, 1) := by decide +kernel
theorem dX8_finish_7 : decode cX8_finish 7 = .ok (.putfield 15, 3) := by decide +kernel
theorem dX8_finish_10 : decode cX8_finish 10 = .ok (.aload_n 0, 1) := by decide +kernel
theorem dX8_finish_11 : decode cX8_finish 11 = .ok (.dup, 1) := by decide +kernel
theorem dX8_finish_12 : decode cX8_finish 12 = .ok (.getfield 18, 3) := by decide +kernel
theorem dX8_finish_15 : decode cX8_finish 15 = .ok (.iload_n 2, 1) := by decide +kernel
theorem dX8_finish_16 : decode cX8_finish 16 = .ok (.ifCond .eq 7, 3) := by decide +kernel
theorem dX8_finish_19 : decode cX8_finish 19 = .ok (.iconst 1, 1) := by decide +kernel
theorem dX8_finish_20 : decode cX8_finish 20 = .ok (.goto 4, 3) := by decide +kernel
theorem dX8_finish_23 : decode cX8_finish 23 = .ok (.iconst 0, 1) := by decide +kernel
theorem dX8_finish_24 : decode cX8_finish 24 = .ok (.iadd, 1) := by decide +kernel
theorem dX8_finish_25 : decode cX8_finish 25 = .ok (.putfield 18, 3) := by decide +kernel
theorem dX8_finish_28 : decode cX8_finish 28 = .ok (.aload_n 0, 1) := by decide +kernel
theorem dX8_finish_29 : decode cX8_finish 29 = .ok (.aload_n 0, 1) := by decide +kernel
theorem dX8_finish_30 : decode cX8_finish 30 = .ok (.getfield 9, 3) := by decide +kernel
theorem dX8_finish_33 : decode cX8_finish 33 = .ok (.iload_n 1, 1) := by decide +kernel
theorem dX8_finish_34 : decode cX8_finish 34 = .ok (.invokestatic 21, 3) := by decide +kernel
theorem dX8_finish_37 : decode cX8_finish 37 = .ok (.putfield 9, 3) := by decide +kernel
theorem dX8_finish_40 : decode cX8_finish 40 = .ok (.aload_n 0, 1) := by decide +kernel
theorem dX8_finish_41 : decode cX8_finish 41 = .ok (.dup, 1) := by decide +kernel
theorem dX8_finish_42 : decode cX8_finish 42 = .ok (.getfield 27, 3) := by decide +kernel
theorem dX8_finish_45 : decode cX8_finish 45 = .ok (.iload_n 1, 1) := by decide +kernel
theorem dX8_finish_46 : decode cX8_finish 46 = .ok (.iadd, 1) := by decide +kernel
theorem dX8_finish_47 : decode cX8_finish 47 = .ok (.putfield 27, 3) := by decide +kernel
theorem dX8_finish_50 : decode cX8_finish 50 = .ok (.return_, 1) := by decide +kernel
theorem dX8_handOut_0 : decode cX8_handOut 0 = .ok (.aload_n 0, 1) := by decide +kernel
theorem dX8_handOut_1 : decode cX8_handOut 1 = .ok (.dup, 1) := by decide +kernel
theorem dX8_handOut_2 : decode cX8_handOut 2 = .ok (.getfield 30, 3) := by decide +kernel
theorem dX8_handOut_5 : decode cX8_handOut 5 = .ok (.iload_n 1, 1) := by decide +kernel
theorem dX8_handOut_6 : decode cX8_handOut 6 = .ok (.iadd, 1) := by decide +kernel
theorem dX8_handOut_7 : decode cX8_handOut 7 = .ok (.putfield 30, 3) := by decide +kernel
theorem dX8_handOut_10 : decode cX8_handOut 10 = .ok (.return_, 1) := by decide +kernel
theorem dX9_init_0 : decode cX9_init 0 = .ok (.aload_n 0, 1) := by decide +kernel
theorem dX9_init_1 : decode cX9_init 1 = .ok (.invokespecial 3, 3) := by decide +kernel
theorem dX9_init_4 : decode cX9_init 4 = .ok (.aload_n 0, 1) := by decide +kernel
theorem dX9_init_5 : decode cX9_init 5 = .ok (.sipush (-1000), 3) := by decide +kernel
theorem dX9_init_8 : decode cX9_init 8 = .ok (.putfield 9, 3) := by decide +kernel
theorem dX9_init_11 : decode cX9_init 11 = .ok (.return_, 1) := by decide +kernel
theorem dX9_clear_0 : decode cX9_clear 0 = .ok (.aload_n 0, 1) := by decide +kernel
theorem dX9_clear_1 : decode cX9_clear 1 = .ok (.iconst 0, 1) := by decide +kernel
theorem dX9_clear_2 : decode cX9_clear 2 = .ok (.putfield 15, 3) := by decide +kernel
theorem dX9_clear_5 : decode cX9_clear 5 = .ok (.aload_n 0, 1) := by decide +kernel
theorem dX9_clear_6 : decode cX9_clear 6 = .ok (.sipush 1000, 3) := by decide +kernel
theorem dX9_clear_9 : decode cX9_clear 9 = .ok (.putfield 18, 3) := by decide +kernel
theorem dX9_clear_12 : decode cX9_clear 12 = .ok (.aload_n 0, 1) := by decide +kernel
theorem dX9_clear_13 : decode cX9_clear 13 = .ok (.aconst_null, 1) := by decide +kernel
theorem dX9_clear_14 : decode cX9_clear 14 = .ok (.putfield 21, 3) := by decide +kernel
theorem dX9_clear_17 : decode cX9_clear 17 = .ok (.aload_n 0, 1) := by decide +kernel
theorem dX9_clear_18 : decode cX9_clear 18 = .ok (.iconst 0, 1) := by decide +kernel
theorem dX9_clear_19 : decode cX9_clear 19 = .ok (.putfield 25, 3) := by decide +kernel
theorem dX9_clear_22 : decode cX9_clear 22 = .ok (.return_, 1) := by decide +kernel
theorem dX9_carry_0 : decode cX9_carry 0 = .ok (.aload_n 0, 1) := by decide +kernel
theorem dX9_carry_1 : decode cX9_carry 1 = .ok (.dup, 1) := by decide +kernel
theorem dX9_carry_2 : decode cX9_carry 2 = .ok (.getfield 15, 3) := by decide +kernel
theorem dX9_carry_5 : decode cX9_carry 5 = .ok (.iconst 1, 1) := by decide +kernel
theorem dX9_carry_6 : decode cX9_carry 6 = .ok (.iadd, 1) := by decide +kernel
theorem dX9_carry_7 : decode cX9_carry 7 = .ok (.putfield 15, 3) := by decide +kernel
theorem dX9_carry_10 : decode cX9_carry 10 = .ok (.aload_n 0, 1) := by decide +kernel
theorem dX9_carry_11 : decode cX9_carry 11 = .ok (.aload_n 0, 1) := by decide +kernel
theorem dX9_carry_12 : decode cX9_carry 12 = .ok (.getfield 18, 3) := by decide +kernel
theorem dX9_carry_15 : decode cX9_carry 15 = .ok (.iload_n 1, 1) := by decide +kernel
theorem dX9_carry_16 : decode cX9_carry 16 = .ok (.invokestatic 28, 3) := by decide +kernel
theorem dX9_carry_19 : decode cX9_carry 19 = .ok (.putfield 18, 3) := by decide +kernel
theorem dX9_carry_22 : decode cX9_carry 22 = .ok (.return_, 1) := by decide +kernel
theorem dX9_offer_0 : decode cX9_offer 0 = .ok (.aload_n 0, 1) := by decide +kernel
theorem dX9_offer_1 : decode cX9_offer 1 = .ok (.getfield 21, 3) := by decide +kernel
theorem dX9_offer_4 : decode cX9_offer 4 = .ok (.ifnull 33, 3) := by decide +kernel
theorem dX9_offer_7 : decode cX9_offer 7 = .ok (.iload_n 2, 1) := by decide +kernel
theorem dX9_offer_8 : decode cX9_offer 8 = .ok (.aload_n 0, 1) := by decide +kernel
theorem dX9_offer_9 : decode cX9_offer 9 = .ok (.getfield 25, 3) := by decide +kernel
theorem dX9_offer_12 : decode cX9_offer 12 = .ok (.if_icmp .lt 25, 3) := by decide +kernel
theorem dX9_offer_15 : decode cX9_offer 15 = .ok (.iload_n 2, 1) := by decide +kernel
theorem dX9_offer_16 : decode cX9_offer 16 = .ok (.aload_n 0, 1) := by decide +kernel
theorem dX9_offer_17 : decode cX9_offer 17 = .ok (.getfield 25, 3) := by decide +kernel
theorem dX9_offer_20 : decode cX9_offer 20 = .ok (.if_icmp .ne 27, 3) := by decide +kernel
theorem dX9_offer_23 : decode cX9_offer 23 = .ok (.aload_n 1, 1) := by decide +kernel
theorem dX9_offer_24 : decode cX9_offer 24 = .ok (.getfield 34, 3) := by decide +kernel
theorem dX9_offer_27 : decode cX9_offer 27 = .ok (.aload_n 0, 1) := by decide +kernel
theorem dX9_offer_28 : decode cX9_offer 28 = .ok (.getfield 21, 3) := by decide +kernel
theorem dX9_offer_31 : decode cX9_offer 31 = .ok (.getfield 34, 3) := by decide +kernel
theorem dX9_offer_34 : decode cX9_offer 34 = .ok (.if_icmp .ge 13, 3) := by decide +kernel
theorem dX9_offer_37 : decode cX9_offer 37 = .ok (.aload_n 0, 1) := by decide +kernel
theorem dX9_offer_38 : decode cX9_offer 38 = .ok (.aload_n 1, 1) := by decide +kernel
theorem dX9_offer_39 : decode cX9_offer 39 = .ok (.putfield 21, 3) := by decide +kernel
theorem dX9_offer_42 : decode cX9_offer 42 = .ok (.aload_n 0, 1) := by decide +kernel
theorem dX9_offer_43 : decode cX9_offer 43 = .ok (.iload_n 2, 1) := by decide +kernel
theorem dX9_offer_44 : decode cX9_offer 44 = .ok (.putfield 25, 3) := by decide +kernel
theorem dX9_offer_47 : decode cX9_offer 47 = .ok (.return_, 1) := by decide +kernel
theorem dX10_init_0 : decode cX10_init 0 = .ok (.aload_n 0, 1) := by decide +kernel
theorem dX10_init_1 : decode cX10_init 1 = .ok (.invokespecial 1, 3) := by decide +kernel
theorem dX10_init_4 : decode cX10_init 4 = .ok (.aload_n 0, 1) := by decide +kernel
theorem dX10_init_5 : decode cX10_init 5 = .ok (.bipush 16, 2) := by decide +kernel
theorem dX10_init_7 : decode cX10_init 7 = .ok (.anewarray 9, 3) := by decide +kernel
theorem dX10_init_10 : decode cX10_init 10 = .ok (.putfield 11, 3) := by decide +kernel
theorem dX10_init_13 : decode cX10_init 13 = .ok (.aload_n 0, 1) := by decide +kernel
theorem dX10_init_14 : decode cX10_init 14 = .ok (.bipush 24, 2) := by decide +kernel
theorem dX10_init_16 : decode cX10_init 16 = .ok (.anewarray 15, 3) := by decide +kernel
theorem dX10_init_19 : decode cX10_init 19 = .ok (.putfield 17, 3) := by decide +kernel
theorem dX10_init_22 : decode cX10_init 22 = .ok (.aload_n 0, 1) := by decide +kernel
theorem dX10_init_23 : decode cX10_init 23 = .ok (.iconst 4, 1) := by decide +kernel
theorem dX10_init_24 : decode cX10_init 24 = .ok (.anewarray 21, 3) := by decide +kernel
theorem dX10_init_27 : decode cX10_init 27 = .ok (.putfield 23, 3) := by decide +kernel
theorem dX10_init_30 : decode cX10_init 30 = .ok (.aload_n 0, 1) := by decide +kernel
theorem dX10_init_31 : decode cX10_init 31 = .ok (.bipush 24, 2) := by decide +kernel
theorem dX10_init_33 : decode cX10_init 33 = .ok (.anewarray 15, 3) := by decide +kernel
theorem dX10_init_36 : decode cX10_init 36 = .ok (.putfield 27, 3) := by decide +kernel
theorem dX10_init_39 : decode cX10_init 39 = .ok (.aload_n 0, 1) := by decide +kernel
theorem dX10_init_40 : decode cX10_init 40 = .ok (.new 30, 3) := by decide +kernel
theorem dX10_init_43 : decode cX10_init 43 = .ok (.dup, 1) := by decide +kernel
theorem dX10_init_44 : decode cX10_init 44 = .ok (.invokespecial 32, 3) := by decide +kernel
theorem dX10_init_47 : decode cX10_init 47 = .ok (.putfield 33, 3) := by decide +kernel
theorem dX10_init_50 : decode cX10_init 50 = .ok (.aload_n 0, 1) := by decide +kernel
theorem dX10_init_51 : decode cX10_init 51 = .ok (.new 37, 3) := by decide +kernel
theorem dX10_init_54 : decode cX10_init 54 = .ok (.dup, 1) := by decide +kernel
theorem dX10_init_55 : decode cX10_init 55 = .ok (.invokespecial 39, 3) := by decide +kernel
theorem dX10_init_58 : decode cX10_init 58 = .ok (.putfield 40, 3) := by decide +kernel
theorem dX10_init_61 : decode cX10_init 61 = .ok (.aload_n 0, 1) := by decide +kernel
theorem dX10_init_62 : decode cX10_init 62 = .ok (.new 44, 3) := by decide +kernel
theorem dX10_init_65 : decode cX10_init 65 = .ok (.dup, 1) := by decide +kernel
theorem dX10_init_66 : decode cX10_init 66 = .ok (.invokespecial 46, 3) := by decide +kernel
theorem dX10_init_69 : decode cX10_init 69 = .ok (.putfield 47, 3) := by decide +kernel
theorem dX10_init_72 : decode cX10_init 72 = .ok (.aload_n 0, 1) := by decide +kernel
theorem dX10_init_73 : decode cX10_init 73 = .ok (.new 51, 3) := by decide +kernel
theorem dX10_init_76 : decode cX10_init 76 = .ok (.dup, 1) := by decide +kernel
theorem dX10_init_77 : decode cX10_init 77 = .ok (.invokespecial 53, 3) := by decide +kernel
theorem dX10_init_80 : decode cX10_init 80 = .ok (.putfield 54, 3) := by decide +kernel
theorem dX10_init_83 : decode cX10_init 83 = .ok (.aload_n 0, 1) := by decide +kernel
theorem dX10_init_84 : decode cX10_init 84 = .ok (.new 58, 3) := by decide +kernel
theorem dX10_init_87 : decode cX10_init 87 = .ok (.dup, 1) := by decide +kernel
theorem dX10_init_88 : decode cX10_init 88 = .ok (.invokespecial 60, 3) := by decide +kernel
theorem dX10_init_91 : decode cX10_init 91 = .ok (.putfield 61, 3) := by decide +kernel
theorem dX10_init_94 : decode cX10_init 94 = .ok (.aload_n 0, 1) := by decide +kernel
theorem dX10_init_95 : decode cX10_init 95 = .ok (.new 9, 3) := by decide +kernel
theorem dX10_init_98 : decode cX10_init 98 = .ok (.dup, 1) := by decide +kernel
theorem dX10_init_99 : decode cX10_init 99 = .ok (.iconst 0, 1) := by decide +kernel
theorem dX10_init_100 : decode cX10_init 100 = .ok (.aconst_null, 1) := by decide +kernel
theorem dX10_init_101 : decode cX10_init 101 = .ok (.iconst 0, 1) := by decide +kernel
theorem dX10_init_102 : decode cX10_init 102 = .ok (.invokespecial 65, 3) := by decide +kernel
theorem dX10_init_105 : decode cX10_init 105 = .ok (.putfield 68, 3) := by decide +kernel
theorem dX10_init_108 : decode cX10_init 108 = .ok (.aload_n 0, 1) := by decide +kernel
theorem dX10_init_109 : decode cX10_init 109 = .ok (.getfield 11, 3) := by decide +kernel
theorem dX10_init_112 : decode cX10_init 112 = .ok (.iconst 0, 1) := by decide +kernel
theorem dX10_init_113 : decode cX10_init 113 = .ok (.aload_n 0, 1) := by decide +kernel
theorem dX10_init_114 : decode cX10_init 114 = .ok (.getfield 68, 3) := by decide +kernel
theorem dX10_init_117 : decode cX10_init 117 = .ok (.aastore, 1) := by decide +kernel
theorem dX10_init_118 : decode cX10_init 118 = .ok (.aload_n 0, 1) := by decide +kernel
theorem dX10_init_119 : decode cX10_init 119 = .ok (.iconst 1, 1) := by decide +kernel
theorem dX10_init_120 : decode cX10_init 120 = .ok (.putfield 72, 3) := by decide +kernel
theorem dX10_init_123 : decode cX10_init 123 = .ok (.return_, 1) := by decide +kernel
theorem dX10_post_0 : decode cX10_post 0 = .ok (.aload_n 0, 1) := by decide +kernel
theorem dX10_post_1 : decode cX10_post 1 = .ok (.iload_n 1, 1) := by decide +kernel
theorem dX10_post_2 : decode cX10_post 2 = .ok (.invokevirtual 76, 3) := by decide +kernel
theorem dX10_post_5 : decode cX10_post 5 = .ok (.astore 6, 2) := by decide +kernel
theorem dX10_post_7 : decode cX10_post 7 = .ok (.aload 6, 2) := by decide +kernel
theorem dX10_post_9 : decode cX10_post 9 = .ok (.ifnonnull 5, 3) := by decide +kernel
theorem dX10_post_12 : decode cX10_post 12 = .ok (.iconst (-1), 1) := by decide +kernel
theorem dX10_post_13 : decode cX10_post 13 = .ok (.ireturn, 1) := by decide +kernel
theorem dX10_post_14 : decode cX10_post 14 = .ok (.iload_n 3, 1) := by decide +kernel
theorem dX10_post_15 : decode cX10_post 15 = .ok (.iconst 1, 1) := by decide +kernel
theorem dX10_post_16 : decode cX10_post 16 = .ok (.bipush 20, 2) := by decide +kernel
theorem dX10_post_18 : decode cX10_post 18 = .ok (.invokestatic 80, 3) := by decide +kernel
theorem dX10_post_21 : decode cX10_post 21 = .ok (.ifCond .eq 14, 3) := by decide +kernel
theorem dX10_post_24 : decode cX10_post 24 = .ok (.iload 4, 2) := by decide +kernel
theorem dX10_post_26 : decode cX10_post 26 = .ok (.iconst 1, 1) := by decide +kernel
theorem dX10_post_27 : decode cX10_post 27 = .ok (.bipush 10, 2) := by decide +kernel
theorem dX10_post_29 : decode cX10_post 29 = .ok (.invokestatic 80, 3) := by decide +kernel
theorem dX10_post_32 : decode cX10_post 32 = .ok (.ifCond .ne 6, 3) := by decide +kernel
theorem dX10_post_35 : decode cX10_post 35 = .ok (.bipush (-2), 2) := by decide +kernel
theorem dX10_post_37 : decode cX10_post 37 = .ok (.ireturn, 1) := by decide +kernel
theorem dX10_post_38 : decode cX10_post 38 = .ok (.aload 6, 2) := by decide +kernel
theorem dX10_post_40 : decode cX10_post 40 = .ok (.getfield 84, 3) := by decide +kernel
theorem dX10_post_43 : decode cX10_post 43 = .ok (.iconst 2, 1) := by decide +kernel
theorem dX10_post_44 : decode cX10_post 44 = .ok (.if_icmp .ne 6, 3) := by decide +kernel
theorem dX10_post_47 : decode cX10_post 47 = .ok (.bipush (-3), 2) := by decide +kernel
theorem dX10_post_49 : decode cX10_post 49 = .ok (.ireturn, 1) := by decide +kernel
theorem dX10_post_50 : decode cX10_post 50 = .ok (.aload_n 0, 1) := by decide +kernel
theorem dX10_post_51 : decode cX10_post 51 = .ok (.getfield 72, 3) := by decide +kernel
theorem dX10_post_54 : decode cX10_post 54 = .ok (.bipush 16, 2) := by decide +kernel
theorem dX10_post_56 : decode cX10_post 56 = .ok (.if_icmp .lt 6, 3) := by decide +kernel
theorem dX10_post_59 : decode cX10_post 59 = .ok (.bipush (-4), 2) := by decide +kernel
theorem dX10_post_61 : decode cX10_post 61 = .ok (.ireturn, 1) := by decide +kernel
theorem dX10_post_62 : decode cX10_post 62 = .ok (.new 9, 3) := by decide +kernel
theorem dX10_post_65 : decode cX10_post 65 = .ok (.dup, 1) := by decide +kernel
theorem dX10_post_66 : decode cX10_post 66 = .ok (.aload_n 0, 1) := by decide +kernel
theorem dX10_post_67 : decode cX10_post 67 = .ok (.getfield 72, 3) := by decide +kernel
theorem dX10_post_70 : decode cX10_post 70 = .ok (.aload 6, 2) := by decide +kernel
theorem dX10_post_72 : decode cX10_post 72 = .ok (.iload_n 2, 1) := by decide +kernel
theorem dX10_post_73 : decode cX10_post 73 = .ok (.ifCond .eq 7, 3) := by decide +kernel
theorem dX10_post_76 : decode cX10_post 76 = .ok (.iconst 2, 1) := by decide +kernel
theorem dX10_post_77 : decode cX10_post 77 = .ok (.goto 4, 3) := by decide +kernel
theorem dX10_post_80 : decode cX10_post 80 = .ok (.iconst 1, 1) := by decide +kernel
theorem dX10_post_81 : decode cX10_post 81 = .ok (.invokespecial 65, 3) := by decide +kernel
theorem dX10_post_84 : decode cX10_post 84 = .ok (.astore 7, 2) := by decide +kernel
theorem dX10_post_86 : decode cX10_post 86 = .ok (.aload 7, 2) := by decide +kernel
theorem dX10_post_88 : decode cX10_post 88 = .ok (.iload_n 3, 1) := by decide +kernel
theorem dX10_post_89 : decode cX10_post 89 = .ok (.putfield 87, 3) := by decide +kernel
theorem dX10_post_92 : decode cX10_post 92 = .ok (.aload 7, 2) := by decide +kernel
theorem dX10_post_94 : decode cX10_post 94 = .ok (.iload 4, 2) := by decide +kernel
theorem dX10_post_96 : decode cX10_post 96 = .ok (.putfield 90, 3) := by decide +kernel
theorem dX10_post_99 : decode cX10_post 99 = .ok (.aload 7, 2) := by decide +kernel
theorem dX10_post_101 : decode cX10_post 101 = .ok (.iload 5, 2) := by decide +kernel
theorem dX10_post_103 : decode cX10_post 103 = .ok (.putfield 93, 3) := by decide +kernel
theorem dX10_post_106 : decode cX10_post 106 = .ok (.aload_n 0, 1) := by decide +kernel
theorem dX10_post_107 : decode cX10_post 107 = .ok (.getfield 11, 3) := by decide +kernel
theorem dX10_post_110 : decode cX10_post 110 = .ok (.aload_n 0, 1) := by decide +kernel
theorem dX10_post_111 : decode cX10_post 111 = .ok (.getfield 72, 3) := by decide +kernel
theorem dX10_post_114 : decode cX10_post 114 = .ok (.aload 7, 2) := by decide +kernel
theorem dX10_post_116 : decode cX10_post 116 = .ok (.aastore, 1) := by decide +kernel
theorem dX10_post_117 : decode cX10_post 117 = .ok (.aload_n 0, 1) := by decide +kernel
theorem dX10_post_118 : decode cX10_post 118 = .ok (.dup, 1) := by decide +kernel
theorem dX10_post_119 : decode cX10_post 119 = .ok (.getfield 72, 3) := by decide +kernel
theorem dX10_post_122 : decode cX10_post 122 = .ok (.iconst 1, 1) := by decide +kernel
theorem dX10_post_123 : decode cX10_post 123 = .ok (.iadd, 1) := by decide +kernel
theorem dX10_post_124 : decode cX10_post 124 = .ok (.putfield 72, 3) := by decide +kernel
theorem dX10_post_127 : decode cX10_post 127 = .ok (.aload 7, 2) := by decide +kernel
theorem dX10_post_129 : decode cX10_post 129 = .ok (.getfield 97, 3) := by decide +kernel
theorem dX10_post_132 : decode cX10_post 132 = .ok (.ireturn, 1) := by decide +kernel
theorem dX10_joint_0 : decode cX10_joint 0 = .ok (.aload_n 0, 1) := by decide +kernel
theorem dX10_joint_1 : decode cX10_joint 1 = .ok (.iload_n 1, 1) := by decide +kernel
theorem dX10_joint_2 : decode cX10_joint 2 = .ok (.invokevirtual 76, 3) := by decide +kernel
theorem dX10_joint_5 : decode cX10_joint 5 = .ok (.astore 4, 2) := by decide +kernel
theorem dX10_joint_7 : decode cX10_joint 7 = .ok (.aload 4, 2) := by decide +kernel
theorem dX10_joint_9 : decode cX10_joint 9 = .ok (.ifnonnull 5, 3) := by decide +kernel
theorem dX10_joint_12 : decode cX10_joint 12 = .ok (.iconst (-1), 1) := by decide +kernel
theorem dX10_joint_13 : decode cX10_joint 13 = .ok (.ireturn, 1) := by decide +kernel
theorem dX10_joint_14 : decode cX10_joint 14 = .ok (.aload 4, 2) := by decide +kernel
theorem dX10_joint_16 : decode cX10_joint 16 = .ok (.getfield 84, 3) := by decide +kernel
theorem dX10_joint_19 : decode cX10_joint 19 = .ok (.iconst 1, 1) := by decide +kernel
theorem dX10_joint_20 : decode cX10_joint 20 = .ok (.if_icmp .eq 6, 3) := by decide +kernel
theorem dX10_joint_23 : decode cX10_joint 23 = .ok (.bipush (-3), 2) := by decide +kernel
theorem dX10_joint_25 : decode cX10_joint 25 = .ok (.ireturn, 1) := by decide +kernel
theorem dX10_joint_26 : decode cX10_joint 26 = .ok (.iload_n 2, 1) := by decide +kernel
theorem dX10_joint_27 : decode cX10_joint 27 = .ok (.iload_n 3, 1) := by decide +kernel
theorem dX10_joint_28 : decode cX10_joint 28 = .ok (.invokestatic 100, 3) := by decide +kernel
theorem dX10_joint_31 : decode cX10_joint 31 = .ok (.ifCond .ne 6, 3) := by decide +kernel
theorem dX10_joint_34 : decode cX10_joint 34 = .ok (.bipush (-2), 2) := by decide +kernel
theorem dX10_joint_36 : decode cX10_joint 36 = .ok (.ireturn, 1) := by decide +kernel
theorem dX10_joint_37 : decode cX10_joint 37 = .ok (.iload_n 2, 1) := by decide +kernel
theorem dX10_joint_38 : decode cX10_joint 38 = .ok (.ifCond .ne 19, 3) := by decide +kernel
theorem dX10_joint_41 : decode cX10_joint 41 = .ok (.aload 4, 2) := by decide +kernel
theorem dX10_joint_43 : decode cX10_joint 43 = .ok (.getfield 104, 3) := by decide +kernel
theorem dX10_joint_46 : decode cX10_joint 46 = .ok (.istore 5, 2) := by decide +kernel
theorem dX10_joint_48 : decode cX10_joint 48 = .ok (.aload 4, 2) := by decide +kernel
theorem dX10_joint_50 : decode cX10_joint 50 = .ok (.iload_n 3, 1) := by decide +kernel
theorem dX10_joint_51 : decode cX10_joint 51 = .ok (.putfield 104, 3) := by decide +kernel
theorem dX10_joint_54 : decode cX10_joint 54 = .ok (.goto 54, 3) := by decide +kernel
theorem dX10_joint_57 : decode cX10_joint 57 = .ok (.iload_n 2, 1) := by decide +kernel
theorem dX10_joint_58 : decode cX10_joint 58 = .ok (.iconst 1, 1) := by decide +kernel
theorem dX10_joint_59 : decode cX10_joint 59 = .ok (.if_icmp .ne 19, 3) := by decide +kernel
theorem dX10_joint_62 : decode cX10_joint 62 = .ok (.aload 4, 2) := by decide +kernel
theorem dX10_joint_64 : decode cX10_joint 64 = .ok (.getfield 107, 3) := by decide +kernel
theorem dX10_joint_67 : decode cX10_joint 67 = .ok (.istore 5, 2) := by decide +kernel
theorem dX10_joint_69 : decode cX10_joint 69 = .ok (.aload 4, 2) := by decide +kernel
theorem dX10_joint_71 : decode cX10_joint 71 = .ok (.iload_n 3, 1) := by decide +kernel
theorem dX10_joint_72 : decode cX10_joint 72 = .ok (.invokevirtual 110, 3) := by decide +kernel
theorem dX10_joint_75 : decode cX10_joint 75 = .ok (.goto 33, 3) := by decide +kernel
theorem dX10_joint_78 : decode cX10_joint 78 = .ok (.aload 4, 2) := by decide +kernel
theorem dX10_joint_80 : decode cX10_joint 80 = .ok (.getfield 114, 3) := by decide +kernel
theorem dX10_joint_83 : decode cX10_joint 83 = .ok (.ifCond .eq 7, 3) := by decide +kernel
theorem dX10_joint_86 : decode cX10_joint 86 = .ok (.iconst 1, 1) := by decide +kernel
theorem dX10_joint_87 : decode cX10_joint 87 = .ok (.goto 4, 3) := by decide +kernel
theorem dX10_joint_90 : decode cX10_joint 90 = .ok (.iconst 0, 1) := by decide +kernel
theorem dX10_joint_91 : decode cX10_joint 91 = .ok (.istore 5, 2) := by decide +kernel
theorem dX10_joint_93 : decode cX10_joint 93 = .ok (.aload 4, 2) := by decide +kernel
theorem dX10_joint_95 : decode cX10_joint 95 = .ok (.iload_n 3, 1) := by decide +kernel
theorem dX10_joint_96 : decode cX10_joint 96 = .ok (.iconst 1, 1) := by decide +kernel
theorem dX10_joint_97 : decode cX10_joint 97 = .ok (.if_icmp .ne 7, 3) := by decide +kernel
theorem dX10_joint_100 : decode cX10_joint 100 = .ok (.iconst 1, 1) := by decide +kernel
theorem dX10_joint_101 : decode cX10_joint 101 = .ok (.goto 4, 3) := by decide +kernel
theorem dX10_joint_104 : decode cX10_joint 104 = .ok (.iconst 0, 1) := by decide +kernel
theorem dX10_joint_105 : decode cX10_joint 105 = .ok (.putfield 114, 3) := by decide +kernel
theorem dX10_joint_108 : decode cX10_joint 108 = .ok (.iload 5, 2) := by decide +kernel
theorem dX10_joint_110 : decode cX10_joint 110 = .ok (.ireturn, 1) := by decide +kernel
theorem dX10_fitsJoint_0 : decode cX10_fitsJoint 0 = .ok (.iload_n 0, 1) := by decide +kernel
theorem dX10_fitsJoint_1 : decode cX10_fitsJoint 1 = .ok (.tableswitch 61 0 2 #[27, 34, 54], 27) := by decide +kernel
theorem dX10_fitsJoint_28 : decode cX10_fitsJoint 28 = .ok (.iload_n 1, 1) := by decide +kernel
theorem dX10_fitsJoint_29 : decode cX10_fitsJoint 29 = .ok (.iconst 0, 1) := by decide +kernel
theorem dX10_fitsJoint_30 : decode cX10_fitsJoint 30 = .ok (.iconst 2, 1) := by decide +kernel
theorem dX10_fitsJoint_31 : decode cX10_fitsJoint 31 = .ok (.invokestatic 80, 3) := by decide +kernel
theorem dX10_fitsJoint_34 : decode cX10_fitsJoint 34 = .ok (.ireturn, 1) := by decide +kernel
theorem dX10_fitsJoint_35 : decode cX10_fitsJoint 35 = .ok (.iload_n 1, 1) := by decide +kernel
theorem dX10_fitsJoint_36 : decode cX10_fitsJoint 36 = .ok (.ifCond .eq 13, 3) := by decide +kernel
theorem dX10_fitsJoint_39 : decode cX10_fitsJoint 39 = .ok (.iload_n 1, 1) := by decide +kernel
theorem dX10_fitsJoint_40 : decode cX10_fitsJoint 40 = .ok (.iconst 2, 1) := by decide +kernel
theorem dX10_fitsJoint_41 : decode cX10_fitsJoint 41 = .ok (.bipush 9, 2) := by decide +kernel
theorem dX10_fitsJoint_43 : decode cX10_fitsJoint 43 = .ok (.invokestatic 80, 3) := by decide +kernel
theorem dX10_fitsJoint_46 : decode cX10_fitsJoint 46 = .ok (.ifCond .eq 7, 3) := by decide +kernel
theorem dX10_fitsJoint_49 : decode cX10_fitsJoint 49 = .ok (.iconst 1, 1) := by decide +kernel
theorem dX10_fitsJoint_50 : decode cX10_fitsJoint 50 = .ok (.goto 4, 3) := by decide +kernel
theorem dX10_fitsJoint_53 : decode cX10_fitsJoint 53 = .ok (.iconst 0, 1) := by decide +kernel
theorem dX10_fitsJoint_54 : decode cX10_fitsJoint 54 = .ok (.ireturn, 1) := by decide +kernel
theorem dX10_fitsJoint_55 : decode cX10_fitsJoint 55 = .ok (.iload_n 1, 1) := by decide +kernel
theorem dX10_fitsJoint_56 : decode cX10_fitsJoint 56 = .ok (.iconst 0, 1) := by decide +kernel
theorem dX10_fitsJoint_57 : decode cX10_fitsJoint 57 = .ok (.iconst 1, 1) := by decide +kernel
theorem dX10_fitsJoint_58 : decode cX10_fitsJoint 58 = .ok (.invokestatic 80, 3) := by decide +kernel
theorem dX10_fitsJoint_61 : decode cX10_fitsJoint 61 = .ok (.ireturn, 1) := by decide +kernel
theorem dX10_fitsJoint_62 : decode cX10_fitsJoint 62 = .ok (.iconst 0, 1) := by decide +kernel
theorem dX10_fitsJoint_63 : decode cX10_fitsJoint 63 = .ok (.ireturn, 1) := by decide +kernel
theorem dX10_about_0 : decode cX10_about 0 = .ok (.aload_n 0, 1) := by decide +kernel
theorem dX10_about_1 : decode cX10_about 1 = .ok (.iload_n 1, 1) := by decide +kernel
theorem dX10_about_2 : decode cX10_about 2 = .ok (.invokevirtual 76, 3) := by decide +kernel
theorem dX10_about_5 : decode cX10_about 5 = .ok (.astore_n 3, 1) := by decide +kernel
theorem dX10_about_6 : decode cX10_about 6 = .ok (.aload_n 3, 1) := by decide +kernel
theorem dX10_about_7 : decode cX10_about 7 = .ok (.ifnonnull 5, 3) := by decide +kernel
theorem dX10_about_10 : decode cX10_about 10 = .ok (.iconst (-1), 1) := by decide +kernel
theorem dX10_about_11 : decode cX10_about 11 = .ok (.ireturn, 1) := by decide +kernel
theorem dX10_about_12 : decode cX10_about 12 = .ok (.iload_n 2, 1) := by decide +kernel
theorem dX10_about_13 : decode cX10_about 13 = .ok (.iconst 0, 1) := by decide +kernel
theorem dX10_about_14 : decode cX10_about 14 = .ok (.iconst 5, 1) := by decide +kernel
theorem dX10_about_15 : decode cX10_about 15 = .ok (.invokestatic 80, 3) := by decide +kernel
theorem dX10_about_18 : decode cX10_about 18 = .ok (.ifCond .ne 6, 3) := by decide +kernel
theorem dX10_about_21 : decode cX10_about 21 = .ok (.bipush (-2), 2) := by decide +kernel
theorem dX10_about_23 : decode cX10_about 23 = .ok (.ireturn, 1) := by decide +kernel
theorem dX10_about_24 : decode cX10_about 24 = .ok (.iload_n 2, 1) := by decide +kernel
theorem dX10_about_25 : decode cX10_about 25 = .ok (.iconst 1, 1) := by decide +kernel
theorem dX10_about_26 : decode cX10_about 26 = .ok (.if_icmp .ne 8, 3) := by decide +kernel
theorem dX10_about_29 : decode cX10_about 29 = .ok (.aload_n 3, 1) := by decide +kernel
theorem dX10_about_30 : decode cX10_about 30 = .ok (.getfield 84, 3) := by decide +kernel
theorem dX10_about_33 : decode cX10_about 33 = .ok (.ireturn, 1) := by decide +kernel
theorem dX10_about_34 : decode cX10_about 34 = .ok (.aload_n 3, 1) := by decide +kernel
theorem dX10_about_35 : decode cX10_about 35 = .ok (.getfield 117, 3) := by decide +kernel
theorem dX10_about_38 : decode cX10_about 38 = .ok (.ifnonnull 6, 3) := by decide +kernel
theorem dX10_about_41 : decode cX10_about 41 = .ok (.bipush (-9), 2) := by decide +kernel
theorem dX10_about_43 : decode cX10_about 43 = .ok (.ireturn, 1) := by decide +kernel
theorem dX10_about_44 : decode cX10_about 44 = .ok (.iload_n 2, 1) := by decide +kernel
theorem dX10_about_45 : decode cX10_about 45 = .ok (.tableswitch 66 0 4 #[35, 66, 43, 48, 53], 35) := by decide +kernel
theorem dX10_about_80 : decode cX10_about 80 = .ok (.aload_n 3, 1) := by decide +kernel
theorem dX10_about_81 : decode cX10_about 81 = .ok (.getfield 117, 3) := by decide +kernel
theorem dX10_about_84 : decode cX10_about 84 = .ok (.getfield 97, 3) := by decide +kernel
theorem dX10_about_87 : decode cX10_about 87 = .ok (.ireturn, 1) := by decide +kernel
theorem dX10_about_88 : decode cX10_about 88 = .ok (.aload_n 3, 1) := by decide +kernel
theorem dX10_about_89 : decode cX10_about 89 = .ok (.getfield 87, 3) := by decide +kernel
theorem dX10_about_92 : decode cX10_about 92 = .ok (.ireturn, 1) := by decide +kernel
theorem dX10_about_93 : decode cX10_about 93 = .ok (.aload_n 3, 1) := by decide +kernel
theorem dX10_about_94 : decode cX10_about 94 = .ok (.getfield 90, 3) := by decide +kernel
theorem dX10_about_97 : decode cX10_about 97 = .ok (.ireturn, 1) := by decide +kernel
theorem dX10_about_98 : decode cX10_about 98 = .ok (.aload_n 3, 1) := by decide +kernel
theorem dX10_about_99 : decode cX10_about 99 = .ok (.getfield 93, 3) := by decide +kernel
theorem dX10_about_102 : decode cX10_about 102 = .ok (.ifCond .eq 7, 3) := by decide +kernel
theorem dX10_about_105 : decode cX10_about 105 = .ok (.iconst 1, 1) := by decide +kernel
theorem dX10_about_106 : decode cX10_about 106 = .ok (.goto 4, 3) := by decide +kernel
theorem dX10_about_109 : decode cX10_about 109 = .ok (.iconst 0, 1) := by decide +kernel
theorem dX10_about_110 : decode cX10_about 110 = .ok (.ireturn, 1) := by decide +kernel
theorem dX10_about_111 : decode cX10_about 111 = .ok (.aload_n 3, 1) := by decide +kernel
theorem dX10_about_112 : decode cX10_about 112 = .ok (.getfield 120, 3) := by decide +kernel
theorem dX10_about_115 : decode cX10_about 115 = .ok (.ifCond .eq 7, 3) := by decide +kernel
theorem dX10_about_118 : decode cX10_about 118 = .ok (.iconst 1, 1) := by decide +kernel
theorem dX10_about_119 : decode cX10_about 119 = .ok (.goto 4, 3) := by decide +kernel
theorem dX10_about_122 : decode cX10_about 122 = .ok (.iconst 0, 1) := by decide +kernel
theorem dX10_about_123 : decode cX10_about 123 = .ok (.ireturn, 1) := by decide +kernel
theorem dX10_cord_0 : decode cX10_cord 0 = .ok (.aload_n 0, 1) := by decide +kernel
theorem dX10_cord_1 : decode cX10_cord 1 = .ok (.iload_n 1, 1) := by decide +kernel
theorem dX10_cord_2 : decode cX10_cord 2 = .ok (.invokevirtual 123, 3) := by decide +kernel
theorem dX10_cord_5 : decode cX10_cord 5 = .ok (.astore_n 3, 1) := by decide +kernel
theorem dX10_cord_6 : decode cX10_cord 6 = .ok (.aload_n 3, 1) := by decide +kernel
theorem dX10_cord_7 : decode cX10_cord 7 = .ok (.ifnonnull 5, 3) := by decide +kernel
theorem dX10_cord_10 : decode cX10_cord 10 = .ok (.iconst (-1), 1) := by decide +kernel
theorem dX10_cord_11 : decode cX10_cord 11 = .ok (.ireturn, 1) := by decide +kernel
theorem dX10_cord_12 : decode cX10_cord 12 = .ok (.aload_n 3, 1) := by decide +kernel
theorem dX10_cord_13 : decode cX10_cord 13 = .ok (.getfield 120, 3) := by decide +kernel
theorem dX10_cord_16 : decode cX10_cord 16 = .ok (.ifCond .eq 7, 3) := by decide +kernel
theorem dX10_cord_19 : decode cX10_cord 19 = .ok (.iconst 1, 1) := by decide +kernel
theorem dX10_cord_20 : decode cX10_cord 20 = .ok (.goto 4, 3) := by decide +kernel
theorem dX10_cord_23 : decode cX10_cord 23 = .ok (.iconst 0, 1) := by decide +kernel
theorem dX10_cord_24 : decode cX10_cord 24 = .ok (.istore 4, 2) := by decide +kernel
theorem dX10_cord_26 : decode cX10_cord 26 = .ok (.aload_n 3, 1) := by decide +kernel
theorem dX10_cord_27 : decode cX10_cord 27 = .ok (.iload_n 2, 1) := by decide +kernel
theorem dX10_cord_28 : decode cX10_cord 28 = .ok (.putfield 120, 3) := by decide +kernel
theorem dX10_cord_31 : decode cX10_cord 31 = .ok (.iload 4, 2) := by decide +kernel
theorem dX10_cord_33 : decode cX10_cord 33 = .ok (.ireturn, 1) := by decide +kernel
theorem dX10_cup_0 : decode cX10_cup 0 = .ok (.aload_n 0, 1) := by decide +kernel
theorem dX10_cup_1 : decode cX10_cup 1 = .ok (.iload_n 1, 1) := by decide +kernel
theorem dX10_cup_2 : decode cX10_cup 2 = .ok (.invokevirtual 76, 3) := by decide +kernel
theorem dX10_cup_5 : decode cX10_cup 5 = .ok (.astore_n 2, 1) := by decide +kernel
theorem dX10_cup_6 : decode cX10_cup 6 = .ok (.aload_n 2, 1) := by decide +kernel
theorem dX10_cup_7 : decode cX10_cup 7 = .ok (.ifnonnull 5, 3) := by decide +kernel
theorem dX10_cup_10 : decode cX10_cup 10 = .ok (.iconst (-1), 1) := by decide +kernel
theorem dX10_cup_11 : decode cX10_cup 11 = .ok (.ireturn, 1) := by decide +kernel
theorem dX10_cup_12 : decode cX10_cup 12 = .ok (.aload_n 2, 1) := by decide +kernel
theorem dX10_cup_13 : decode cX10_cup 13 = .ok (.getfield 84, 3) := by decide +kernel
theorem dX10_cup_16 : decode cX10_cup 16 = .ok (.iconst 2, 1) := by decide +kernel
theorem dX10_cup_17 : decode cX10_cup 17 = .ok (.if_icmp .eq 6, 3) := by decide +kernel
theorem dX10_cup_20 : decode cX10_cup 20 = .ok (.bipush (-3), 2) := by decide +kernel
theorem dX10_cup_22 : decode cX10_cup 22 = .ok (.ireturn, 1) := by decide +kernel
theorem dX10_cup_23 : decode cX10_cup 23 = .ok (.aload_n 0, 1) := by decide +kernel
theorem dX10_cup_24 : decode cX10_cup 24 = .ok (.getfield 126, 3) := by decide +kernel
theorem dX10_cup_27 : decode cX10_cup 27 = .ok (.bipush 24, 2) := by decide +kernel
theorem dX10_cup_29 : decode cX10_cup 29 = .ok (.if_icmp .lt 6, 3) := by decide +kernel
theorem dX10_cup_32 : decode cX10_cup 32 = .ok (.bipush (-4), 2) := by decide +kernel
theorem dX10_cup_34 : decode cX10_cup 34 = .ok (.ireturn, 1) := by decide +kernel
theorem dX10_cup_35 : decode cX10_cup 35 = .ok (.new 15, 3) := by decide +kernel
theorem dX10_cup_38 : decode cX10_cup 38 = .ok (.dup, 1) := by decide +kernel
theorem dX10_cup_39 : decode cX10_cup 39 = .ok (.aload_n 0, 1) := by decide +kernel
theorem dX10_cup_40 : decode cX10_cup 40 = .ok (.getfield 126, 3) := by decide +kernel
theorem dX10_cup_43 : decode cX10_cup 43 = .ok (.aload_n 2, 1) := by decide +kernel
theorem dX10_cup_44 : decode cX10_cup 44 = .ok (.invokespecial 129, 3) := by decide +kernel
theorem dX10_cup_47 : decode cX10_cup 47 = .ok (.astore_n 3, 1) := by decide +kernel
theorem dX10_cup_48 : decode cX10_cup 48 = .ok (.aload_n 0, 1) := by decide +kernel
theorem dX10_cup_49 : decode cX10_cup 49 = .ok (.getfield 17, 3) := by decide +kernel
theorem dX10_cup_52 : decode cX10_cup 52 = .ok (.aload_n 0, 1) := by decide +kernel
theorem dX10_cup_53 : decode cX10_cup 53 = .ok (.getfield 126, 3) := by decide +kernel
theorem dX10_cup_56 : decode cX10_cup 56 = .ok (.aload_n 3, 1) := by decide +kernel
theorem dX10_cup_57 : decode cX10_cup 57 = .ok (.aastore, 1) := by decide +kernel
theorem dX10_cup_58 : decode cX10_cup 58 = .ok (.aload_n 0, 1) := by decide +kernel
theorem dX10_cup_59 : decode cX10_cup 59 = .ok (.dup, 1) := by decide +kernel
theorem dX10_cup_60 : decode cX10_cup 60 = .ok (.getfield 126, 3) := by decide +kernel
theorem dX10_cup_63 : decode cX10_cup 63 = .ok (.iconst 1, 1) := by decide +kernel
theorem dX10_cup_64 : decode cX10_cup 64 = .ok (.iadd, 1) := by decide +kernel
theorem dX10_cup_65 : decode cX10_cup 65 = .ok (.putfield 126, 3) := by decide +kernel
theorem dX10_cup_68 : decode cX10_cup 68 = .ok (.aload_n 3, 1) := by decide +kernel
theorem dX10_cup_69 : decode cX10_cup 69 = .ok (.getfield 132, 3) := by decide +kernel
theorem dX10_cup_72 : decode cX10_cup 72 = .ok (.ireturn, 1) := by decide +kernel
theorem dX10_clerk_0 : decode cX10_clerk 0 = .ok (.iload_n 1, 1) := by decide +kernel
theorem dX10_clerk_1 : decode cX10_clerk 1 = .ok (.iconst 1, 1) := by decide +kernel
theorem dX10_clerk_2 : decode cX10_clerk 2 = .ok (.bipush 30, 2) := by decide +kernel
theorem dX10_clerk_4 : decode cX10_clerk 4 = .ok (.invokestatic 80, 3) := by decide +kernel
theorem dX10_clerk_7 : decode cX10_clerk 7 = .ok (.ifCond .ne 6, 3) := by decide +kernel
theorem dX10_clerk_10 : decode cX10_clerk 10 = .ok (.bipush (-2), 2) := by decide +kernel
theorem dX10_clerk_12 : decode cX10_clerk 12 = .ok (.ireturn, 1) := by decide +kernel
theorem dX10_clerk_13 : decode cX10_clerk 13 = .ok (.aload_n 0, 1) := by decide +kernel
theorem dX10_clerk_14 : decode cX10_clerk 14 = .ok (.getfield 133, 3) := by decide +kernel
theorem dX10_clerk_17 : decode cX10_clerk 17 = .ok (.iconst 4, 1) := by decide +kernel
theorem dX10_clerk_18 : decode cX10_clerk 18 = .ok (.if_icmp .lt 6, 3) := by decide +kernel
theorem dX10_clerk_21 : decode cX10_clerk 21 = .ok (.bipush (-4), 2) := by decide +kernel
theorem dX10_clerk_23 : decode cX10_clerk 23 = .ok (.ireturn, 1) := by decide +kernel
theorem dX10_clerk_24 : decode cX10_clerk 24 = .ok (.new 21, 3) := by decide +kernel
theorem dX10_clerk_27 : decode cX10_clerk 27 = .ok (.dup, 1) := by decide +kernel
theorem dX10_clerk_28 : decode cX10_clerk 28 = .ok (.aload_n 0, 1) := by decide +kernel
theorem dX10_clerk_29 : decode cX10_clerk 29 = .ok (.getfield 133, 3) := by decide +kernel
theorem dX10_clerk_32 : decode cX10_clerk 32 = .ok (.iload_n 1, 1) := by decide +kernel
theorem dX10_clerk_33 : decode cX10_clerk 33 = .ok (.invokespecial 136, 3) := by decide +kernel
theorem dX10_clerk_36 : decode cX10_clerk 36 = .ok (.astore_n 2, 1) := by decide +kernel
theorem dX10_clerk_37 : decode cX10_clerk 37 = .ok (.aload_n 0, 1) := by decide +kernel
theorem dX10_clerk_38 : decode cX10_clerk 38 = .ok (.getfield 23, 3) := by decide +kernel
theorem dX10_clerk_41 : decode cX10_clerk 41 = .ok (.aload_n 0, 1) := by decide +kernel
theorem dX10_clerk_42 : decode cX10_clerk 42 = .ok (.getfield 133, 3) := by decide +kernel
theorem dX10_clerk_45 : decode cX10_clerk 45 = .ok (.aload_n 2, 1) := by decide +kernel
theorem dX10_clerk_46 : decode cX10_clerk 46 = .ok (.aastore, 1) := by decide +kernel
theorem dX10_clerk_47 : decode cX10_clerk 47 = .ok (.aload_n 0, 1) := by decide +kernel
theorem dX10_clerk_48 : decode cX10_clerk 48 = .ok (.dup, 1) := by decide +kernel
theorem dX10_clerk_49 : decode cX10_clerk 49 = .ok (.getfield 133, 3) := by decide +kernel
theorem dX10_clerk_52 : decode cX10_clerk 52 = .ok (.iconst 1, 1) := by decide +kernel
theorem dX10_clerk_53 : decode cX10_clerk 53 = .ok (.iadd, 1) := by decide +kernel
theorem dX10_clerk_54 : decode cX10_clerk 54 = .ok (.putfield 133, 3) := by decide +kernel
theorem dX10_clerk_57 : decode cX10_clerk 57 = .ok (.aload_n 2, 1) := by decide +kernel
theorem dX10_clerk_58 : decode cX10_clerk 58 = .ok (.getfield 139, 3) := by decide +kernel
theorem dX10_clerk_61 : decode cX10_clerk 61 = .ok (.ireturn, 1) := by decide +kernel
theorem dX10_order_0 : decode cX10_order 0 = .ok (.iload_n 1, 1) := by decide +kernel
theorem dX10_order_1 : decode cX10_order 1 = .ok (.iconst 0, 1) := by decide +kernel
theorem dX10_order_2 : decode cX10_order 2 = .ok (.iconst 2, 1) := by decide +kernel
theorem dX10_order_3 : decode cX10_order 3 = .ok (.invokestatic 80, 3) := by decide +kernel
theorem dX10_order_6 : decode cX10_order 6 = .ok (.ifCond .ne 6, 3) := by decide +kernel
theorem dX10_order_9 : decode cX10_order 9 = .ok (.bipush (-2), 2) := by decide +kernel
theorem dX10_order_11 : decode cX10_order 11 = .ok (.ireturn, 1) := by decide +kernel
theorem dX10_order_12 : decode cX10_order 12 = .ok (.aload_n 0, 1) := by decide +kernel
theorem dX10_order_13 : decode cX10_order 13 = .ok (.getfield 140, 3) := by decide +kernel
theorem dX10_order_16 : decode cX10_order 16 = .ok (.istore_n 2, 1) := by decide +kernel
theorem dX10_order_17 : decode cX10_order 17 = .ok (.aload_n 0, 1) := by decide +kernel
theorem dX10_order_18 : decode cX10_order 18 = .ok (.iload_n 1, 1) := by decide +kernel
theorem dX10_order_19 : decode cX10_order 19 = .ok (.putfield 140, 3) := by decide +kernel
theorem dX10_order_22 : decode cX10_order 22 = .ok (.iload_n 2, 1) := by decide +kernel
theorem dX10_order_23 : decode cX10_order 23 = .ok (.ireturn, 1) := by decide +kernel
theorem dX10_drawer_0 : decode cX10_drawer 0 = .ok (.iload_n 1, 1) := by decide +kernel
theorem dX10_drawer_1 : decode cX10_drawer 1 = .ok (.iconst 0, 1) := by decide +kernel
theorem dX10_drawer_2 : decode cX10_drawer 2 = .ok (.iconst 5, 1) := by decide +kernel
theorem dX10_drawer_3 : decode cX10_drawer 3 = .ok (.invokestatic 80, 3) := by decide +kernel
theorem dX10_drawer_6 : decode cX10_drawer 6 = .ok (.ifCond .eq 14, 3) := by decide +kernel
theorem dX10_drawer_9 : decode cX10_drawer 9 = .ok (.iload_n 2, 1) := by decide +kernel
theorem dX10_drawer_10 : decode cX10_drawer 10 = .ok (.iconst 0, 1) := by decide +kernel
theorem dX10_drawer_11 : decode cX10_drawer 11 = .ok (.sipush 1000, 3) := by decide +kernel
theorem dX10_drawer_14 : decode cX10_drawer 14 = .ok (.invokestatic 80, 3) := by decide +kernel
theorem dX10_drawer_17 : decode cX10_drawer 17 = .ok (.ifCond .ne 6, 3) := by decide +kernel
theorem dX10_drawer_20 : decode cX10_drawer 20 = .ok (.bipush (-2), 2) := by decide +kernel
theorem dX10_drawer_22 : decode cX10_drawer 22 = .ok (.ireturn, 1) := by decide +kernel
theorem dX10_drawer_23 : decode cX10_drawer 23 = .ok (.aload_n 0, 1) := by decide +kernel
theorem dX10_drawer_24 : decode cX10_drawer 24 = .ok (.getfield 33, 3) := by decide +kernel
theorem dX10_drawer_27 : decode cX10_drawer 27 = .ok (.getfield 143, 3) := by decide +kernel
theorem dX10_drawer_30 : decode cX10_drawer 30 = .ok (.iload_n 1, 1) := by decide +kernel
theorem dX10_drawer_31 : decode cX10_drawer 31 = .ok (.iaload, 1) := by decide +kernel
theorem dX10_drawer_32 : decode cX10_drawer 32 = .ok (.istore_n 3, 1) := by decide +kernel
theorem dX10_drawer_33 : decode cX10_drawer 33 = .ok (.aload_n 0, 1) := by decide +kernel
theorem dX10_drawer_34 : decode cX10_drawer 34 = .ok (.getfield 33, 3) := by decide +kernel
theorem dX10_drawer_37 : decode cX10_drawer 37 = .ok (.getfield 143, 3) := by decide +kernel
theorem dX10_drawer_40 : decode cX10_drawer 40 = .ok (.iload_n 1, 1) := by decide +kernel
theorem dX10_drawer_41 : decode cX10_drawer 41 = .ok (.iload_n 2, 1) := by decide +kernel
theorem dX10_drawer_42 : decode cX10_drawer 42 = .ok (.iastore, 1) := by decide +kernel
theorem dX10_drawer_43 : decode cX10_drawer 43 = .ok (.iload_n 3, 1) := by decide +kernel
theorem dX10_drawer_44 : decode cX10_drawer 44 = .ok (.ireturn, 1) := by decide +kernel
theorem dX10_fetch_0 : decode cX10_fetch 0 = .ok (.iload_n 1, 1) := by decide +kernel
theorem dX10_fetch_1 : decode cX10_fetch 1 = .ok (.iconst 0, 1) := by decide +kernel
theorem dX10_fetch_2 : decode cX10_fetch 2 = .ok (.iconst 5, 1) := by decide +kernel
theorem dX10_fetch_3 : decode cX10_fetch 3 = .ok (.invokestatic 80, 3) := by decide +kernel
theorem dX10_fetch_6 : decode cX10_fetch 6 = .ok (.ifCond .eq 24, 3) := by decide +kernel
theorem dX10_fetch_9 : decode cX10_fetch 9 = .ok (.iload_n 2, 1) := by decide +kernel
theorem dX10_fetch_10 : decode cX10_fetch 10 = .ok (.iconst 1, 1) := by decide +kernel
theorem dX10_fetch_11 : decode cX10_fetch 11 = .ok (.bipush 100, 2) := by decide +kernel
theorem dX10_fetch_13 : decode cX10_fetch 13 = .ok (.invokestatic 80, 3) := by decide +kernel
theorem dX10_fetch_16 : decode cX10_fetch 16 = .ok (.ifCond .eq 14, 3) := by decide +kernel
theorem dX10_fetch_19 : decode cX10_fetch 19 = .ok (.iload_n 3, 1) := by decide +kernel
theorem dX10_fetch_20 : decode cX10_fetch 20 = .ok (.iconst 1, 1) := by decide +kernel
theorem dX10_fetch_21 : decode cX10_fetch 21 = .ok (.sipush 200, 3) := by decide +kernel
theorem dX10_fetch_24 : decode cX10_fetch 24 = .ok (.invokestatic 80, 3) := by decide +kernel
theorem dX10_fetch_27 : decode cX10_fetch 27 = .ok (.ifCond .ne 6, 3) := by decide +kernel
theorem dX10_fetch_30 : decode cX10_fetch 30 = .ok (.bipush (-2), 2) := by decide +kernel
theorem dX10_fetch_32 : decode cX10_fetch 32 = .ok (.ireturn, 1) := by decide +kernel
theorem dX10_fetch_33 : decode cX10_fetch 33 = .ok (.aload_n 0, 1) := by decide +kernel
theorem dX10_fetch_34 : decode cX10_fetch 34 = .ok (.getfield 47, 3) := by decide +kernel
theorem dX10_fetch_37 : decode cX10_fetch 37 = .ok (.getfield 147, 3) := by decide +kernel
theorem dX10_fetch_40 : decode cX10_fetch 40 = .ok (.bipush 20, 2) := by decide +kernel
theorem dX10_fetch_42 : decode cX10_fetch 42 = .ok (.if_icmp .lt 6, 3) := by decide +kernel
theorem dX10_fetch_45 : decode cX10_fetch 45 = .ok (.bipush (-4), 2) := by decide +kernel
theorem dX10_fetch_47 : decode cX10_fetch 47 = .ok (.ireturn, 1) := by decide +kernel
theorem dX10_fetch_48 : decode cX10_fetch 48 = .ok (.aload_n 0, 1) := by decide +kernel
theorem dX10_fetch_49 : decode cX10_fetch 49 = .ok (.getfield 47, 3) := by decide +kernel
theorem dX10_fetch_52 : decode cX10_fetch 52 = .ok (.iload_n 1, 1) := by decide +kernel
theorem dX10_fetch_53 : decode cX10_fetch 53 = .ok (.iload_n 2, 1) := by decide +kernel
theorem dX10_fetch_54 : decode cX10_fetch 54 = .ok (.aload_n 0, 1) := by decide +kernel
theorem dX10_fetch_55 : decode cX10_fetch 55 = .ok (.getfield 150, 3) := by decide +kernel
theorem dX10_fetch_58 : decode cX10_fetch 58 = .ok (.iload_n 3, 1) := by decide +kernel
theorem dX10_fetch_59 : decode cX10_fetch 59 = .ok (.iadd, 1) := by decide +kernel
theorem dX10_fetch_60 : decode cX10_fetch 60 = .ok (.invokevirtual 153, 3) := by decide +kernel
theorem dX10_fetch_63 : decode cX10_fetch 63 = .ok (.aload_n 0, 1) := by decide +kernel
theorem dX10_fetch_64 : decode cX10_fetch 64 = .ok (.getfield 150, 3) := by decide +kernel
theorem dX10_fetch_67 : decode cX10_fetch 67 = .ok (.iload_n 3, 1) := by decide +kernel
theorem dX10_fetch_68 : decode cX10_fetch 68 = .ok (.iadd, 1) := by decide +kernel
theorem dX10_fetch_69 : decode cX10_fetch 69 = .ok (.ireturn, 1) := by decide +kernel
theorem dX10_send_0 : decode cX10_send 0 = .ok (.aload_n 0, 1) := by decide +kernel
theorem dX10_send_1 : decode cX10_send 1 = .ok (.iload_n 1, 1) := by decide +kernel
theorem dX10_send_2 : decode cX10_send 2 = .ok (.invokevirtual 157, 3) := by decide +kernel
theorem dX10_send_5 : decode cX10_send 5 = .ok (.astore 5, 2) := by decide +kernel
theorem dX10_send_7 : decode cX10_send 7 = .ok (.aload 5, 2) := by decide +kernel
theorem dX10_send_9 : decode cX10_send 9 = .ok (.ifnonnull 5, 3) := by decide +kernel
theorem dX10_send_12 : decode cX10_send 12 = .ok (.iconst (-1), 1) := by decide +kernel
theorem dX10_send_13 : decode cX10_send 13 = .ok (.ireturn, 1) := by decide +kernel
theorem dX10_send_14 : decode cX10_send 14 = .ok (.iload_n 2, 1) := by decide +kernel
theorem dX10_send_15 : decode cX10_send 15 = .ok (.iconst 1, 1) := by decide +kernel
theorem dX10_send_16 : decode cX10_send 16 = .ok (.sipush 3000, 3) := by decide +kernel
theorem dX10_send_19 : decode cX10_send 19 = .ok (.invokestatic 80, 3) := by decide +kernel
theorem dX10_send_22 : decode cX10_send 22 = .ok (.ifCond .eq 23, 3) := by decide +kernel
theorem dX10_send_25 : decode cX10_send 25 = .ok (.iload_n 3, 1) := by decide +kernel
theorem dX10_send_26 : decode cX10_send 26 = .ok (.iconst 0, 1) := by decide +kernel
theorem dX10_send_27 : decode cX10_send 27 = .ok (.iconst 5, 1) := by decide +kernel
theorem dX10_send_28 : decode cX10_send 28 = .ok (.invokestatic 80, 3) := by decide +kernel
theorem dX10_send_31 : decode cX10_send 31 = .ok (.ifCond .eq 14, 3) := by decide +kernel
theorem dX10_send_34 : decode cX10_send 34 = .ok (.iload 4, 2) := by decide +kernel
theorem dX10_send_36 : decode cX10_send 36 = .ok (.iconst 1, 1) := by decide +kernel
theorem dX10_send_37 : decode cX10_send 37 = .ok (.bipush 50, 2) := by decide +kernel
theorem dX10_send_39 : decode cX10_send 39 = .ok (.invokestatic 80, 3) := by decide +kernel
theorem dX10_send_42 : decode cX10_send 42 = .ok (.ifCond .ne 6, 3) := by decide +kernel
theorem dX10_send_45 : decode cX10_send 45 = .ok (.bipush (-2), 2) := by decide +kernel
theorem dX10_send_47 : decode cX10_send 47 = .ok (.ireturn, 1) := by decide +kernel
theorem dX10_send_48 : decode cX10_send 48 = .ok (.iload 4, 2) := by decide +kernel
theorem dX10_send_50 : decode cX10_send 50 = .ok (.getstatic 161, 3) := by decide +kernel
theorem dX10_send_53 : decode cX10_send 53 = .ok (.iload_n 3, 1) := by decide +kernel
theorem dX10_send_54 : decode cX10_send 54 = .ok (.iaload, 1) := by decide +kernel
theorem dX10_send_55 : decode cX10_send 55 = .ok (.imul, 1) := by decide +kernel
theorem dX10_send_56 : decode cX10_send 56 = .ok (.istore 6, 2) := by decide +kernel
theorem dX10_send_58 : decode cX10_send 58 = .ok (.aload 5, 2) := by decide +kernel
theorem dX10_send_60 : decode cX10_send 60 = .ok (.getfield 164, 3) := by decide +kernel
theorem dX10_send_63 : decode cX10_send 63 = .ok (.ifCond .ne 9, 3) := by decide +kernel
theorem dX10_send_66 : decode cX10_send 66 = .ok (.iload 6, 2) := by decide +kernel
theorem dX10_send_68 : decode cX10_send 68 = .ok (.iload_n 2, 1) := by decide +kernel
theorem dX10_send_69 : decode cX10_send 69 = .ok (.if_icmp .ge 6, 3) := by decide +kernel
theorem dX10_send_72 : decode cX10_send 72 = .ok (.bipush (-3), 2) := by decide +kernel
theorem dX10_send_74 : decode cX10_send 74 = .ok (.ireturn, 1) := by decide +kernel
theorem dX10_send_75 : decode cX10_send 75 = .ok (.aload 5, 2) := by decide +kernel
theorem dX10_send_77 : decode cX10_send 77 = .ok (.getfield 167, 3) := by decide +kernel
theorem dX10_send_80 : decode cX10_send 80 = .ok (.getfield 143, 3) := by decide +kernel
theorem dX10_send_83 : decode cX10_send 83 = .ok (.iload_n 3, 1) := by decide +kernel
theorem dX10_send_84 : decode cX10_send 84 = .ok (.iload 4, 2) := by decide +kernel
theorem dX10_send_86 : decode cX10_send 86 = .ok (.iastore, 1) := by decide +kernel
theorem dX10_send_87 : decode cX10_send 87 = .ok (.aload 5, 2) := by decide +kernel
theorem dX10_send_89 : decode cX10_send 89 = .ok (.iconst 1, 1) := by decide +kernel
theorem dX10_send_90 : decode cX10_send 90 = .ok (.putfield 170, 3) := by decide +kernel
theorem dX10_send_93 : decode cX10_send 93 = .ok (.aload 5, 2) := by decide +kernel
theorem dX10_send_95 : decode cX10_send 95 = .ok (.iload_n 2, 1) := by decide +kernel
theorem dX10_send_96 : decode cX10_send 96 = .ok (.putfield 173, 3) := by decide +kernel
theorem dX10_send_99 : decode cX10_send 99 = .ok (.aload 5, 2) := by decide +kernel
theorem dX10_send_101 : decode cX10_send 101 = .ok (.aload_n 0, 1) := by decide +kernel
theorem dX10_send_102 : decode cX10_send 102 = .ok (.getfield 150, 3) := by decide +kernel
theorem dX10_send_105 : decode cX10_send 105 = .ok (.putfield 176, 3) := by decide +kernel
theorem dX10_send_108 : decode cX10_send 108 = .ok (.aload_n 0, 1) := by decide +kernel
theorem dX10_send_109 : decode cX10_send 109 = .ok (.dup, 1) := by decide +kernel
theorem dX10_send_110 : decode cX10_send 110 = .ok (.getfield 179, 3) := by decide +kernel
theorem dX10_send_113 : decode cX10_send 113 = .ok (.iload 6, 2) := by decide +kernel
theorem dX10_send_115 : decode cX10_send 115 = .ok (.iadd, 1) := by decide +kernel
theorem dX10_send_116 : decode cX10_send 116 = .ok (.putfield 179, 3) := by decide +kernel
theorem dX10_send_119 : decode cX10_send 119 = .ok (.aload 5, 2) := by decide +kernel
theorem dX10_send_121 : decode cX10_send 121 = .ok (.aload 5, 2) := by decide +kernel
theorem dX10_send_123 : decode cX10_send 123 = .ok (.getfield 182, 3) := by decide +kernel
theorem dX10_send_126 : decode cX10_send 126 = .ok (.aload_n 0, 1) := by decide +kernel
theorem dX10_send_127 : decode cX10_send 127 = .ok (.getfield 150, 3) := by decide +kernel
theorem dX10_send_130 : decode cX10_send 130 = .ok (.invokevirtual 185, 3) := by decide +kernel
theorem dX10_send_133 : decode cX10_send 133 = .ok (.iload 6, 2) := by decide +kernel
theorem dX10_send_135 : decode cX10_send 135 = .ok (.iload_n 2, 1) := by decide +kernel
theorem dX10_send_136 : decode cX10_send 136 = .ok (.isub, 1) := by decide +kernel
theorem dX10_send_137 : decode cX10_send 137 = .ok (.ireturn, 1) := by decide +kernel
theorem dX10_resend_0 : decode cX10_resend 0 = .ok (.aload_n 0, 1) := by decide +kernel
theorem dX10_resend_1 : decode cX10_resend 1 = .ok (.iload_n 1, 1) := by decide +kernel
theorem dX10_resend_2 : decode cX10_resend 2 = .ok (.invokevirtual 157, 3) := by decide +kernel
theorem dX10_resend_5 : decode cX10_resend 5 = .ok (.astore_n 2, 1) := by decide +kernel
theorem dX10_resend_6 : decode cX10_resend 6 = .ok (.aload_n 2, 1) := by decide +kernel
theorem dX10_resend_7 : decode cX10_resend 7 = .ok (.ifnonnull 5, 3) := by decide +kernel
theorem dX10_resend_10 : decode cX10_resend 10 = .ok (.iconst (-1), 1) := by decide +kernel
theorem dX10_resend_11 : decode cX10_resend 11 = .ok (.ireturn, 1) := by decide +kernel
theorem dX10_resend_12 : decode cX10_resend 12 = .ok (.aload_n 2, 1) := by decide +kernel
theorem dX10_resend_13 : decode cX10_resend 13 = .ok (.getfield 164, 3) := by decide +kernel
theorem dX10_resend_16 : decode cX10_resend 16 = .ok (.iconst 5, 1) := by decide +kernel
theorem dX10_resend_17 : decode cX10_resend 17 = .ok (.if_icmp .ne 10, 3) := by decide +kernel
theorem dX10_resend_20 : decode cX10_resend 20 = .ok (.aload_n 2, 1) := by decide +kernel
theorem dX10_resend_21 : decode cX10_resend 21 = .ok (.getfield 189, 3) := by decide +kernel
theorem dX10_resend_24 : decode cX10_resend 24 = .ok (.ifnonnull 6, 3) := by decide +kernel
theorem dX10_resend_27 : decode cX10_resend 27 = .ok (.bipush (-3), 2) := by decide +kernel
theorem dX10_resend_29 : decode cX10_resend 29 = .ok (.ireturn, 1) := by decide +kernel
theorem dX10_resend_30 : decode cX10_resend 30 = .ok (.aload_n 2, 1) := by decide +kernel
theorem dX10_resend_31 : decode cX10_resend 31 = .ok (.aload_n 2, 1) := by decide +kernel
theorem dX10_resend_32 : decode cX10_resend 32 = .ok (.getfield 189, 3) := by decide +kernel
theorem dX10_resend_35 : decode cX10_resend 35 = .ok (.aload_n 0, 1) := by decide +kernel
theorem dX10_resend_36 : decode cX10_resend 36 = .ok (.getfield 150, 3) := by decide +kernel
theorem dX10_resend_39 : decode cX10_resend 39 = .ok (.invokevirtual 185, 3) := by decide +kernel
theorem dX10_resend_42 : decode cX10_resend 42 = .ok (.aload_n 2, 1) := by decide +kernel
theorem dX10_resend_43 : decode cX10_resend 43 = .ok (.getfield 189, 3) := by decide +kernel
theorem dX10_resend_46 : decode cX10_resend 46 = .ok (.getfield 97, 3) := by decide +kernel
theorem dX10_resend_49 : decode cX10_resend 49 = .ok (.ireturn, 1) := by decide +kernel
theorem dX10_porter_0 : decode cX10_porter 0 = .ok (.aload_n 0, 1) := by decide +kernel
theorem dX10_porter_1 : decode cX10_porter 1 = .ok (.iload_n 1, 1) := by decide +kernel
theorem dX10_porter_2 : decode cX10_porter 2 = .ok (.invokevirtual 157, 3) := by decide +kernel
theorem dX10_porter_5 : decode cX10_porter 5 = .ok (.astore_n 2, 1) := by decide +kernel
theorem dX10_porter_6 : decode cX10_porter 6 = .ok (.aload_n 2, 1) := by decide +kernel
theorem dX10_porter_7 : decode cX10_porter 7 = .ok (.ifnonnull 5, 3) := by decide +kernel
theorem dX10_porter_10 : decode cX10_porter 10 = .ok (.iconst (-1), 1) := by decide +kernel
theorem dX10_porter_11 : decode cX10_porter 11 = .ok (.ireturn, 1) := by decide +kernel
theorem dX10_porter_12 : decode cX10_porter 12 = .ok (.aload_n 2, 1) := by decide +kernel
theorem dX10_porter_13 : decode cX10_porter 13 = .ok (.invokestatic 192, 3) := by decide +kernel
theorem dX10_porter_16 : decode cX10_porter 16 = .ok (.ifCond .ne 6, 3) := by decide +kernel
theorem dX10_porter_19 : decode cX10_porter 19 = .ok (.bipush (-3), 2) := by decide +kernel
theorem dX10_porter_21 : decode cX10_porter 21 = .ok (.ireturn, 1) := by decide +kernel
theorem dX10_porter_22 : decode cX10_porter 22 = .ok (.aload_n 2, 1) := by decide +kernel
theorem dX10_porter_23 : decode cX10_porter 23 = .ok (.aload_n 0, 1) := by decide +kernel
theorem dX10_porter_24 : decode cX10_porter 24 = .ok (.getfield 150, 3) := by decide +kernel
theorem dX10_porter_27 : decode cX10_porter 27 = .ok (.iconst 1, 1) := by decide +kernel
theorem dX10_porter_28 : decode cX10_porter 28 = .ok (.iconst 3, 1) := by decide +kernel
theorem dX10_porter_29 : decode cX10_porter 29 = .ok (.aload_n 2, 1) := by decide +kernel
theorem dX10_porter_30 : decode cX10_porter 30 = .ok (.getfield 189, 3) := by decide +kernel
theorem dX10_porter_33 : decode cX10_porter 33 = .ok (.aload_n 2, 1) := by decide +kernel
theorem dX10_porter_34 : decode cX10_porter 34 = .ok (.getfield 182, 3) := by decide +kernel
theorem dX10_porter_37 : decode cX10_porter 37 = .ok (.invokestatic 196, 3) := by decide +kernel
theorem dX10_porter_40 : decode cX10_porter 40 = .ok (.imul, 1) := by decide +kernel
theorem dX10_porter_41 : decode cX10_porter 41 = .ok (.invokestatic 200, 3) := by decide +kernel
theorem dX10_porter_44 : decode cX10_porter 44 = .ok (.iadd, 1) := by decide +kernel
theorem dX10_porter_45 : decode cX10_porter 45 = .ok (.putfield 206, 3) := by decide +kernel
theorem dX10_porter_48 : decode cX10_porter 48 = .ok (.aload_n 2, 1) := by decide +kernel
theorem dX10_porter_49 : decode cX10_porter 49 = .ok (.bipush 6, 2) := by decide +kernel
theorem dX10_porter_51 : decode cX10_porter 51 = .ok (.invokevirtual 209, 3) := by decide +kernel
theorem dX10_porter_54 : decode cX10_porter 54 = .ok (.aload_n 2, 1) := by decide +kernel
theorem dX10_porter_55 : decode cX10_porter 55 = .ok (.getfield 206, 3) := by decide +kernel
theorem dX10_porter_58 : decode cX10_porter 58 = .ok (.ireturn, 1) := by decide +kernel
theorem dX10_porterMayTake_0 : decode cX10_porterMayTake 0 = .ok (.aload_n 0, 1) := by decide +kernel
theorem dX10_porterMayTake_1 : decode cX10_porterMayTake 1 = .ok (.getfield 189, 3) := by decide +kernel
theorem dX10_porterMayTake_4 : decode cX10_porterMayTake 4 = .ok (.ifnonnull 5, 3) := by decide +kernel
theorem dX10_porterMayTake_7 : decode cX10_porterMayTake 7 = .ok (.iconst 0, 1) := by decide +kernel
theorem dX10_porterMayTake_8 : decode cX10_porterMayTake 8 = .ok (.ireturn, 1) := by decide +kernel
theorem dX10_porterMayTake_9 : decode cX10_porterMayTake 9 = .ok (.aload_n 0, 1) := by decide +kernel
theorem dX10_porterMayTake_10 : decode cX10_porterMayTake 10 = .ok (.getfield 164, 3) := by decide +kernel
theorem dX10_porterMayTake_13 : decode cX10_porterMayTake 13 = .ok (.tableswitch 73 1 5 #[53, 35, 73, 73, 51], 35) := by decide +kernel
theorem dX10_porterMayTake_48 : decode cX10_porterMayTake 48 = .ok (.aload_n 0, 1) := by decide +kernel
theorem dX10_porterMayTake_49 : decode cX10_porterMayTake 49 = .ok (.getfield 189, 3) := by decide +kernel
theorem dX10_porterMayTake_52 : decode cX10_porterMayTake 52 = .ok (.getfield 120, 3) := by decide +kernel
theorem dX10_porterMayTake_55 : decode cX10_porterMayTake 55 = .ok (.ifCond .ne 7, 3) := by decide +kernel
theorem dX10_porterMayTake_58 : decode cX10_porterMayTake 58 = .ok (.iconst 1, 1) := by decide +kernel
theorem dX10_porterMayTake_59 : decode cX10_porterMayTake 59 = .ok (.goto 4, 3) := by decide +kernel
theorem dX10_porterMayTake_62 : decode cX10_porterMayTake 62 = .ok (.iconst 0, 1) := by decide +kernel
theorem dX10_porterMayTake_63 : decode cX10_porterMayTake 63 = .ok (.ireturn, 1) := by decide +kernel
theorem dX10_porterMayTake_64 : decode cX10_porterMayTake 64 = .ok (.iconst 1, 1) := by decide +kernel
theorem dX10_porterMayTake_65 : decode cX10_porterMayTake 65 = .ok (.ireturn, 1) := by decide +kernel
theorem dX10_porterMayTake_66 : decode cX10_porterMayTake 66 = .ok (.aload_n 0, 1) := by decide +kernel
theorem dX10_porterMayTake_67 : decode cX10_porterMayTake 67 = .ok (.getfield 212, 3) := by decide +kernel
theorem dX10_porterMayTake_70 : decode cX10_porterMayTake 70 = .ok (.ifCond .ne 14, 3) := by decide +kernel
theorem dX10_porterMayTake_73 : decode cX10_porterMayTake 73 = .ok (.aload_n 0, 1) := by decide +kernel
theorem dX10_porterMayTake_74 : decode cX10_porterMayTake 74 = .ok (.getfield 215, 3) := by decide +kernel
theorem dX10_porterMayTake_77 : decode cX10_porterMayTake 77 = .ok (.ifnonnull 7, 3) := by decide +kernel
theorem dX10_porterMayTake_80 : decode cX10_porterMayTake 80 = .ok (.iconst 1, 1) := by decide +kernel
theorem dX10_porterMayTake_81 : decode cX10_porterMayTake 81 = .ok (.goto 4, 3) := by decide +kernel
theorem dX10_porterMayTake_84 : decode cX10_porterMayTake 84 = .ok (.iconst 0, 1) := by decide +kernel
theorem dX10_porterMayTake_85 : decode cX10_porterMayTake 85 = .ok (.ireturn, 1) := by decide +kernel
theorem dX10_porterMayTake_86 : decode cX10_porterMayTake 86 = .ok (.iconst 0, 1) := by decide +kernel
theorem dX10_porterMayTake_87 : decode cX10_porterMayTake 87 = .ok (.ireturn, 1) := by decide +kernel
theorem dX10_way_0 : decode cX10_way 0 = .ok (.iconst 0, 1) := by decide +kernel
theorem dX10_way_1 : decode cX10_way 1 = .ok (.istore_n 2, 1) := by decide +kernel
theorem dX10_way_2 : decode cX10_way 2 = .ok (.aload_n 0, 1) := by decide +kernel
theorem dX10_way_3 : decode cX10_way 3 = .ok (.astore_n 3, 1) := by decide +kernel
theorem dX10_way_4 : decode cX10_way 4 = .ok (.aload_n 1, 1) := by decide +kernel
theorem dX10_way_5 : decode cX10_way 5 = .ok (.astore 4, 2) := by decide +kernel
theorem dX10_way_7 : decode cX10_way 7 = .ok (.aload_n 3, 1) := by decide +kernel
theorem dX10_way_8 : decode cX10_way 8 = .ok (.ifnull 59, 3) := by decide +kernel
theorem dX10_way_11 : decode cX10_way 11 = .ok (.aload 4, 2) := by decide +kernel
theorem dX10_way_13 : decode cX10_way 13 = .ok (.ifnull 54, 3) := by decide +kernel
theorem dX10_way_16 : decode cX10_way 16 = .ok (.aload_n 3, 1) := by decide +kernel
theorem dX10_way_17 : decode cX10_way 17 = .ok (.aload 4, 2) := by decide +kernel
theorem dX10_way_19 : decode cX10_way 19 = .ok (.if_acmp .eq 48, 3) := by decide +kernel
theorem dX10_way_22 : decode cX10_way 22 = .ok (.aload_n 3, 1) := by decide +kernel
theorem dX10_way_23 : decode cX10_way 23 = .ok (.getfield 97, 3) := by decide +kernel
theorem dX10_way_26 : decode cX10_way 26 = .ok (.aload 4, 2) := by decide +kernel
theorem dX10_way_28 : decode cX10_way 28 = .ok (.getfield 97, 3) := by decide +kernel
theorem dX10_way_31 : decode cX10_way 31 = .ok (.if_icmp .le 18, 3) := by decide +kernel
theorem dX10_way_34 : decode cX10_way 34 = .ok (.iload_n 2, 1) := by decide +kernel
theorem dX10_way_35 : decode cX10_way 35 = .ok (.aload_n 3, 1) := by decide +kernel
theorem dX10_way_36 : decode cX10_way 36 = .ok (.getfield 87, 3) := by decide +kernel
theorem dX10_way_39 : decode cX10_way 39 = .ok (.iadd, 1) := by decide +kernel
theorem dX10_way_40 : decode cX10_way 40 = .ok (.istore_n 2, 1) := by decide +kernel
theorem dX10_way_41 : decode cX10_way 41 = .ok (.aload_n 3, 1) := by decide +kernel
theorem dX10_way_42 : decode cX10_way 42 = .ok (.getfield 117, 3) := by decide +kernel
theorem dX10_way_45 : decode cX10_way 45 = .ok (.astore_n 3, 1) := by decide +kernel
theorem dX10_way_46 : decode cX10_way 46 = .ok (.goto (-39), 3) := by decide +kernel
theorem dX10_way_49 : decode cX10_way 49 = .ok (.iload_n 2, 1) := by decide +kernel
theorem dX10_way_50 : decode cX10_way 50 = .ok (.aload 4, 2) := by decide +kernel
theorem dX10_way_52 : decode cX10_way 52 = .ok (.getfield 87, 3) := by decide +kernel
theorem dX10_way_55 : decode cX10_way 55 = .ok (.iadd, 1) := by decide +kernel
theorem dX10_way_56 : decode cX10_way 56 = .ok (.istore_n 2, 1) := by decide +kernel
theorem dX10_way_57 : decode cX10_way 57 = .ok (.aload 4, 2) := by decide +kernel
theorem dX10_way_59 : decode cX10_way 59 = .ok (.getfield 117, 3) := by decide +kernel
theorem dX10_way_62 : decode cX10_way 62 = .ok (.astore 4, 2) := by decide +kernel
theorem dX10_way_64 : decode cX10_way 64 = .ok (.goto (-57), 3) := by decide +kernel
theorem dX10_way_67 : decode cX10_way 67 = .ok (.iload_n 2, 1) := by decide +kernel
theorem dX10_way_68 : decode cX10_way 68 = .ok (.ireturn, 1) := by decide +kernel
theorem dX10_cupAt_0 : decode cX10_cupAt 0 = .ok (.aload_n 0, 1) := by decide +kernel
theorem dX10_cupAt_1 : decode cX10_cupAt 1 = .ok (.iload_n 1, 1) := by decide +kernel
theorem dX10_cupAt_2 : decode cX10_cupAt 2 = .ok (.invokevirtual 157, 3) := by decide +kernel
theorem dX10_cupAt_5 : decode cX10_cupAt 5 = .ok (.astore_n 3, 1) := by decide +kernel
theorem dX10_cupAt_6 : decode cX10_cupAt 6 = .ok (.aload_n 3, 1) := by decide +kernel
theorem dX10_cupAt_7 : decode cX10_cupAt 7 = .ok (.ifnonnull 5, 3) := by decide +kernel
theorem dX10_cupAt_10 : decode cX10_cupAt 10 = .ok (.iconst (-1), 1) := by decide +kernel
theorem dX10_cupAt_11 : decode cX10_cupAt 11 = .ok (.ireturn, 1) := by decide +kernel
theorem dX10_cupAt_12 : decode cX10_cupAt 12 = .ok (.iload_n 2, 1) := by decide +kernel
theorem dX10_cupAt_13 : decode cX10_cupAt 13 = .ok (.tableswitch 167 0 8 #[51, 56, 61, 66, 100, 120, 128, 133, 150], 51) := by decide +kernel
theorem dX10_cupAt_64 : decode cX10_cupAt 64 = .ok (.aload_n 3, 1) := by decide +kernel
theorem dX10_cupAt_65 : decode cX10_cupAt 65 = .ok (.getfield 164, 3) := by decide +kernel
theorem dX10_cupAt_68 : decode cX10_cupAt 68 = .ok (.ireturn, 1) := by decide +kernel
theorem dX10_cupAt_69 : decode cX10_cupAt 69 = .ok (.aload_n 3, 1) := by decide +kernel
theorem dX10_cupAt_70 : decode cX10_cupAt 70 = .ok (.invokevirtual 218, 3) := by decide +kernel
theorem dX10_cupAt_73 : decode cX10_cupAt 73 = .ok (.ireturn, 1) := by decide +kernel
theorem dX10_cupAt_74 : decode cX10_cupAt 74 = .ok (.aload_n 3, 1) := by decide +kernel
theorem dX10_cupAt_75 : decode cX10_cupAt 75 = .ok (.invokevirtual 222, 3) := by decide +kernel
theorem dX10_cupAt_78 : decode cX10_cupAt 78 = .ok (.ireturn, 1) := by decide +kernel
theorem dX10_cupAt_79 : decode cX10_cupAt 79 = .ok (.aload_n 3, 1) := by decide +kernel
theorem dX10_cupAt_80 : decode cX10_cupAt 80 = .ok (.getfield 164, 3) := by decide +kernel
theorem dX10_cupAt_83 : decode cX10_cupAt 83 = .ok (.iconst 1, 1) := by decide +kernel
theorem dX10_cupAt_84 : decode cX10_cupAt 84 = .ok (.if_icmp .eq 16, 3) := by decide +kernel
theorem dX10_cupAt_87 : decode cX10_cupAt 87 = .ok (.aload_n 3, 1) := by decide +kernel
theorem dX10_cupAt_88 : decode cX10_cupAt 88 = .ok (.getfield 164, 3) := by decide +kernel
theorem dX10_cupAt_91 : decode cX10_cupAt 91 = .ok (.iconst 2, 1) := by decide +kernel
theorem dX10_cupAt_92 : decode cX10_cupAt 92 = .ok (.if_icmp .eq 8, 3) := by decide +kernel
theorem dX10_cupAt_95 : decode cX10_cupAt 95 = .ok (.bipush (-9), 2) := by decide +kernel
theorem dX10_cupAt_97 : decode cX10_cupAt 97 = .ok (.goto 15, 3) := by decide +kernel
theorem dX10_cupAt_100 : decode cX10_cupAt 100 = .ok (.aload_n 3, 1) := by decide +kernel
theorem dX10_cupAt_101 : decode cX10_cupAt 101 = .ok (.getfield 212, 3) := by decide +kernel
theorem dX10_cupAt_104 : decode cX10_cupAt 104 = .ok (.ifCond .eq 7, 3) := by decide +kernel
theorem dX10_cupAt_107 : decode cX10_cupAt 107 = .ok (.iconst 1, 1) := by decide +kernel
theorem dX10_cupAt_108 : decode cX10_cupAt 108 = .ok (.goto 4, 3) := by decide +kernel
theorem dX10_cupAt_111 : decode cX10_cupAt 111 = .ok (.iconst 0, 1) := by decide +kernel
theorem dX10_cupAt_112 : decode cX10_cupAt 112 = .ok (.ireturn, 1) := by decide +kernel
theorem dX10_cupAt_113 : decode cX10_cupAt 113 = .ok (.aload_n 3, 1) := by decide +kernel
theorem dX10_cupAt_114 : decode cX10_cupAt 114 = .ok (.getfield 215, 3) := by decide +kernel
theorem dX10_cupAt_117 : decode cX10_cupAt 117 = .ok (.ifnonnull 8, 3) := by decide +kernel
theorem dX10_cupAt_120 : decode cX10_cupAt 120 = .ok (.bipush (-9), 2) := by decide +kernel
theorem dX10_cupAt_122 : decode cX10_cupAt 122 = .ok (.goto 10, 3) := by decide +kernel
theorem dX10_cupAt_125 : decode cX10_cupAt 125 = .ok (.aload_n 3, 1) := by decide +kernel
theorem dX10_cupAt_126 : decode cX10_cupAt 126 = .ok (.getfield 215, 3) := by decide +kernel
theorem dX10_cupAt_129 : decode cX10_cupAt 129 = .ok (.getfield 97, 3) := by decide +kernel
theorem dX10_cupAt_132 : decode cX10_cupAt 132 = .ok (.ireturn, 1) := by decide +kernel
theorem dX10_cupAt_133 : decode cX10_cupAt 133 = .ok (.aload_n 3, 1) := by decide +kernel
theorem dX10_cupAt_134 : decode cX10_cupAt 134 = .ok (.getfield 182, 3) := by decide +kernel
theorem dX10_cupAt_137 : decode cX10_cupAt 137 = .ok (.getfield 97, 3) := by decide +kernel
theorem dX10_cupAt_140 : decode cX10_cupAt 140 = .ok (.ireturn, 1) := by decide +kernel
theorem dX10_cupAt_141 : decode cX10_cupAt 141 = .ok (.aload_n 3, 1) := by decide +kernel
theorem dX10_cupAt_142 : decode cX10_cupAt 142 = .ok (.getfield 170, 3) := by decide +kernel
theorem dX10_cupAt_145 : decode cX10_cupAt 145 = .ok (.ireturn, 1) := by decide +kernel
theorem dX10_cupAt_146 : decode cX10_cupAt 146 = .ok (.aload_n 3, 1) := by decide +kernel
theorem dX10_cupAt_147 : decode cX10_cupAt 147 = .ok (.getfield 170, 3) := by decide +kernel
theorem dX10_cupAt_150 : decode cX10_cupAt 150 = .ok (.ifCond .ne 8, 3) := by decide +kernel
theorem dX10_cupAt_153 : decode cX10_cupAt 153 = .ok (.bipush (-9), 2) := by decide +kernel
theorem dX10_cupAt_155 : decode cX10_cupAt 155 = .ok (.goto 7, 3) := by decide +kernel
theorem dX10_cupAt_158 : decode cX10_cupAt 158 = .ok (.aload_n 3, 1) := by decide +kernel
theorem dX10_cupAt_159 : decode cX10_cupAt 159 = .ok (.getfield 173, 3) := by decide +kernel
theorem dX10_cupAt_162 : decode cX10_cupAt 162 = .ok (.ireturn, 1) := by decide +kernel
theorem dX10_cupAt_163 : decode cX10_cupAt 163 = .ok (.aload_n 3, 1) := by decide +kernel
theorem dX10_cupAt_164 : decode cX10_cupAt 164 = .ok (.getfield 170, 3) := by decide +kernel
theorem dX10_cupAt_167 : decode cX10_cupAt 167 = .ok (.ifCond .ne 8, 3) := by decide +kernel
theorem dX10_cupAt_170 : decode cX10_cupAt 170 = .ok (.bipush (-9), 2) := by decide +kernel
theorem dX10_cupAt_172 : decode cX10_cupAt 172 = .ok (.goto 7, 3) := by decide +kernel
theorem dX10_cupAt_175 : decode cX10_cupAt 175 = .ok (.aload_n 3, 1) := by decide +kernel
theorem dX10_cupAt_176 : decode cX10_cupAt 176 = .ok (.getfield 176, 3) := by decide +kernel
theorem dX10_cupAt_179 : decode cX10_cupAt 179 = .ok (.ireturn, 1) := by decide +kernel
theorem dX10_cupAt_180 : decode cX10_cupAt 180 = .ok (.bipush (-2), 2) := by decide +kernel
theorem dX10_cupAt_182 : decode cX10_cupAt 182 = .ok (.ireturn, 1) := by decide +kernel
theorem dX10_coins_0 : decode cX10_coins 0 = .ok (.aload_n 0, 1) := by decide +kernel
theorem dX10_coins_1 : decode cX10_coins 1 = .ok (.iload_n 1, 1) := by decide +kernel
theorem dX10_coins_2 : decode cX10_coins 2 = .ok (.invokevirtual 157, 3) := by decide +kernel
theorem dX10_coins_5 : decode cX10_coins 5 = .ok (.astore_n 3, 1) := by decide +kernel
theorem dX10_coins_6 : decode cX10_coins 6 = .ok (.aload_n 3, 1) := by decide +kernel
theorem dX10_coins_7 : decode cX10_coins 7 = .ok (.ifnonnull 5, 3) := by decide +kernel
theorem dX10_coins_10 : decode cX10_coins 10 = .ok (.iconst (-1), 1) := by decide +kernel
theorem dX10_coins_11 : decode cX10_coins 11 = .ok (.ireturn, 1) := by decide +kernel
theorem dX10_coins_12 : decode cX10_coins 12 = .ok (.aload_n 3, 1) := by decide +kernel
theorem dX10_coins_13 : decode cX10_coins 13 = .ok (.getfield 167, 3) := by decide +kernel
theorem dX10_coins_16 : decode cX10_coins 16 = .ok (.iload_n 2, 1) := by decide +kernel
theorem dX10_coins_17 : decode cX10_coins 17 = .ok (.invokevirtual 225, 3) := by decide +kernel
theorem dX10_coins_20 : decode cX10_coins 20 = .ok (.ireturn, 1) := by decide +kernel
theorem dX10_tick_0 : decode cX10_tick 0 = .ok (.iload_n 1, 1) := by decide +kernel
theorem dX10_tick_1 : decode cX10_tick 1 = .ok (.iconst 1, 1) := by decide +kernel
theorem dX10_tick_2 : decode cX10_tick 2 = .ok (.sipush 200, 3) := by decide +kernel
theorem dX10_tick_5 : decode cX10_tick 5 = .ok (.invokestatic 80, 3) := by decide +kernel
theorem dX10_tick_8 : decode cX10_tick 8 = .ok (.ifCond .ne 6, 3) := by decide +kernel
theorem dX10_tick_11 : decode cX10_tick 11 = .ok (.bipush (-2), 2) := by decide +kernel
theorem dX10_tick_13 : decode cX10_tick 13 = .ok (.ireturn, 1) := by decide +kernel
theorem dX10_tick_14 : decode cX10_tick 14 = .ok (.aload_n 0, 1) := by decide +kernel
theorem dX10_tick_15 : decode cX10_tick 15 = .ok (.getfield 150, 3) := by decide +kernel
theorem dX10_tick_18 : decode cX10_tick 18 = .ok (.iload_n 1, 1) := by decide +kernel
theorem dX10_tick_19 : decode cX10_tick 19 = .ok (.iadd, 1) := by decide +kernel
theorem dX10_tick_20 : decode cX10_tick 20 = .ok (.sipush 20000, 3) := by decide +kernel
theorem dX10_tick_23 : decode cX10_tick 23 = .ok (.if_icmp .le 6, 3) := by decide +kernel
theorem dX10_tick_26 : decode cX10_tick 26 = .ok (.bipush (-4), 2) := by decide +kernel
theorem dX10_tick_28 : decode cX10_tick 28 = .ok (.ireturn, 1) := by decide +kernel
theorem dX10_tick_29 : decode cX10_tick 29 = .ok (.iconst 0, 1) := by decide +kernel
theorem dX10_tick_30 : decode cX10_tick 30 = .ok (.istore_n 2, 1) := by decide +kernel
theorem dX10_tick_31 : decode cX10_tick 31 = .ok (.iload_n 2, 1) := by decide +kernel
theorem dX10_tick_32 : decode cX10_tick 32 = .ok (.iload_n 1, 1) := by decide +kernel
theorem dX10_tick_33 : decode cX10_tick 33 = .ok (.if_icmp .ge 54, 3) := by decide +kernel
theorem dX10_tick_36 : decode cX10_tick 36 = .ok (.aload_n 0, 1) := by decide +kernel
theorem dX10_tick_37 : decode cX10_tick 37 = .ok (.dup, 1) := by decide +kernel
theorem dX10_tick_38 : decode cX10_tick 38 = .ok (.getfield 150, 3) := by decide +kernel
theorem dX10_tick_41 : decode cX10_tick 41 = .ok (.iconst 1, 1) := by decide +kernel
theorem dX10_tick_42 : decode cX10_tick 42 = .ok (.iadd, 1) := by decide +kernel
theorem dX10_tick_43 : decode cX10_tick 43 = .ok (.putfield 150, 3) := by decide +kernel
theorem dX10_tick_46 : decode cX10_tick 46 = .ok (.aload_n 0, 1) := by decide +kernel
theorem dX10_tick_47 : decode cX10_tick 47 = .ok (.invokevirtual 229, 3) := by decide +kernel
theorem dX10_tick_50 : decode cX10_tick 50 = .ok (.aload_n 0, 1) := by decide +kernel
theorem dX10_tick_51 : decode cX10_tick 51 = .ok (.invokevirtual 232, 3) := by decide +kernel
theorem dX10_tick_54 : decode cX10_tick 54 = .ok (.aload_n 0, 1) := by decide +kernel
theorem dX10_tick_55 : decode cX10_tick 55 = .ok (.invokevirtual 235, 3) := by decide +kernel
theorem dX10_tick_58 : decode cX10_tick 58 = .ok (.aload_n 0, 1) := by decide +kernel
theorem dX10_tick_59 : decode cX10_tick 59 = .ok (.getfield 47, 3) := by decide +kernel
theorem dX10_tick_62 : decode cX10_tick 62 = .ok (.aload_n 0, 1) := by decide +kernel
theorem dX10_tick_63 : decode cX10_tick 63 = .ok (.getfield 150, 3) := by decide +kernel
theorem dX10_tick_66 : decode cX10_tick 66 = .ok (.aload_n 0, 1) := by decide +kernel
theorem dX10_tick_67 : decode cX10_tick 67 = .ok (.getfield 33, 3) := by decide +kernel
theorem dX10_tick_70 : decode cX10_tick 70 = .ok (.invokevirtual 238, 3) := by decide +kernel
theorem dX10_tick_73 : decode cX10_tick 73 = .ok (.aload_n 0, 1) := by decide +kernel
theorem dX10_tick_74 : decode cX10_tick 74 = .ok (.invokevirtual 242, 3) := by decide +kernel
theorem dX10_tick_77 : decode cX10_tick 77 = .ok (.aload_n 0, 1) := by decide +kernel
theorem dX10_tick_78 : decode cX10_tick 78 = .ok (.invokevirtual 245, 3) := by decide +kernel
theorem dX10_tick_81 : decode cX10_tick 81 = .ok (.iinc 2 1, 3) := by decide +kernel
theorem dX10_tick_84 : decode cX10_tick 84 = .ok (.goto (-53), 3) := by decide +kernel
theorem dX10_tick_87 : decode cX10_tick 87 = .ok (.aload_n 0, 1) := by decide +kernel
theorem dX10_tick_88 : decode cX10_tick 88 = .ok (.getfield 150, 3) := by decide +kernel
theorem dX10_tick_91 : decode cX10_tick 91 = .ok (.ireturn, 1) := by decide +kernel
theorem dX10_moveCups_0 : decode cX10_moveCups 0 = .ok (.iconst 0, 1) := by decide +kernel
theorem dX10_moveCups_1 : decode cX10_moveCups 1 = .ok (.istore_n 1, 1) := by decide +kernel
theorem dX10_moveCups_2 : decode cX10_moveCups 2 = .ok (.iload_n 1, 1) := by decide +kernel
theorem dX10_moveCups_3 : decode cX10_moveCups 3 = .ok (.aload_n 0, 1) := by decide +kernel
theorem dX10_moveCups_4 : decode cX10_moveCups 4 = .ok (.getfield 126, 3) := by decide +kernel
theorem dX10_moveCups_7 : decode cX10_moveCups 7 = .ok (.if_icmp .ge 74, 3) := by decide +kernel
theorem dX10_moveCups_10 : decode cX10_moveCups 10 = .ok (.aload_n 0, 1) := by decide +kernel
theorem dX10_moveCups_11 : decode cX10_moveCups 11 = .ok (.getfield 17, 3) := by decide +kernel
theorem dX10_moveCups_14 : decode cX10_moveCups 14 = .ok (.iload_n 1, 1) := by decide +kernel
theorem dX10_moveCups_15 : decode cX10_moveCups 15 = .ok (.aaload, 1) := by decide +kernel
theorem dX10_moveCups_16 : decode cX10_moveCups 16 = .ok (.astore_n 2, 1) := by decide +kernel
theorem dX10_moveCups_17 : decode cX10_moveCups 17 = .ok (.aload_n 2, 1) := by decide +kernel
theorem dX10_moveCups_18 : decode cX10_moveCups 18 = .ok (.getfield 164, 3) := by decide +kernel
theorem dX10_moveCups_21 : decode cX10_moveCups 21 = .ok (.iconst 2, 1) := by decide +kernel
theorem dX10_moveCups_22 : decode cX10_moveCups 22 = .ok (.if_icmp .ne 53, 3) := by decide +kernel
theorem dX10_moveCups_25 : decode cX10_moveCups 25 = .ok (.aload_n 2, 1) := by decide +kernel
theorem dX10_moveCups_26 : decode cX10_moveCups 26 = .ok (.getfield 189, 3) := by decide +kernel
theorem dX10_moveCups_29 : decode cX10_moveCups 29 = .ok (.ifnull 46, 3) := by decide +kernel
theorem dX10_moveCups_32 : decode cX10_moveCups 32 = .ok (.aload_n 2, 1) := by decide +kernel
theorem dX10_moveCups_33 : decode cX10_moveCups 33 = .ok (.getfield 189, 3) := by decide +kernel
theorem dX10_moveCups_36 : decode cX10_moveCups 36 = .ok (.getfield 120, 3) := by decide +kernel
theorem dX10_moveCups_39 : decode cX10_moveCups 39 = .ok (.ifCond .eq 36, 3) := by decide +kernel
theorem dX10_moveCups_42 : decode cX10_moveCups 42 = .ok (.aload_n 2, 1) := by decide +kernel
theorem dX10_moveCups_43 : decode cX10_moveCups 43 = .ok (.dup, 1) := by decide +kernel
theorem dX10_moveCups_44 : decode cX10_moveCups 44 = .ok (.getfield 248, 3) := by decide +kernel
theorem dX10_moveCups_47 : decode cX10_moveCups 47 = .ok (.iconst 1, 1) := by decide +kernel
theorem dX10_moveCups_48 : decode cX10_moveCups 48 = .ok (.iadd, 1) := by decide +kernel
theorem dX10_moveCups_49 : decode cX10_moveCups 49 = .ok (.putfield 248, 3) := by decide +kernel
theorem dX10_moveCups_52 : decode cX10_moveCups 52 = .ok (.aload_n 2, 1) := by decide +kernel
theorem dX10_moveCups_53 : decode cX10_moveCups 53 = .ok (.getfield 248, 3) := by decide +kernel
theorem dX10_moveCups_56 : decode cX10_moveCups 56 = .ok (.aload_n 2, 1) := by decide +kernel
theorem dX10_moveCups_57 : decode cX10_moveCups 57 = .ok (.getfield 189, 3) := by decide +kernel
theorem dX10_moveCups_60 : decode cX10_moveCups 60 = .ok (.getfield 87, 3) := by decide +kernel
theorem dX10_moveCups_63 : decode cX10_moveCups 63 = .ok (.if_icmp .lt 12, 3) := by decide +kernel
theorem dX10_moveCups_66 : decode cX10_moveCups 66 = .ok (.aload_n 0, 1) := by decide +kernel
theorem dX10_moveCups_67 : decode cX10_moveCups 67 = .ok (.aload_n 2, 1) := by decide +kernel
theorem dX10_moveCups_68 : decode cX10_moveCups 68 = .ok (.aload_n 2, 1) := by decide +kernel
theorem dX10_moveCups_69 : decode cX10_moveCups 69 = .ok (.getfield 189, 3) := by decide +kernel
theorem dX10_moveCups_72 : decode cX10_moveCups 72 = .ok (.invokevirtual 251, 3) := by decide +kernel
theorem dX10_moveCups_75 : decode cX10_moveCups 75 = .ok (.iinc 1 1, 3) := by decide +kernel
theorem dX10_moveCups_78 : decode cX10_moveCups 78 = .ok (.goto (-76), 3) := by decide +kernel
theorem dX10_moveCups_81 : decode cX10_moveCups 81 = .ok (.return_, 1) := by decide +kernel
theorem dX10_endWire_0 : decode cX10_endWire 0 = .ok (.aload_n 1, 1) := by decide +kernel
theorem dX10_endWire_1 : decode cX10_endWire 1 = .ok (.getfield 212, 3) := by decide +kernel
theorem dX10_endWire_4 : decode cX10_endWire 4 = .ok (.ifCond .ne 12, 3) := by decide +kernel
theorem dX10_endWire_7 : decode cX10_endWire 7 = .ok (.aload_n 0, 1) := by decide +kernel
theorem dX10_endWire_8 : decode cX10_endWire 8 = .ok (.aload_n 1, 1) := by decide +kernel
theorem dX10_endWire_9 : decode cX10_endWire 9 = .ok (.aload_n 2, 1) := by decide +kernel
theorem dX10_endWire_10 : decode cX10_endWire 10 = .ok (.invokevirtual 255, 3) := by decide +kernel
theorem dX10_endWire_13 : decode cX10_endWire 13 = .ok (.goto 16, 3) := by decide +kernel
theorem dX10_endWire_16 : decode cX10_endWire 16 = .ok (.aload_n 2, 1) := by decide +kernel
theorem dX10_endWire_17 : decode cX10_endWire 17 = .ok (.getfield 117, 3) := by decide +kernel
theorem dX10_endWire_20 : decode cX10_endWire 20 = .ok (.ifnull 9, 3) := by decide +kernel
theorem dX10_endWire_23 : decode cX10_endWire 23 = .ok (.aload_n 0, 1) := by decide +kernel
theorem dX10_endWire_24 : decode cX10_endWire 24 = .ok (.aload_n 1, 1) := by decide +kernel
theorem dX10_endWire_25 : decode cX10_endWire 25 = .ok (.aload_n 2, 1) := by decide +kernel
theorem dX10_endWire_26 : decode cX10_endWire 26 = .ok (.invokevirtual 258, 3) := by decide +kernel
theorem dX10_endWire_29 : decode cX10_endWire 29 = .ok (.return_, 1) := by decide +kernel
theorem dX10_comeUp_0 : decode cX10_comeUp 0 = .ok (.aload_n 2, 1) := by decide +kernel
theorem dX10_comeUp_1 : decode cX10_comeUp 1 = .ok (.getfield 117, 3) := by decide +kernel
theorem dX10_comeUp_4 : decode cX10_comeUp 4 = .ok (.getfield 84, 3) := by decide +kernel
theorem dX10_comeUp_7 : decode cX10_comeUp 7 = .ok (.ifCond .ne 17, 3) := by decide +kernel
theorem dX10_comeUp_10 : decode cX10_comeUp 10 = .ok (.aload_n 1, 1) := by decide +kernel
theorem dX10_comeUp_11 : decode cX10_comeUp 11 = .ok (.iconst 3, 1) := by decide +kernel
theorem dX10_comeUp_12 : decode cX10_comeUp 12 = .ok (.invokevirtual 209, 3) := by decide +kernel
theorem dX10_comeUp_15 : decode cX10_comeUp 15 = .ok (.aload_n 1, 1) := by decide +kernel
theorem dX10_comeUp_16 : decode cX10_comeUp 16 = .ok (.aload_n 0, 1) := by decide +kernel
theorem dX10_comeUp_17 : decode cX10_comeUp 17 = .ok (.getfield 150, 3) := by decide +kernel
theorem dX10_comeUp_20 : decode cX10_comeUp 20 = .ok (.putfield 261, 3) := by decide +kernel
theorem dX10_comeUp_23 : decode cX10_comeUp 23 = .ok (.return_, 1) := by decide +kernel
theorem dX10_comeUp_24 : decode cX10_comeUp 24 = .ok (.aload_n 1, 1) := by decide +kernel
theorem dX10_comeUp_25 : decode cX10_comeUp 25 = .ok (.aload_n 2, 1) := by decide +kernel
theorem dX10_comeUp_26 : decode cX10_comeUp 26 = .ok (.getfield 117, 3) := by decide +kernel
theorem dX10_comeUp_29 : decode cX10_comeUp 29 = .ok (.aload_n 0, 1) := by decide +kernel
theorem dX10_comeUp_30 : decode cX10_comeUp 30 = .ok (.getfield 150, 3) := by decide +kernel
theorem dX10_comeUp_33 : decode cX10_comeUp 33 = .ok (.invokevirtual 185, 3) := by decide +kernel
theorem dX10_comeUp_36 : decode cX10_comeUp 36 = .ok (.aload_n 1, 1) := by decide +kernel
theorem dX10_comeUp_37 : decode cX10_comeUp 37 = .ok (.aload_n 2, 1) := by decide +kernel
theorem dX10_comeUp_38 : decode cX10_comeUp 38 = .ok (.putfield 264, 3) := by decide +kernel
theorem dX10_comeUp_41 : decode cX10_comeUp 41 = .ok (.aload_n 0, 1) := by decide +kernel
theorem dX10_comeUp_42 : decode cX10_comeUp 42 = .ok (.aload_n 2, 1) := by decide +kernel
theorem dX10_comeUp_43 : decode cX10_comeUp 43 = .ok (.getfield 117, 3) := by decide +kernel
theorem dX10_comeUp_46 : decode cX10_comeUp 46 = .ok (.invokevirtual 267, 3) := by decide +kernel
theorem dX10_comeUp_49 : decode cX10_comeUp 49 = .ok (.return_, 1) := by decide +kernel
theorem dX10_comeDown_0 : decode cX10_comeDown 0 = .ok (.aload_n 2, 1) := by decide +kernel
theorem dX10_comeDown_1 : decode cX10_comeDown 1 = .ok (.getfield 84, 3) := by decide +kernel
theorem dX10_comeDown_4 : decode cX10_comeDown 4 = .ok (.iconst 1, 1) := by decide +kernel
theorem dX10_comeDown_5 : decode cX10_comeDown 5 = .ok (.if_icmp .ne 26, 3) := by decide +kernel
theorem dX10_comeDown_8 : decode cX10_comeDown 8 = .ok (.aload_n 1, 1) := by decide +kernel
theorem dX10_comeDown_9 : decode cX10_comeDown 9 = .ok (.aload_n 2, 1) := by decide +kernel
theorem dX10_comeDown_10 : decode cX10_comeDown 10 = .ok (.aload_n 0, 1) := by decide +kernel
theorem dX10_comeDown_11 : decode cX10_comeDown 11 = .ok (.aload_n 1, 1) := by decide +kernel
theorem dX10_comeDown_12 : decode cX10_comeDown 12 = .ok (.aload_n 2, 1) := by decide +kernel
theorem dX10_comeDown_13 : decode cX10_comeDown 13 = .ok (.invokevirtual 271, 3) := by decide +kernel
theorem dX10_comeDown_16 : decode cX10_comeDown 16 = .ok (.aload_n 0, 1) := by decide +kernel
theorem dX10_comeDown_17 : decode cX10_comeDown 17 = .ok (.getfield 150, 3) := by decide +kernel
theorem dX10_comeDown_20 : decode cX10_comeDown 20 = .ok (.invokevirtual 275, 3) := by decide +kernel
theorem dX10_comeDown_23 : decode cX10_comeDown 23 = .ok (.aload_n 0, 1) := by decide +kernel
theorem dX10_comeDown_24 : decode cX10_comeDown 24 = .ok (.aload_n 2, 1) := by decide +kernel
theorem dX10_comeDown_25 : decode cX10_comeDown 25 = .ok (.invokevirtual 267, 3) := by decide +kernel
theorem dX10_comeDown_28 : decode cX10_comeDown 28 = .ok (.goto 29, 3) := by decide +kernel
theorem dX10_comeDown_31 : decode cX10_comeDown 31 = .ok (.aload_n 2, 1) := by decide +kernel
theorem dX10_comeDown_32 : decode cX10_comeDown 32 = .ok (.aload_n 1, 1) := by decide +kernel
theorem dX10_comeDown_33 : decode cX10_comeDown 33 = .ok (.getfield 182, 3) := by decide +kernel
theorem dX10_comeDown_36 : decode cX10_comeDown 36 = .ok (.if_acmp .ne 11, 3) := by decide +kernel
theorem dX10_comeDown_39 : decode cX10_comeDown 39 = .ok (.aload_n 0, 1) := by decide +kernel
theorem dX10_comeDown_40 : decode cX10_comeDown 40 = .ok (.aload_n 1, 1) := by decide +kernel
theorem dX10_comeDown_41 : decode cX10_comeDown 41 = .ok (.invokevirtual 279, 3) := by decide +kernel
theorem dX10_comeDown_44 : decode cX10_comeDown 44 = .ok (.goto 13, 3) := by decide +kernel
theorem dX10_comeDown_47 : decode cX10_comeDown 47 = .ok (.aload_n 1, 1) := by decide +kernel
theorem dX10_comeDown_48 : decode cX10_comeDown 48 = .ok (.iconst 5, 1) := by decide +kernel
theorem dX10_comeDown_49 : decode cX10_comeDown 49 = .ok (.invokevirtual 209, 3) := by decide +kernel
theorem dX10_comeDown_52 : decode cX10_comeDown 52 = .ok (.aload_n 1, 1) := by decide +kernel
theorem dX10_comeDown_53 : decode cX10_comeDown 53 = .ok (.aload_n 2, 1) := by decide +kernel
theorem dX10_comeDown_54 : decode cX10_comeDown 54 = .ok (.putfield 189, 3) := by decide +kernel
theorem dX10_comeDown_57 : decode cX10_comeDown 57 = .ok (.return_, 1) := by decide +kernel
theorem dX10_ringAt_0 : decode cX10_ringAt 0 = .ok (.aload_n 1, 1) := by decide +kernel
theorem dX10_ringAt_1 : decode cX10_ringAt 1 = .ok (.getfield 114, 3) := by decide +kernel
theorem dX10_ringAt_4 : decode cX10_ringAt 4 = .ok (.ifCond .ne 18, 3) := by decide +kernel
theorem dX10_ringAt_7 : decode cX10_ringAt 7 = .ok (.aload_n 0, 1) := by decide +kernel
theorem dX10_ringAt_8 : decode cX10_ringAt 8 = .ok (.getfield 54, 3) := by decide +kernel
theorem dX10_ringAt_11 : decode cX10_ringAt 11 = .ok (.aload_n 1, 1) := by decide +kernel
theorem dX10_ringAt_12 : decode cX10_ringAt 12 = .ok (.getfield 97, 3) := by decide +kernel
theorem dX10_ringAt_15 : decode cX10_ringAt 15 = .ok (.aload_n 0, 1) := by decide +kernel
theorem dX10_ringAt_16 : decode cX10_ringAt 16 = .ok (.getfield 150, 3) := by decide +kernel
theorem dX10_ringAt_19 : decode cX10_ringAt 19 = .ok (.invokevirtual 283, 3) := by decide +kernel
theorem dX10_ringAt_22 : decode cX10_ringAt 22 = .ok (.return_, 1) := by decide +kernel
theorem dX10_thrownTo_0 : decode cX10_thrownTo 0 = .ok (.aload_n 2, 1) := by decide +kernel
theorem dX10_thrownTo_1 : decode cX10_thrownTo 1 = .ok (.invokevirtual 286, 3) := by decide +kernel
theorem dX10_thrownTo_4 : decode cX10_thrownTo 4 = .ok (.istore_n 3, 1) := by decide +kernel
theorem dX10_thrownTo_5 : decode cX10_thrownTo 5 = .ok (.aload_n 1, 1) := by decide +kernel
theorem dX10_thrownTo_6 : decode cX10_thrownTo 6 = .ok (.getfield 182, 3) := by decide +kernel
theorem dX10_thrownTo_9 : decode cX10_thrownTo 9 = .ok (.aload_n 2, 1) := by decide +kernel
theorem dX10_thrownTo_10 : decode cX10_thrownTo 10 = .ok (.invokestatic 290, 3) := by decide +kernel
theorem dX10_thrownTo_13 : decode cX10_thrownTo 13 = .ok (.astore 4, 2) := by decide +kernel
theorem dX10_thrownTo_15 : decode cX10_thrownTo 15 = .ok (.aload 4, 2) := by decide +kernel
theorem dX10_thrownTo_17 : decode cX10_thrownTo 17 = .ok (.ifnonnull 11, 3) := by decide +kernel
theorem dX10_thrownTo_20 : decode cX10_thrownTo 20 = .ok (.aload_n 0, 1) := by decide +kernel
theorem dX10_thrownTo_21 : decode cX10_thrownTo 21 = .ok (.aload_n 2, 1) := by decide +kernel
theorem dX10_thrownTo_22 : decode cX10_thrownTo 22 = .ok (.iconst 0, 1) := by decide +kernel
theorem dX10_thrownTo_23 : decode cX10_thrownTo 23 = .ok (.invokevirtual 294, 3) := by decide +kernel
theorem dX10_thrownTo_26 : decode cX10_thrownTo 26 = .ok (.astore 4, 2) := by decide +kernel
theorem dX10_thrownTo_28 : decode cX10_thrownTo 28 = .ok (.iload_n 3, 1) := by decide +kernel
theorem dX10_thrownTo_29 : decode cX10_thrownTo 29 = .ok (.ifCond .eq 21, 3) := by decide +kernel
theorem dX10_thrownTo_32 : decode cX10_thrownTo 32 = .ok (.aload 4, 2) := by decide +kernel
theorem dX10_thrownTo_34 : decode cX10_thrownTo 34 = .ok (.ifnull 16, 3) := by decide +kernel
theorem dX10_thrownTo_37 : decode cX10_thrownTo 37 = .ok (.aload_n 0, 1) := by decide +kernel
theorem dX10_thrownTo_38 : decode cX10_thrownTo 38 = .ok (.aload_n 2, 1) := by decide +kernel
theorem dX10_thrownTo_39 : decode cX10_thrownTo 39 = .ok (.aload 4, 2) := by decide +kernel
theorem dX10_thrownTo_41 : decode cX10_thrownTo 41 = .ok (.getfield 97, 3) := by decide +kernel
theorem dX10_thrownTo_44 : decode cX10_thrownTo 44 = .ok (.invokevirtual 294, 3) := by decide +kernel
theorem dX10_thrownTo_47 : decode cX10_thrownTo 47 = .ok (.goto 5, 3) := by decide +kernel
theorem dX10_thrownTo_50 : decode cX10_thrownTo 50 = .ok (.aload 4, 2) := by decide +kernel
theorem dX10_thrownTo_52 : decode cX10_thrownTo 52 = .ok (.areturn, 1) := by decide +kernel
theorem dX10_rightChild_0 : decode cX10_rightChild 0 = .ok (.aload_n 0, 1) := by decide +kernel
theorem dX10_rightChild_1 : decode cX10_rightChild 1 = .ok (.astore_n 2, 1) := by decide +kernel
theorem dX10_rightChild_2 : decode cX10_rightChild 2 = .ok (.aload_n 2, 1) := by decide +kernel
theorem dX10_rightChild_3 : decode cX10_rightChild 3 = .ok (.ifnull 21, 3) := by decide +kernel
theorem dX10_rightChild_6 : decode cX10_rightChild 6 = .ok (.aload_n 2, 1) := by decide +kernel
theorem dX10_rightChild_7 : decode cX10_rightChild 7 = .ok (.getfield 117, 3) := by decide +kernel
theorem dX10_rightChild_10 : decode cX10_rightChild 10 = .ok (.aload_n 1, 1) := by decide +kernel
theorem dX10_rightChild_11 : decode cX10_rightChild 11 = .ok (.if_acmp .ne 5, 3) := by decide +kernel
theorem dX10_rightChild_14 : decode cX10_rightChild 14 = .ok (.aload_n 2, 1) := by decide +kernel
theorem dX10_rightChild_15 : decode cX10_rightChild 15 = .ok (.areturn, 1) := by decide +kernel
theorem dX10_rightChild_16 : decode cX10_rightChild 16 = .ok (.aload_n 2, 1) := by decide +kernel
theorem dX10_rightChild_17 : decode cX10_rightChild 17 = .ok (.getfield 117, 3) := by decide +kernel
theorem dX10_rightChild_20 : decode cX10_rightChild 20 = .ok (.astore_n 2, 1) := by decide +kernel
theorem dX10_rightChild_21 : decode cX10_rightChild 21 = .ok (.goto (-19), 3) := by decide +kernel
theorem dX10_rightChild_24 : decode cX10_rightChild 24 = .ok (.aconst_null, 1) := by decide +kernel
theorem dX10_rightChild_25 : decode cX10_rightChild 25 = .ok (.areturn, 1) := by decide +kernel
theorem dX10_childBehind_0 : decode cX10_childBehind 0 = .ok (.aconst_null, 1) := by decide +kernel
theorem dX10_childBehind_1 : decode cX10_childBehind 1 = .ok (.astore_n 3, 1) := by decide +kernel
theorem dX10_childBehind_2 : decode cX10_childBehind 2 = .ok (.iconst 1, 1) := by decide +kernel
theorem dX10_childBehind_3 : decode cX10_childBehind 3 = .ok (.istore 4, 2) := by decide +kernel
theorem dX10_childBehind_5 : decode cX10_childBehind 5 = .ok (.iload 4, 2) := by decide +kernel
theorem dX10_childBehind_7 : decode cX10_childBehind 7 = .ok (.aload_n 0, 1) := by decide +kernel
theorem dX10_childBehind_8 : decode cX10_childBehind 8 = .ok (.getfield 72, 3) := by decide +kernel
theorem dX10_childBehind_11 : decode cX10_childBehind 11 = .ok (.if_icmp .ge 46, 3) := by decide +kernel
theorem dX10_childBehind_14 : decode cX10_childBehind 14 = .ok (.aload_n 0, 1) := by decide +kernel
theorem dX10_childBehind_15 : decode cX10_childBehind 15 = .ok (.getfield 11, 3) := by decide +kernel
theorem dX10_childBehind_18 : decode cX10_childBehind 18 = .ok (.iload 4, 2) := by decide +kernel
theorem dX10_childBehind_20 : decode cX10_childBehind 20 = .ok (.aaload, 1) := by decide +kernel
theorem dX10_childBehind_21 : decode cX10_childBehind 21 = .ok (.astore 5, 2) := by decide +kernel
theorem dX10_childBehind_23 : decode cX10_childBehind 23 = .ok (.aload 5, 2) := by decide +kernel
theorem dX10_childBehind_25 : decode cX10_childBehind 25 = .ok (.getfield 117, 3) := by decide +kernel
theorem dX10_childBehind_28 : decode cX10_childBehind 28 = .ok (.aload_n 1, 1) := by decide +kernel
theorem dX10_childBehind_29 : decode cX10_childBehind 29 = .ok (.if_acmp .ne 22, 3) := by decide +kernel
theorem dX10_childBehind_32 : decode cX10_childBehind 32 = .ok (.aload 5, 2) := by decide +kernel
theorem dX10_childBehind_34 : decode cX10_childBehind 34 = .ok (.getfield 97, 3) := by decide +kernel
theorem dX10_childBehind_37 : decode cX10_childBehind 37 = .ok (.iload_n 2, 1) := by decide +kernel
theorem dX10_childBehind_38 : decode cX10_childBehind 38 = .ok (.if_icmp .le 6, 3) := by decide +kernel
theorem dX10_childBehind_41 : decode cX10_childBehind 41 = .ok (.aload 5, 2) := by decide +kernel
theorem dX10_childBehind_43 : decode cX10_childBehind 43 = .ok (.areturn, 1) := by decide +kernel
theorem dX10_childBehind_44 : decode cX10_childBehind 44 = .ok (.aload_n 3, 1) := by decide +kernel
theorem dX10_childBehind_45 : decode cX10_childBehind 45 = .ok (.ifnonnull 6, 3) := by decide +kernel
theorem dX10_childBehind_48 : decode cX10_childBehind 48 = .ok (.aload 5, 2) := by decide +kernel
theorem dX10_childBehind_50 : decode cX10_childBehind 50 = .ok (.astore_n 3, 1) := by decide +kernel
theorem dX10_childBehind_51 : decode cX10_childBehind 51 = .ok (.iinc 4 1, 3) := by decide +kernel
theorem dX10_childBehind_54 : decode cX10_childBehind 54 = .ok (.goto (-49), 3) := by decide +kernel
theorem dX10_childBehind_57 : decode cX10_childBehind 57 = .ok (.aload_n 3, 1) := by decide +kernel
theorem dX10_childBehind_58 : decode cX10_childBehind 58 = .ok (.areturn, 1) := by decide +kernel
theorem dX10_comeHome_0 : decode cX10_comeHome 0 = .ok (.aload_n 1, 1) := by decide +kernel
theorem dX10_comeHome_1 : decode cX10_comeHome 1 = .ok (.getfield 167, 3) := by decide +kernel
theorem dX10_comeHome_4 : decode cX10_comeHome 4 = .ok (.invokevirtual 298, 3) := by decide +kernel
theorem dX10_comeHome_7 : decode cX10_comeHome 7 = .ok (.istore_n 2, 1) := by decide +kernel
theorem dX10_comeHome_8 : decode cX10_comeHome 8 = .ok (.aload_n 0, 1) := by decide +kernel
theorem dX10_comeHome_9 : decode cX10_comeHome 9 = .ok (.dup, 1) := by decide +kernel
theorem dX10_comeHome_10 : decode cX10_comeHome 10 = .ok (.getfield 301, 3) := by decide +kernel
theorem dX10_comeHome_13 : decode cX10_comeHome 13 = .ok (.iload_n 2, 1) := by decide +kernel
theorem dX10_comeHome_14 : decode cX10_comeHome 14 = .ok (.iadd, 1) := by decide +kernel
theorem dX10_comeHome_15 : decode cX10_comeHome 15 = .ok (.putfield 301, 3) := by decide +kernel
theorem dX10_comeHome_18 : decode cX10_comeHome 18 = .ok (.aload_n 1, 1) := by decide +kernel
theorem dX10_comeHome_19 : decode cX10_comeHome 19 = .ok (.getfield 182, 3) := by decide +kernel
theorem dX10_comeHome_22 : decode cX10_comeHome 22 = .ok (.getfield 304, 3) := by decide +kernel
theorem dX10_comeHome_25 : decode cX10_comeHome 25 = .ok (.iload_n 2, 1) := by decide +kernel
theorem dX10_comeHome_26 : decode cX10_comeHome 26 = .ok (.invokevirtual 308, 3) := by decide +kernel
theorem dX10_comeHome_29 : decode cX10_comeHome 29 = .ok (.aload_n 1, 1) := by decide +kernel
theorem dX10_comeHome_30 : decode cX10_comeHome 30 = .ok (.getfield 167, 3) := by decide +kernel
theorem dX10_comeHome_33 : decode cX10_comeHome 33 = .ok (.invokevirtual 313, 3) := by decide +kernel
theorem dX10_comeHome_36 : decode cX10_comeHome 36 = .ok (.aload_n 1, 1) := by decide +kernel
theorem dX10_comeHome_37 : decode cX10_comeHome 37 = .ok (.getfield 170, 3) := by decide +kernel
theorem dX10_comeHome_40 : decode cX10_comeHome 40 = .ok (.ifCond .eq 35, 3) := by decide +kernel
theorem dX10_comeHome_43 : decode cX10_comeHome 43 = .ok (.aload_n 1, 1) := by decide +kernel
theorem dX10_comeHome_44 : decode cX10_comeHome 44 = .ok (.getfield 182, 3) := by decide +kernel
theorem dX10_comeHome_47 : decode cX10_comeHome 47 = .ok (.getfield 304, 3) := by decide +kernel
theorem dX10_comeHome_50 : decode cX10_comeHome 50 = .ok (.aload_n 0, 1) := by decide +kernel
theorem dX10_comeHome_51 : decode cX10_comeHome 51 = .ok (.getfield 150, 3) := by decide +kernel
theorem dX10_comeHome_54 : decode cX10_comeHome 54 = .ok (.aload_n 1, 1) := by decide +kernel
theorem dX10_comeHome_55 : decode cX10_comeHome 55 = .ok (.getfield 176, 3) := by decide +kernel
theorem dX10_comeHome_58 : decode cX10_comeHome 58 = .ok (.isub, 1) := by decide +kernel
theorem dX10_comeHome_59 : decode cX10_comeHome 59 = .ok (.aload_n 1, 1) := by decide +kernel
theorem dX10_comeHome_60 : decode cX10_comeHome 60 = .ok (.getfield 170, 3) := by decide +kernel
theorem dX10_comeHome_63 : decode cX10_comeHome 63 = .ok (.iconst 3, 1) := by decide +kernel
theorem dX10_comeHome_64 : decode cX10_comeHome 64 = .ok (.if_icmp .ne 7, 3) := by decide +kernel
theorem dX10_comeHome_67 : decode cX10_comeHome 67 = .ok (.iconst 1, 1) := by decide +kernel
theorem dX10_comeHome_68 : decode cX10_comeHome 68 = .ok (.goto 4, 3) := by decide +kernel
theorem dX10_comeHome_71 : decode cX10_comeHome 71 = .ok (.iconst 0, 1) := by decide +kernel
theorem dX10_comeHome_72 : decode cX10_comeHome 72 = .ok (.invokevirtual 316, 3) := by decide +kernel
theorem dX10_comeHome_75 : decode cX10_comeHome 75 = .ok (.aload_n 1, 1) := by decide +kernel
theorem dX10_comeHome_76 : decode cX10_comeHome 76 = .ok (.iconst 0, 1) := by decide +kernel
theorem dX10_comeHome_77 : decode cX10_comeHome 77 = .ok (.putfield 170, 3) := by decide +kernel
theorem dX10_comeHome_80 : decode cX10_comeHome 80 = .ok (.aload_n 1, 1) := by decide +kernel
theorem dX10_comeHome_81 : decode cX10_comeHome 81 = .ok (.iconst 0, 1) := by decide +kernel
theorem dX10_comeHome_82 : decode cX10_comeHome 82 = .ok (.invokevirtual 209, 3) := by decide +kernel
theorem dX10_comeHome_85 : decode cX10_comeHome 85 = .ok (.aload_n 1, 1) := by decide +kernel
theorem dX10_comeHome_86 : decode cX10_comeHome 86 = .ok (.aload_n 1, 1) := by decide +kernel
theorem dX10_comeHome_87 : decode cX10_comeHome 87 = .ok (.getfield 182, 3) := by decide +kernel
theorem dX10_comeHome_90 : decode cX10_comeHome 90 = .ok (.putfield 189, 3) := by decide +kernel
theorem dX10_comeHome_93 : decode cX10_comeHome 93 = .ok (.return_, 1) := by decide +kernel
theorem dX10_porterCups_0 : decode cX10_porterCups 0 = .ok (.iconst 0, 1) := by decide +kernel
theorem dX10_porterCups_1 : decode cX10_porterCups 1 = .ok (.istore_n 1, 1) := by decide +kernel
theorem dX10_porterCups_2 : decode cX10_porterCups 2 = .ok (.iload_n 1, 1) := by decide +kernel
theorem dX10_porterCups_3 : decode cX10_porterCups 3 = .ok (.aload_n 0, 1) := by decide +kernel
theorem dX10_porterCups_4 : decode cX10_porterCups 4 = .ok (.getfield 126, 3) := by decide +kernel
theorem dX10_porterCups_7 : decode cX10_porterCups 7 = .ok (.if_icmp .ge 41, 3) := by decide +kernel
theorem dX10_porterCups_10 : decode cX10_porterCups 10 = .ok (.aload_n 0, 1) := by decide +kernel
theorem dX10_porterCups_11 : decode cX10_porterCups 11 = .ok (.getfield 17, 3) := by decide +kernel
theorem dX10_porterCups_14 : decode cX10_porterCups 14 = .ok (.iload_n 1, 1) := by decide +kernel
theorem dX10_porterCups_15 : decode cX10_porterCups 15 = .ok (.aaload, 1) := by decide +kernel
theorem dX10_porterCups_16 : decode cX10_porterCups 16 = .ok (.astore_n 2, 1) := by decide +kernel
theorem dX10_porterCups_17 : decode cX10_porterCups 17 = .ok (.aload_n 2, 1) := by decide +kernel
theorem dX10_porterCups_18 : decode cX10_porterCups 18 = .ok (.getfield 164, 3) := by decide +kernel
theorem dX10_porterCups_21 : decode cX10_porterCups 21 = .ok (.bipush 6, 2) := by decide +kernel
theorem dX10_porterCups_23 : decode cX10_porterCups 23 = .ok (.if_icmp .ne 19, 3) := by decide +kernel
theorem dX10_porterCups_26 : decode cX10_porterCups 26 = .ok (.aload_n 2, 1) := by decide +kernel
theorem dX10_porterCups_27 : decode cX10_porterCups 27 = .ok (.getfield 206, 3) := by decide +kernel
theorem dX10_porterCups_30 : decode cX10_porterCups 30 = .ok (.aload_n 0, 1) := by decide +kernel
theorem dX10_porterCups_31 : decode cX10_porterCups 31 = .ok (.getfield 150, 3) := by decide +kernel
theorem dX10_porterCups_34 : decode cX10_porterCups 34 = .ok (.if_icmp .ne 8, 3) := by decide +kernel
theorem dX10_porterCups_37 : decode cX10_porterCups 37 = .ok (.aload_n 0, 1) := by decide +kernel
theorem dX10_porterCups_38 : decode cX10_porterCups 38 = .ok (.aload_n 2, 1) := by decide +kernel
theorem dX10_porterCups_39 : decode cX10_porterCups 39 = .ok (.invokevirtual 279, 3) := by decide +kernel
theorem dX10_porterCups_42 : decode cX10_porterCups 42 = .ok (.iinc 1 1, 3) := by decide +kernel
theorem dX10_porterCups_45 : decode cX10_porterCups 45 = .ok (.goto (-43), 3) := by decide +kernel
theorem dX10_porterCups_48 : decode cX10_porterCups 48 = .ok (.return_, 1) := by decide +kernel
theorem dX10_workClerks_0 : decode cX10_workClerks 0 = .ok (.iconst 0, 1) := by decide +kernel
theorem dX10_workClerks_1 : decode cX10_workClerks 1 = .ok (.istore_n 1, 1) := by decide +kernel
theorem dX10_workClerks_2 : decode cX10_workClerks 2 = .ok (.iload_n 1, 1) := by decide +kernel
theorem dX10_workClerks_3 : decode cX10_workClerks 3 = .ok (.aload_n 0, 1) := by decide +kernel
theorem dX10_workClerks_4 : decode cX10_workClerks 4 = .ok (.getfield 133, 3) := by decide +kernel
theorem dX10_workClerks_7 : decode cX10_workClerks 7 = .ok (.if_icmp .ge 49, 3) := by decide +kernel
theorem dX10_workClerks_10 : decode cX10_workClerks 10 = .ok (.aload_n 0, 1) := by decide +kernel
theorem dX10_workClerks_11 : decode cX10_workClerks 11 = .ok (.getfield 23, 3) := by decide +kernel
theorem dX10_workClerks_14 : decode cX10_workClerks 14 = .ok (.iload_n 1, 1) := by decide +kernel
theorem dX10_workClerks_15 : decode cX10_workClerks 15 = .ok (.aaload, 1) := by decide +kernel
theorem dX10_workClerks_16 : decode cX10_workClerks 16 = .ok (.astore_n 2, 1) := by decide +kernel
theorem dX10_workClerks_17 : decode cX10_workClerks 17 = .ok (.aload_n 2, 1) := by decide +kernel
theorem dX10_workClerks_18 : decode cX10_workClerks 18 = .ok (.getfield 320, 3) := by decide +kernel
theorem dX10_workClerks_21 : decode cX10_workClerks 21 = .ok (.ifnull 29, 3) := by decide +kernel
theorem dX10_workClerks_24 : decode cX10_workClerks 24 = .ok (.aload_n 2, 1) := by decide +kernel
theorem dX10_workClerks_25 : decode cX10_workClerks 25 = .ok (.dup, 1) := by decide +kernel
theorem dX10_workClerks_26 : decode cX10_workClerks 26 = .ok (.getfield 324, 3) := by decide +kernel
theorem dX10_workClerks_29 : decode cX10_workClerks 29 = .ok (.iconst 1, 1) := by decide +kernel
theorem dX10_workClerks_30 : decode cX10_workClerks 30 = .ok (.isub, 1) := by decide +kernel
theorem dX10_workClerks_31 : decode cX10_workClerks 31 = .ok (.putfield 324, 3) := by decide +kernel
theorem dX10_workClerks_34 : decode cX10_workClerks 34 = .ok (.aload_n 2, 1) := by decide +kernel
theorem dX10_workClerks_35 : decode cX10_workClerks 35 = .ok (.getfield 324, 3) := by decide +kernel
theorem dX10_workClerks_38 : decode cX10_workClerks 38 = .ok (.ifCond .ne 12, 3) := by decide +kernel
theorem dX10_workClerks_41 : decode cX10_workClerks 41 = .ok (.aload_n 0, 1) := by decide +kernel
theorem dX10_workClerks_42 : decode cX10_workClerks 42 = .ok (.aload_n 2, 1) := by decide +kernel
theorem dX10_workClerks_43 : decode cX10_workClerks 43 = .ok (.aload_n 2, 1) := by decide +kernel
theorem dX10_workClerks_44 : decode cX10_workClerks 44 = .ok (.getfield 320, 3) := by decide +kernel
theorem dX10_workClerks_47 : decode cX10_workClerks 47 = .ok (.invokevirtual 327, 3) := by decide +kernel
theorem dX10_workClerks_50 : decode cX10_workClerks 50 = .ok (.iinc 1 1, 3) := by decide +kernel
theorem dX10_workClerks_53 : decode cX10_workClerks 53 = .ok (.goto (-51), 3) := by decide +kernel
theorem dX10_workClerks_56 : decode cX10_workClerks 56 = .ok (.return_, 1) := by decide +kernel
theorem dX10_finish_0 : decode cX10_finish 0 = .ok (.aload_n 1, 1) := by decide +kernel
theorem dX10_finish_1 : decode cX10_finish 1 = .ok (.aconst_null, 1) := by decide +kernel
theorem dX10_finish_2 : decode cX10_finish 2 = .ok (.putfield 320, 3) := by decide +kernel
theorem dX10_finish_5 : decode cX10_finish 5 = .ok (.aload_n 2, 1) := by decide +kernel
theorem dX10_finish_6 : decode cX10_finish 6 = .ok (.getfield 170, 3) := by decide +kernel
theorem dX10_finish_9 : decode cX10_finish 9 = .ok (.iconst 1, 1) := by decide +kernel
theorem dX10_finish_10 : decode cX10_finish 10 = .ok (.if_icmp .ne 8, 3) := by decide +kernel
theorem dX10_finish_13 : decode cX10_finish 13 = .ok (.aload_n 0, 1) := by decide +kernel
theorem dX10_finish_14 : decode cX10_finish 14 = .ok (.aload_n 2, 1) := by decide +kernel
theorem dX10_finish_15 : decode cX10_finish 15 = .ok (.invokevirtual 330, 3) := by decide +kernel
theorem dX10_finish_18 : decode cX10_finish 18 = .ok (.aload_n 2, 1) := by decide +kernel
theorem dX10_finish_19 : decode cX10_finish 19 = .ok (.aload_n 0, 1) := by decide +kernel
theorem dX10_finish_20 : decode cX10_finish 20 = .ok (.getfield 68, 3) := by decide +kernel
theorem dX10_finish_23 : decode cX10_finish 23 = .ok (.aload_n 2, 1) := by decide +kernel
theorem dX10_finish_24 : decode cX10_finish 24 = .ok (.getfield 182, 3) := by decide +kernel
theorem dX10_finish_27 : decode cX10_finish 27 = .ok (.aload_n 0, 1) := by decide +kernel
theorem dX10_finish_28 : decode cX10_finish 28 = .ok (.getfield 68, 3) := by decide +kernel
theorem dX10_finish_31 : decode cX10_finish 31 = .ok (.invokestatic 290, 3) := by decide +kernel
theorem dX10_finish_34 : decode cX10_finish 34 = .ok (.aload_n 0, 1) := by decide +kernel
theorem dX10_finish_35 : decode cX10_finish 35 = .ok (.getfield 150, 3) := by decide +kernel
theorem dX10_finish_38 : decode cX10_finish 38 = .ok (.invokevirtual 275, 3) := by decide +kernel
theorem dX10_finish_41 : decode cX10_finish 41 = .ok (.return_, 1) := by decide +kernel
theorem dX10_settle_0 : decode cX10_settle 0 = .ok (.aload_n 1, 1) := by decide +kernel
theorem dX10_settle_1 : decode cX10_settle 1 = .ok (.getfield 167, 3) := by decide +kernel
theorem dX10_settle_4 : decode cX10_settle 4 = .ok (.invokevirtual 298, 3) := by decide +kernel
theorem dX10_settle_7 : decode cX10_settle 7 = .ok (.aload_n 1, 1) := by decide +kernel
theorem dX10_settle_8 : decode cX10_settle 8 = .ok (.getfield 173, 3) := by decide +kernel
theorem dX10_settle_11 : decode cX10_settle 11 = .ok (.isub, 1) := by decide +kernel
theorem dX10_settle_12 : decode cX10_settle 12 = .ok (.istore_n 2, 1) := by decide +kernel
theorem dX10_settle_13 : decode cX10_settle 13 = .ok (.aload_n 0, 1) := by decide +kernel
theorem dX10_settle_14 : decode cX10_settle 14 = .ok (.getfield 33, 3) := by decide +kernel
theorem dX10_settle_17 : decode cX10_settle 17 = .ok (.aload_n 1, 1) := by decide +kernel
theorem dX10_settle_18 : decode cX10_settle 18 = .ok (.getfield 167, 3) := by decide +kernel
theorem dX10_settle_21 : decode cX10_settle 21 = .ok (.getfield 143, 3) := by decide +kernel
theorem dX10_settle_24 : decode cX10_settle 24 = .ok (.invokevirtual 333, 3) := by decide +kernel
theorem dX10_settle_27 : decode cX10_settle 27 = .ok (.aload_n 0, 1) := by decide +kernel
theorem dX10_settle_28 : decode cX10_settle 28 = .ok (.getfield 40, 3) := by decide +kernel
theorem dX10_settle_31 : decode cX10_settle 31 = .ok (.aload_n 0, 1) := by decide +kernel
theorem dX10_settle_32 : decode cX10_settle 32 = .ok (.getfield 33, 3) := by decide +kernel
theorem dX10_settle_35 : decode cX10_settle 35 = .ok (.getfield 143, 3) := by decide +kernel
theorem dX10_settle_38 : decode cX10_settle 38 = .ok (.iload_n 2, 1) := by decide +kernel
theorem dX10_settle_39 : decode cX10_settle 39 = .ok (.invokevirtual 337, 3) := by decide +kernel
theorem dX10_settle_42 : decode cX10_settle 42 = .ok (.bipush (-9), 2) := by decide +kernel
theorem dX10_settle_44 : decode cX10_settle 44 = .ok (.if_icmp .ne 23, 3) := by decide +kernel
theorem dX10_settle_47 : decode cX10_settle 47 = .ok (.aload_n 0, 1) := by decide +kernel
theorem dX10_settle_48 : decode cX10_settle 48 = .ok (.getfield 33, 3) := by decide +kernel
theorem dX10_settle_51 : decode cX10_settle 51 = .ok (.aload_n 1, 1) := by decide +kernel
theorem dX10_settle_52 : decode cX10_settle 52 = .ok (.getfield 167, 3) := by decide +kernel
theorem dX10_settle_55 : decode cX10_settle 55 = .ok (.getfield 143, 3) := by decide +kernel
theorem dX10_settle_58 : decode cX10_settle 58 = .ok (.invokevirtual 341, 3) := by decide +kernel
theorem dX10_settle_61 : decode cX10_settle 61 = .ok (.aload_n 1, 1) := by decide +kernel
theorem dX10_settle_62 : decode cX10_settle 62 = .ok (.iconst 3, 1) := by decide +kernel
theorem dX10_settle_63 : decode cX10_settle 63 = .ok (.putfield 170, 3) := by decide +kernel
theorem dX10_settle_66 : decode cX10_settle 66 = .ok (.return_, 1) := by decide +kernel
theorem dX10_settle_67 : decode cX10_settle 67 = .ok (.aload_n 0, 1) := by decide +kernel
theorem dX10_settle_68 : decode cX10_settle 68 = .ok (.getfield 33, 3) := by decide +kernel
theorem dX10_settle_71 : decode cX10_settle 71 = .ok (.aload_n 0, 1) := by decide +kernel
theorem dX10_settle_72 : decode cX10_settle 72 = .ok (.getfield 40, 3) := by decide +kernel
theorem dX10_settle_75 : decode cX10_settle 75 = .ok (.getfield 344, 3) := by decide +kernel
theorem dX10_settle_78 : decode cX10_settle 78 = .ok (.invokevirtual 341, 3) := by decide +kernel
theorem dX10_settle_81 : decode cX10_settle 81 = .ok (.aload_n 1, 1) := by decide +kernel
theorem dX10_settle_82 : decode cX10_settle 82 = .ok (.getfield 167, 3) := by decide +kernel
theorem dX10_settle_85 : decode cX10_settle 85 = .ok (.invokevirtual 313, 3) := by decide +kernel
theorem dX10_settle_88 : decode cX10_settle 88 = .ok (.aload_n 1, 1) := by decide +kernel
theorem dX10_settle_89 : decode cX10_settle 89 = .ok (.getfield 167, 3) := by decide +kernel
theorem dX10_settle_92 : decode cX10_settle 92 = .ok (.aload_n 0, 1) := by decide +kernel
theorem dX10_settle_93 : decode cX10_settle 93 = .ok (.getfield 40, 3) := by decide +kernel
theorem dX10_settle_96 : decode cX10_settle 96 = .ok (.getfield 344, 3) := by decide +kernel
theorem dX10_settle_99 : decode cX10_settle 99 = .ok (.invokevirtual 333, 3) := by decide +kernel
theorem dX10_settle_102 : decode cX10_settle 102 = .ok (.aload_n 1, 1) := by decide +kernel
theorem dX10_settle_103 : decode cX10_settle 103 = .ok (.iconst 2, 1) := by decide +kernel
theorem dX10_settle_104 : decode cX10_settle 104 = .ok (.putfield 170, 3) := by decide +kernel
theorem dX10_settle_107 : decode cX10_settle 107 = .ok (.return_, 1) := by decide +kernel
theorem dX10_takeFromRow_0 : decode cX10_takeFromRow 0 = .ok (.iconst 0, 1) := by decide +kernel
theorem dX10_takeFromRow_1 : decode cX10_takeFromRow 1 = .ok (.istore_n 1, 1) := by decide +kernel
theorem dX10_takeFromRow_2 : decode cX10_takeFromRow 2 = .ok (.iload_n 1, 1) := by decide +kernel
theorem dX10_takeFromRow_3 : decode cX10_takeFromRow 3 = .ok (.aload_n 0, 1) := by decide +kernel
theorem dX10_takeFromRow_4 : decode cX10_takeFromRow 4 = .ok (.getfield 133, 3) := by decide +kernel
theorem dX10_takeFromRow_7 : decode cX10_takeFromRow 7 = .ok (.if_icmp .ge 56, 3) := by decide +kernel
theorem dX10_takeFromRow_10 : decode cX10_takeFromRow 10 = .ok (.aload_n 0, 1) := by decide +kernel
theorem dX10_takeFromRow_11 : decode cX10_takeFromRow 11 = .ok (.getfield 23, 3) := by decide +kernel
theorem dX10_takeFromRow_14 : decode cX10_takeFromRow 14 = .ok (.iload_n 1, 1) := by decide +kernel
theorem dX10_takeFromRow_15 : decode cX10_takeFromRow 15 = .ok (.aaload, 1) := by decide +kernel
theorem dX10_takeFromRow_16 : decode cX10_takeFromRow 16 = .ok (.astore_n 2, 1) := by decide +kernel
theorem dX10_takeFromRow_17 : decode cX10_takeFromRow 17 = .ok (.aload_n 2, 1) := by decide +kernel
theorem dX10_takeFromRow_18 : decode cX10_takeFromRow 18 = .ok (.getfield 320, 3) := by decide +kernel
theorem dX10_takeFromRow_21 : decode cX10_takeFromRow 21 = .ok (.ifnonnull 36, 3) := by decide +kernel
theorem dX10_takeFromRow_24 : decode cX10_takeFromRow 24 = .ok (.aload_n 0, 1) := by decide +kernel
theorem dX10_takeFromRow_25 : decode cX10_takeFromRow 25 = .ok (.invokevirtual 347, 3) := by decide +kernel
theorem dX10_takeFromRow_28 : decode cX10_takeFromRow 28 = .ok (.astore_n 3, 1) := by decide +kernel
theorem dX10_takeFromRow_29 : decode cX10_takeFromRow 29 = .ok (.aload_n 3, 1) := by decide +kernel
theorem dX10_takeFromRow_30 : decode cX10_takeFromRow 30 = .ok (.ifnonnull 4, 3) := by decide +kernel
theorem dX10_takeFromRow_33 : decode cX10_takeFromRow 33 = .ok (.return_, 1) := by decide +kernel
theorem dX10_takeFromRow_34 : decode cX10_takeFromRow 34 = .ok (.aload_n 3, 1) := by decide +kernel
theorem dX10_takeFromRow_35 : decode cX10_takeFromRow 35 = .ok (.iconst 4, 1) := by decide +kernel
theorem dX10_takeFromRow_36 : decode cX10_takeFromRow 36 = .ok (.invokevirtual 209, 3) := by decide +kernel
theorem dX10_takeFromRow_39 : decode cX10_takeFromRow 39 = .ok (.aload_n 3, 1) := by decide +kernel
theorem dX10_takeFromRow_40 : decode cX10_takeFromRow 40 = .ok (.aload_n 2, 1) := by decide +kernel
theorem dX10_takeFromRow_41 : decode cX10_takeFromRow 41 = .ok (.putfield 351, 3) := by decide +kernel
theorem dX10_takeFromRow_44 : decode cX10_takeFromRow 44 = .ok (.aload_n 2, 1) := by decide +kernel
theorem dX10_takeFromRow_45 : decode cX10_takeFromRow 45 = .ok (.aload_n 3, 1) := by decide +kernel
theorem dX10_takeFromRow_46 : decode cX10_takeFromRow 46 = .ok (.putfield 320, 3) := by decide +kernel
theorem dX10_takeFromRow_49 : decode cX10_takeFromRow 49 = .ok (.aload_n 2, 1) := by decide +kernel
theorem dX10_takeFromRow_50 : decode cX10_takeFromRow 50 = .ok (.aload_n 2, 1) := by decide +kernel
theorem dX10_takeFromRow_51 : decode cX10_takeFromRow 51 = .ok (.getfield 355, 3) := by decide +kernel
theorem dX10_takeFromRow_54 : decode cX10_takeFromRow 54 = .ok (.putfield 324, 3) := by decide +kernel
theorem dX10_takeFromRow_57 : decode cX10_takeFromRow 57 = .ok (.iinc 1 1, 3) := by decide +kernel
theorem dX10_takeFromRow_60 : decode cX10_takeFromRow 60 = .ok (.goto (-58), 3) := by decide +kernel
theorem dX10_takeFromRow_63 : decode cX10_takeFromRow 63 = .ok (.return_, 1) := by decide +kernel
theorem dX10_nextOfRow_0 : decode cX10_nextOfRow 0 = .ok (.aconst_null, 1) := by decide +kernel
theorem dX10_nextOfRow_1 : decode cX10_nextOfRow 1 = .ok (.astore_n 1, 1) := by decide +kernel
theorem dX10_nextOfRow_2 : decode cX10_nextOfRow 2 = .ok (.iconst 0, 1) := by decide +kernel
theorem dX10_nextOfRow_3 : decode cX10_nextOfRow 3 = .ok (.istore_n 2, 1) := by decide +kernel
theorem dX10_nextOfRow_4 : decode cX10_nextOfRow 4 = .ok (.iload_n 2, 1) := by decide +kernel
theorem dX10_nextOfRow_5 : decode cX10_nextOfRow 5 = .ok (.aload_n 0, 1) := by decide +kernel
theorem dX10_nextOfRow_6 : decode cX10_nextOfRow 6 = .ok (.getfield 126, 3) := by decide +kernel
theorem dX10_nextOfRow_9 : decode cX10_nextOfRow 9 = .ok (.if_icmp .ge 42, 3) := by decide +kernel
theorem dX10_nextOfRow_12 : decode cX10_nextOfRow 12 = .ok (.aload_n 0, 1) := by decide +kernel
theorem dX10_nextOfRow_13 : decode cX10_nextOfRow 13 = .ok (.getfield 17, 3) := by decide +kernel
theorem dX10_nextOfRow_16 : decode cX10_nextOfRow 16 = .ok (.iload_n 2, 1) := by decide +kernel
theorem dX10_nextOfRow_17 : decode cX10_nextOfRow 17 = .ok (.aaload, 1) := by decide +kernel
theorem dX10_nextOfRow_18 : decode cX10_nextOfRow 18 = .ok (.astore_n 3, 1) := by decide +kernel
theorem dX10_nextOfRow_19 : decode cX10_nextOfRow 19 = .ok (.aload_n 3, 1) := by decide +kernel
theorem dX10_nextOfRow_20 : decode cX10_nextOfRow 20 = .ok (.getfield 164, 3) := by decide +kernel
theorem dX10_nextOfRow_23 : decode cX10_nextOfRow 23 = .ok (.iconst 3, 1) := by decide +kernel
theorem dX10_nextOfRow_24 : decode cX10_nextOfRow 24 = .ok (.if_icmp .ne 21, 3) := by decide +kernel
theorem dX10_nextOfRow_27 : decode cX10_nextOfRow 27 = .ok (.aload_n 1, 1) := by decide +kernel
theorem dX10_nextOfRow_28 : decode cX10_nextOfRow 28 = .ok (.ifnull 15, 3) := by decide +kernel
theorem dX10_nextOfRow_31 : decode cX10_nextOfRow 31 = .ok (.aload_n 3, 1) := by decide +kernel
theorem dX10_nextOfRow_32 : decode cX10_nextOfRow 32 = .ok (.aload_n 1, 1) := by decide +kernel
theorem dX10_nextOfRow_33 : decode cX10_nextOfRow 33 = .ok (.aload_n 0, 1) := by decide +kernel
theorem dX10_nextOfRow_34 : decode cX10_nextOfRow 34 = .ok (.getfield 140, 3) := by decide +kernel
theorem dX10_nextOfRow_37 : decode cX10_nextOfRow 37 = .ok (.invokevirtual 358, 3) := by decide +kernel
theorem dX10_nextOfRow_40 : decode cX10_nextOfRow 40 = .ok (.ifCond .eq 5, 3) := by decide +kernel
theorem dX10_nextOfRow_43 : decode cX10_nextOfRow 43 = .ok (.aload_n 3, 1) := by decide +kernel
theorem dX10_nextOfRow_44 : decode cX10_nextOfRow 44 = .ok (.astore_n 1, 1) := by decide +kernel
theorem dX10_nextOfRow_45 : decode cX10_nextOfRow 45 = .ok (.iinc 2 1, 3) := by decide +kernel
theorem dX10_nextOfRow_48 : decode cX10_nextOfRow 48 = .ok (.goto (-44), 3) := by decide +kernel
theorem dX10_nextOfRow_51 : decode cX10_nextOfRow 51 = .ok (.aload_n 1, 1) := by decide +kernel
theorem dX10_nextOfRow_52 : decode cX10_nextOfRow 52 = .ok (.areturn, 1) := by decide +kernel
theorem dX10_letOnWires_0 : decode cX10_letOnWires 0 = .ok (.iconst 1, 1) := by decide +kernel
theorem dX10_letOnWires_1 : decode cX10_letOnWires 1 = .ok (.istore_n 1, 1) := by decide +kernel
theorem dX10_letOnWires_2 : decode cX10_letOnWires 2 = .ok (.iload_n 1, 1) := by decide +kernel
theorem dX10_letOnWires_3 : decode cX10_letOnWires 3 = .ok (.aload_n 0, 1) := by decide +kernel
theorem dX10_letOnWires_4 : decode cX10_letOnWires 4 = .ok (.getfield 72, 3) := by decide +kernel
theorem dX10_letOnWires_7 : decode cX10_letOnWires 7 = .ok (.if_icmp .ge 33, 3) := by decide +kernel
theorem dX10_letOnWires_10 : decode cX10_letOnWires 10 = .ok (.aload_n 0, 1) := by decide +kernel
theorem dX10_letOnWires_11 : decode cX10_letOnWires 11 = .ok (.getfield 11, 3) := by decide +kernel
theorem dX10_letOnWires_14 : decode cX10_letOnWires 14 = .ok (.iload_n 1, 1) := by decide +kernel
theorem dX10_letOnWires_15 : decode cX10_letOnWires 15 = .ok (.aaload, 1) := by decide +kernel
theorem dX10_letOnWires_16 : decode cX10_letOnWires 16 = .ok (.getfield 362, 3) := by decide +kernel
theorem dX10_letOnWires_19 : decode cX10_letOnWires 19 = .ok (.invokevirtual 366, 3) := by decide +kernel
theorem dX10_letOnWires_22 : decode cX10_letOnWires 22 = .ok (.aload_n 0, 1) := by decide +kernel
theorem dX10_letOnWires_23 : decode cX10_letOnWires 23 = .ok (.getfield 11, 3) := by decide +kernel
theorem dX10_letOnWires_26 : decode cX10_letOnWires 26 = .ok (.iload_n 1, 1) := by decide +kernel
theorem dX10_letOnWires_27 : decode cX10_letOnWires 27 = .ok (.aaload, 1) := by decide +kernel
theorem dX10_letOnWires_28 : decode cX10_letOnWires 28 = .ok (.getfield 371, 3) := by decide +kernel
theorem dX10_letOnWires_31 : decode cX10_letOnWires 31 = .ok (.invokevirtual 366, 3) := by decide +kernel
theorem dX10_letOnWires_34 : decode cX10_letOnWires 34 = .ok (.iinc 1 1, 3) := by decide +kernel
theorem dX10_letOnWires_37 : decode cX10_letOnWires 37 = .ok (.goto (-35), 3) := by decide +kernel
theorem dX10_letOnWires_40 : decode cX10_letOnWires 40 = .ok (.iconst 0, 1) := by decide +kernel
theorem dX10_letOnWires_41 : decode cX10_letOnWires 41 = .ok (.istore_n 1, 1) := by decide +kernel
theorem dX10_letOnWires_42 : decode cX10_letOnWires 42 = .ok (.iload_n 1, 1) := by decide +kernel
theorem dX10_letOnWires_43 : decode cX10_letOnWires 43 = .ok (.aload_n 0, 1) := by decide +kernel
theorem dX10_letOnWires_44 : decode cX10_letOnWires 44 = .ok (.getfield 126, 3) := by decide +kernel
theorem dX10_letOnWires_47 : decode cX10_letOnWires 47 = .ok (.if_icmp .ge 18, 3) := by decide +kernel
theorem dX10_letOnWires_50 : decode cX10_letOnWires 50 = .ok (.aload_n 0, 1) := by decide +kernel
theorem dX10_letOnWires_51 : decode cX10_letOnWires 51 = .ok (.getfield 17, 3) := by decide +kernel
theorem dX10_letOnWires_54 : decode cX10_letOnWires 54 = .ok (.iload_n 1, 1) := by decide +kernel
theorem dX10_letOnWires_55 : decode cX10_letOnWires 55 = .ok (.aaload, 1) := by decide +kernel
theorem dX10_letOnWires_56 : decode cX10_letOnWires 56 = .ok (.invokestatic 374, 3) := by decide +kernel
theorem dX10_letOnWires_59 : decode cX10_letOnWires 59 = .ok (.iinc 1 1, 3) := by decide +kernel
theorem dX10_letOnWires_62 : decode cX10_letOnWires 62 = .ok (.goto (-20), 3) := by decide +kernel
theorem dX10_letOnWires_65 : decode cX10_letOnWires 65 = .ok (.iconst 1, 1) := by decide +kernel
theorem dX10_letOnWires_66 : decode cX10_letOnWires 66 = .ok (.istore_n 1, 1) := by decide +kernel
theorem dX10_letOnWires_67 : decode cX10_letOnWires 67 = .ok (.iload_n 1, 1) := by decide +kernel
theorem dX10_letOnWires_68 : decode cX10_letOnWires 68 = .ok (.aload_n 0, 1) := by decide +kernel
theorem dX10_letOnWires_69 : decode cX10_letOnWires 69 = .ok (.getfield 72, 3) := by decide +kernel
theorem dX10_letOnWires_72 : decode cX10_letOnWires 72 = .ok (.if_icmp .ge 31, 3) := by decide +kernel
theorem dX10_letOnWires_75 : decode cX10_letOnWires 75 = .ok (.aload_n 0, 1) := by decide +kernel
theorem dX10_letOnWires_76 : decode cX10_letOnWires 76 = .ok (.getfield 11, 3) := by decide +kernel
theorem dX10_letOnWires_79 : decode cX10_letOnWires 79 = .ok (.iload_n 1, 1) := by decide +kernel
theorem dX10_letOnWires_80 : decode cX10_letOnWires 80 = .ok (.aaload, 1) := by decide +kernel
theorem dX10_letOnWires_81 : decode cX10_letOnWires 81 = .ok (.getfield 120, 3) := by decide +kernel
theorem dX10_letOnWires_84 : decode cX10_letOnWires 84 = .ok (.ifCond .eq 13, 3) := by decide +kernel
theorem dX10_letOnWires_87 : decode cX10_letOnWires 87 = .ok (.aload_n 0, 1) := by decide +kernel
theorem dX10_letOnWires_88 : decode cX10_letOnWires 88 = .ok (.aload_n 0, 1) := by decide +kernel
theorem dX10_letOnWires_89 : decode cX10_letOnWires 89 = .ok (.getfield 11, 3) := by decide +kernel
theorem dX10_letOnWires_92 : decode cX10_letOnWires 92 = .ok (.iload_n 1, 1) := by decide +kernel
theorem dX10_letOnWires_93 : decode cX10_letOnWires 93 = .ok (.aaload, 1) := by decide +kernel
theorem dX10_letOnWires_94 : decode cX10_letOnWires 94 = .ok (.invokevirtual 377, 3) := by decide +kernel
theorem dX10_letOnWires_97 : decode cX10_letOnWires 97 = .ok (.iinc 1 1, 3) := by decide +kernel
theorem dX10_letOnWires_100 : decode cX10_letOnWires 100 = .ok (.goto (-33), 3) := by decide +kernel
theorem dX10_letOnWires_103 : decode cX10_letOnWires 103 = .ok (.return_, 1) := by decide +kernel
theorem dX10_noteOnWires_0 : decode cX10_noteOnWires 0 = .ok (.aload_n 0, 1) := by decide +kernel
theorem dX10_noteOnWires_1 : decode cX10_noteOnWires 1 = .ok (.getfield 189, 3) := by decide +kernel
theorem dX10_noteOnWires_4 : decode cX10_noteOnWires 4 = .ok (.astore_n 1, 1) := by decide +kernel
theorem dX10_noteOnWires_5 : decode cX10_noteOnWires 5 = .ok (.aload_n 1, 1) := by decide +kernel
theorem dX10_noteOnWires_6 : decode cX10_noteOnWires 6 = .ok (.ifnonnull 4, 3) := by decide +kernel
theorem dX10_noteOnWires_9 : decode cX10_noteOnWires 9 = .ok (.return_, 1) := by decide +kernel
theorem dX10_noteOnWires_10 : decode cX10_noteOnWires 10 = .ok (.aload_n 0, 1) := by decide +kernel
theorem dX10_noteOnWires_11 : decode cX10_noteOnWires 11 = .ok (.getfield 164, 3) := by decide +kernel
theorem dX10_noteOnWires_14 : decode cX10_noteOnWires 14 = .ok (.iconst 2, 1) := by decide +kernel
theorem dX10_noteOnWires_15 : decode cX10_noteOnWires 15 = .ok (.if_icmp .ne 31, 3) := by decide +kernel
theorem dX10_noteOnWires_18 : decode cX10_noteOnWires 18 = .ok (.aload_n 0, 1) := by decide +kernel
theorem dX10_noteOnWires_19 : decode cX10_noteOnWires 19 = .ok (.getfield 212, 3) := by decide +kernel
theorem dX10_noteOnWires_22 : decode cX10_noteOnWires 22 = .ok (.ifCond .eq 10, 3) := by decide +kernel
theorem dX10_noteOnWires_25 : decode cX10_noteOnWires 25 = .ok (.aload_n 1, 1) := by decide +kernel
theorem dX10_noteOnWires_26 : decode cX10_noteOnWires 26 = .ok (.getfield 362, 3) := by decide +kernel
theorem dX10_noteOnWires_29 : decode cX10_noteOnWires 29 = .ok (.goto 7, 3) := by decide +kernel
theorem dX10_noteOnWires_32 : decode cX10_noteOnWires 32 = .ok (.aload_n 1, 1) := by decide +kernel
theorem dX10_noteOnWires_33 : decode cX10_noteOnWires 33 = .ok (.getfield 371, 3) := by decide +kernel
theorem dX10_noteOnWires_36 : decode cX10_noteOnWires 36 = .ok (.aload_n 0, 1) := by decide +kernel
theorem dX10_noteOnWires_37 : decode cX10_noteOnWires 37 = .ok (.getfield 248, 3) := by decide +kernel
theorem dX10_noteOnWires_40 : decode cX10_noteOnWires 40 = .ok (.invokevirtual 380, 3) := by decide +kernel
theorem dX10_noteOnWires_43 : decode cX10_noteOnWires 43 = .ok (.goto 64, 3) := by decide +kernel
theorem dX10_noteOnWires_46 : decode cX10_noteOnWires 46 = .ok (.aload_n 0, 1) := by decide +kernel
theorem dX10_noteOnWires_47 : decode cX10_noteOnWires 47 = .ok (.getfield 164, 3) := by decide +kernel
theorem dX10_noteOnWires_50 : decode cX10_noteOnWires 50 = .ok (.iconst 1, 1) := by decide +kernel
theorem dX10_noteOnWires_51 : decode cX10_noteOnWires 51 = .ok (.if_icmp .ne 29, 3) := by decide +kernel
theorem dX10_noteOnWires_54 : decode cX10_noteOnWires 54 = .ok (.aload_n 0, 1) := by decide +kernel
theorem dX10_noteOnWires_55 : decode cX10_noteOnWires 55 = .ok (.getfield 212, 3) := by decide +kernel
theorem dX10_noteOnWires_58 : decode cX10_noteOnWires 58 = .ok (.ifCond .eq 22, 3) := by decide +kernel
theorem dX10_noteOnWires_61 : decode cX10_noteOnWires 61 = .ok (.aload_n 1, 1) := by decide +kernel
theorem dX10_noteOnWires_62 : decode cX10_noteOnWires 62 = .ok (.getfield 362, 3) := by decide +kernel
theorem dX10_noteOnWires_65 : decode cX10_noteOnWires 65 = .ok (.aload_n 0, 1) := by decide +kernel
theorem dX10_noteOnWires_66 : decode cX10_noteOnWires 66 = .ok (.aload_n 1, 1) := by decide +kernel
theorem dX10_noteOnWires_67 : decode cX10_noteOnWires 67 = .ok (.aload_n 0, 1) := by decide +kernel
theorem dX10_noteOnWires_68 : decode cX10_noteOnWires 68 = .ok (.getfield 264, 3) := by decide +kernel
theorem dX10_noteOnWires_71 : decode cX10_noteOnWires 71 = .ok (.invokevirtual 383, 3) := by decide +kernel
theorem dX10_noteOnWires_74 : decode cX10_noteOnWires 74 = .ok (.invokevirtual 387, 3) := by decide +kernel
theorem dX10_noteOnWires_77 : decode cX10_noteOnWires 77 = .ok (.goto 30, 3) := by decide +kernel
theorem dX10_noteOnWires_80 : decode cX10_noteOnWires 80 = .ok (.aload_n 0, 1) := by decide +kernel
theorem dX10_noteOnWires_81 : decode cX10_noteOnWires 81 = .ok (.getfield 164, 3) := by decide +kernel
theorem dX10_noteOnWires_84 : decode cX10_noteOnWires 84 = .ok (.iconst 1, 1) := by decide +kernel
theorem dX10_noteOnWires_85 : decode cX10_noteOnWires 85 = .ok (.if_icmp .ne 22, 3) := by decide +kernel
theorem dX10_noteOnWires_88 : decode cX10_noteOnWires 88 = .ok (.aload_n 0, 1) := by decide +kernel
theorem dX10_noteOnWires_89 : decode cX10_noteOnWires 89 = .ok (.getfield 215, 3) := by decide +kernel
theorem dX10_noteOnWires_92 : decode cX10_noteOnWires 92 = .ok (.ifnull 15, 3) := by decide +kernel
theorem dX10_noteOnWires_95 : decode cX10_noteOnWires 95 = .ok (.aload_n 0, 1) := by decide +kernel
theorem dX10_noteOnWires_96 : decode cX10_noteOnWires 96 = .ok (.getfield 215, 3) := by decide +kernel
theorem dX10_noteOnWires_99 : decode cX10_noteOnWires 99 = .ok (.getfield 371, 3) := by decide +kernel
theorem dX10_noteOnWires_102 : decode cX10_noteOnWires 102 = .ok (.aload_n 0, 1) := by decide +kernel
theorem dX10_noteOnWires_103 : decode cX10_noteOnWires 103 = .ok (.iconst 0, 1) := by decide +kernel
theorem dX10_noteOnWires_104 : decode cX10_noteOnWires 104 = .ok (.invokevirtual 387, 3) := by decide +kernel
theorem dX10_noteOnWires_107 : decode cX10_noteOnWires 107 = .ok (.return_, 1) := by decide +kernel
theorem dX10_letOn_0 : decode cX10_letOn 0 = .ok (.aload_n 1, 1) := by decide +kernel
theorem dX10_letOn_1 : decode cX10_letOn 1 = .ok (.getfield 362, 3) := by decide +kernel
theorem dX10_letOn_4 : decode cX10_letOn 4 = .ok (.getfield 391, 3) := by decide +kernel
theorem dX10_letOn_7 : decode cX10_letOn 7 = .ok (.astore_n 2, 1) := by decide +kernel
theorem dX10_letOn_8 : decode cX10_letOn 8 = .ok (.aload_n 1, 1) := by decide +kernel
theorem dX10_letOn_9 : decode cX10_letOn 9 = .ok (.getfield 371, 3) := by decide +kernel
theorem dX10_letOn_12 : decode cX10_letOn 12 = .ok (.getfield 391, 3) := by decide +kernel
theorem dX10_letOn_15 : decode cX10_letOn 15 = .ok (.astore_n 3, 1) := by decide +kernel
theorem dX10_letOn_16 : decode cX10_letOn 16 = .ok (.aload_n 2, 1) := by decide +kernel
theorem dX10_letOn_17 : decode cX10_letOn 17 = .ok (.ifnull 23, 3) := by decide +kernel
theorem dX10_letOn_20 : decode cX10_letOn 20 = .ok (.aload_n 0, 1) := by decide +kernel
theorem dX10_letOn_21 : decode cX10_letOn 21 = .ok (.aload_n 1, 1) := by decide +kernel
theorem dX10_letOn_22 : decode cX10_letOn 22 = .ok (.aload_n 1, 1) := by decide +kernel
theorem dX10_letOn_23 : decode cX10_letOn 23 = .ok (.getfield 362, 3) := by decide +kernel
theorem dX10_letOn_26 : decode cX10_letOn 26 = .ok (.aload_n 1, 1) := by decide +kernel
theorem dX10_letOn_27 : decode cX10_letOn 27 = .ok (.getfield 371, 3) := by decide +kernel
theorem dX10_letOn_30 : decode cX10_letOn 30 = .ok (.invokevirtual 394, 3) := by decide +kernel
theorem dX10_letOn_33 : decode cX10_letOn 33 = .ok (.ifCond .eq 7, 3) := by decide +kernel
theorem dX10_letOn_36 : decode cX10_letOn 36 = .ok (.iconst 1, 1) := by decide +kernel
theorem dX10_letOn_37 : decode cX10_letOn 37 = .ok (.goto 4, 3) := by decide +kernel
theorem dX10_letOn_40 : decode cX10_letOn 40 = .ok (.iconst 0, 1) := by decide +kernel
theorem dX10_letOn_41 : decode cX10_letOn 41 = .ok (.istore 4, 2) := by decide +kernel
theorem dX10_letOn_43 : decode cX10_letOn 43 = .ok (.aload_n 3, 1) := by decide +kernel
theorem dX10_letOn_44 : decode cX10_letOn 44 = .ok (.ifnull 23, 3) := by decide +kernel
theorem dX10_letOn_47 : decode cX10_letOn 47 = .ok (.aload_n 0, 1) := by decide +kernel
theorem dX10_letOn_48 : decode cX10_letOn 48 = .ok (.aload_n 1, 1) := by decide +kernel
theorem dX10_letOn_49 : decode cX10_letOn 49 = .ok (.aload_n 1, 1) := by decide +kernel
theorem dX10_letOn_50 : decode cX10_letOn 50 = .ok (.getfield 371, 3) := by decide +kernel
theorem dX10_letOn_53 : decode cX10_letOn 53 = .ok (.aload_n 1, 1) := by decide +kernel
theorem dX10_letOn_54 : decode cX10_letOn 54 = .ok (.getfield 362, 3) := by decide +kernel
theorem dX10_letOn_57 : decode cX10_letOn 57 = .ok (.invokevirtual 394, 3) := by decide +kernel
theorem dX10_letOn_60 : decode cX10_letOn 60 = .ok (.ifCond .eq 7, 3) := by decide +kernel
theorem dX10_letOn_63 : decode cX10_letOn 63 = .ok (.iconst 1, 1) := by decide +kernel
theorem dX10_letOn_64 : decode cX10_letOn 64 = .ok (.goto 4, 3) := by decide +kernel
theorem dX10_letOn_67 : decode cX10_letOn 67 = .ok (.iconst 0, 1) := by decide +kernel
theorem dX10_letOn_68 : decode cX10_letOn 68 = .ok (.istore 5, 2) := by decide +kernel
theorem dX10_letOn_70 : decode cX10_letOn 70 = .ok (.iload 4, 2) := by decide +kernel
theorem dX10_letOn_72 : decode cX10_letOn 72 = .ok (.ifCond .eq 45, 3) := by decide +kernel
theorem dX10_letOn_75 : decode cX10_letOn 75 = .ok (.iload 5, 2) := by decide +kernel
theorem dX10_letOn_77 : decode cX10_letOn 77 = .ok (.ifCond .eq 40, 3) := by decide +kernel
theorem dX10_letOn_80 : decode cX10_letOn 80 = .ok (.aload_n 1, 1) := by decide +kernel
theorem dX10_letOn_81 : decode cX10_letOn 81 = .ok (.getfield 93, 3) := by decide +kernel
theorem dX10_letOn_84 : decode cX10_letOn 84 = .ok (.ifCond .ne 33, 3) := by decide +kernel
theorem dX10_letOn_87 : decode cX10_letOn 87 = .ok (.aload_n 2, 1) := by decide +kernel
theorem dX10_letOn_88 : decode cX10_letOn 88 = .ok (.getfield 261, 3) := by decide +kernel
theorem dX10_letOn_91 : decode cX10_letOn 91 = .ok (.aload_n 3, 1) := by decide +kernel
theorem dX10_letOn_92 : decode cX10_letOn 92 = .ok (.getfield 261, 3) := by decide +kernel
theorem dX10_letOn_95 : decode cX10_letOn 95 = .ok (.if_icmp .gt 7, 3) := by decide +kernel
theorem dX10_letOn_98 : decode cX10_letOn 98 = .ok (.iconst 1, 1) := by decide +kernel
theorem dX10_letOn_99 : decode cX10_letOn 99 = .ok (.goto 4, 3) := by decide +kernel
theorem dX10_letOn_102 : decode cX10_letOn 102 = .ok (.iconst 0, 1) := by decide +kernel
theorem dX10_letOn_103 : decode cX10_letOn 103 = .ok (.istore 4, 2) := by decide +kernel
theorem dX10_letOn_105 : decode cX10_letOn 105 = .ok (.iload 4, 2) := by decide +kernel
theorem dX10_letOn_107 : decode cX10_letOn 107 = .ok (.ifCond .ne 7, 3) := by decide +kernel
theorem dX10_letOn_110 : decode cX10_letOn 110 = .ok (.iconst 1, 1) := by decide +kernel
theorem dX10_letOn_111 : decode cX10_letOn 111 = .ok (.goto 4, 3) := by decide +kernel
theorem dX10_letOn_114 : decode cX10_letOn 114 = .ok (.iconst 0, 1) := by decide +kernel
theorem dX10_letOn_115 : decode cX10_letOn 115 = .ok (.istore 5, 2) := by decide +kernel
theorem dX10_letOn_117 : decode cX10_letOn 117 = .ok (.iload 4, 2) := by decide +kernel
theorem dX10_letOn_119 : decode cX10_letOn 119 = .ok (.ifCond .eq 45, 3) := by decide +kernel
theorem dX10_letOn_122 : decode cX10_letOn 122 = .ok (.aload_n 1, 1) := by decide +kernel
theorem dX10_letOn_123 : decode cX10_letOn 123 = .ok (.aload_n 2, 1) := by decide +kernel
theorem dX10_letOn_124 : decode cX10_letOn 124 = .ok (.getfield 264, 3) := by decide +kernel
theorem dX10_letOn_127 : decode cX10_letOn 127 = .ok (.ifnonnull 10, 3) := by decide +kernel
theorem dX10_letOn_130 : decode cX10_letOn 130 = .ok (.aload_n 1, 1) := by decide +kernel
theorem dX10_letOn_131 : decode cX10_letOn 131 = .ok (.getfield 398, 3) := by decide +kernel
theorem dX10_letOn_134 : decode cX10_letOn 134 = .ok (.goto 10, 3) := by decide +kernel
theorem dX10_letOn_137 : decode cX10_letOn 137 = .ok (.aload_n 2, 1) := by decide +kernel
theorem dX10_letOn_138 : decode cX10_letOn 138 = .ok (.getfield 264, 3) := by decide +kernel
theorem dX10_letOn_141 : decode cX10_letOn 141 = .ok (.getfield 97, 3) := by decide +kernel
theorem dX10_letOn_144 : decode cX10_letOn 144 = .ok (.putfield 398, 3) := by decide +kernel
theorem dX10_letOn_147 : decode cX10_letOn 147 = .ok (.aload_n 1, 1) := by decide +kernel
theorem dX10_letOn_148 : decode cX10_letOn 148 = .ok (.getfield 362, 3) := by decide +kernel
theorem dX10_letOn_151 : decode cX10_letOn 151 = .ok (.aload_n 0, 1) := by decide +kernel
theorem dX10_letOn_152 : decode cX10_letOn 152 = .ok (.getfield 150, 3) := by decide +kernel
theorem dX10_letOn_155 : decode cX10_letOn 155 = .ok (.putfield 401, 3) := by decide +kernel
theorem dX10_letOn_158 : decode cX10_letOn 158 = .ok (.aload_n 2, 1) := by decide +kernel
theorem dX10_letOn_159 : decode cX10_letOn 159 = .ok (.aload_n 1, 1) := by decide +kernel
theorem dX10_letOn_160 : decode cX10_letOn 160 = .ok (.iconst 1, 1) := by decide +kernel
theorem dX10_letOn_161 : decode cX10_letOn 161 = .ok (.invokevirtual 404, 3) := by decide +kernel
theorem dX10_letOn_164 : decode cX10_letOn 164 = .ok (.iload 5, 2) := by decide +kernel
theorem dX10_letOn_166 : decode cX10_letOn 166 = .ok (.ifCond .eq 20, 3) := by decide +kernel
theorem dX10_letOn_169 : decode cX10_letOn 169 = .ok (.aload_n 1, 1) := by decide +kernel
theorem dX10_letOn_170 : decode cX10_letOn 170 = .ok (.getfield 371, 3) := by decide +kernel
theorem dX10_letOn_173 : decode cX10_letOn 173 = .ok (.aload_n 0, 1) := by decide +kernel
theorem dX10_letOn_174 : decode cX10_letOn 174 = .ok (.getfield 150, 3) := by decide +kernel
theorem dX10_letOn_177 : decode cX10_letOn 177 = .ok (.putfield 401, 3) := by decide +kernel
theorem dX10_letOn_180 : decode cX10_letOn 180 = .ok (.aload_n 3, 1) := by decide +kernel
theorem dX10_letOn_181 : decode cX10_letOn 181 = .ok (.aload_n 1, 1) := by decide +kernel
theorem dX10_letOn_182 : decode cX10_letOn 182 = .ok (.iconst 0, 1) := by decide +kernel
theorem dX10_letOn_183 : decode cX10_letOn 183 = .ok (.invokevirtual 404, 3) := by decide +kernel
theorem dX10_letOn_186 : decode cX10_letOn 186 = .ok (.return_, 1) := by decide +kernel
theorem dX10_isFree_0 : decode cX10_isFree 0 = .ok (.aload_n 2, 1) := by decide +kernel
theorem dX10_isFree_1 : decode cX10_isFree 1 = .ok (.getfield 408, 3) := by decide +kernel
theorem dX10_isFree_4 : decode cX10_isFree 4 = .ok (.aload_n 1, 1) := by decide +kernel
theorem dX10_isFree_5 : decode cX10_isFree 5 = .ok (.getfield 90, 3) := by decide +kernel
theorem dX10_isFree_8 : decode cX10_isFree 8 = .ok (.if_icmp .lt 19, 3) := by decide +kernel
theorem dX10_isFree_11 : decode cX10_isFree 11 = .ok (.aload_n 0, 1) := by decide +kernel
theorem dX10_isFree_12 : decode cX10_isFree 12 = .ok (.getfield 150, 3) := by decide +kernel
theorem dX10_isFree_15 : decode cX10_isFree 15 = .ok (.aload_n 2, 1) := by decide +kernel
theorem dX10_isFree_16 : decode cX10_isFree 16 = .ok (.getfield 401, 3) := by decide +kernel
theorem dX10_isFree_19 : decode cX10_isFree 19 = .ok (.isub, 1) := by decide +kernel
theorem dX10_isFree_20 : decode cX10_isFree 20 = .ok (.aload_n 1, 1) := by decide +kernel
theorem dX10_isFree_21 : decode cX10_isFree 21 = .ok (.getfield 90, 3) := by decide +kernel
theorem dX10_isFree_24 : decode cX10_isFree 24 = .ok (.if_icmp .ge 5, 3) := by decide +kernel
theorem dX10_isFree_27 : decode cX10_isFree 27 = .ok (.iconst 0, 1) := by decide +kernel
theorem dX10_isFree_28 : decode cX10_isFree 28 = .ok (.ireturn, 1) := by decide +kernel
theorem dX10_isFree_29 : decode cX10_isFree 29 = .ok (.aload_n 1, 1) := by decide +kernel
theorem dX10_isFree_30 : decode cX10_isFree 30 = .ok (.getfield 93, 3) := by decide +kernel
theorem dX10_isFree_33 : decode cX10_isFree 33 = .ok (.ifCond .ne 26, 3) := by decide +kernel
theorem dX10_isFree_36 : decode cX10_isFree 36 = .ok (.aload_n 3, 1) := by decide +kernel
theorem dX10_isFree_37 : decode cX10_isFree 37 = .ok (.getfield 411, 3) := by decide +kernel
theorem dX10_isFree_40 : decode cX10_isFree 40 = .ok (.ifCond .ne 23, 3) := by decide +kernel
theorem dX10_isFree_43 : decode cX10_isFree 43 = .ok (.aload_n 0, 1) := by decide +kernel
theorem dX10_isFree_44 : decode cX10_isFree 44 = .ok (.getfield 150, 3) := by decide +kernel
theorem dX10_isFree_47 : decode cX10_isFree 47 = .ok (.aload_n 3, 1) := by decide +kernel
theorem dX10_isFree_48 : decode cX10_isFree 48 = .ok (.getfield 401, 3) := by decide +kernel
theorem dX10_isFree_51 : decode cX10_isFree 51 = .ok (.isub, 1) := by decide +kernel
theorem dX10_isFree_52 : decode cX10_isFree 52 = .ok (.aload_n 1, 1) := by decide +kernel
theorem dX10_isFree_53 : decode cX10_isFree 53 = .ok (.getfield 90, 3) := by decide +kernel
theorem dX10_isFree_56 : decode cX10_isFree 56 = .ok (.if_icmp .lt 7, 3) := by decide +kernel
theorem dX10_isFree_59 : decode cX10_isFree 59 = .ok (.iconst 1, 1) := by decide +kernel
theorem dX10_isFree_60 : decode cX10_isFree 60 = .ok (.goto 4, 3) := by decide +kernel
theorem dX10_isFree_63 : decode cX10_isFree 63 = .ok (.iconst 0, 1) := by decide +kernel
theorem dX10_isFree_64 : decode cX10_isFree 64 = .ok (.ireturn, 1) := by decide +kernel
theorem dX10_row_0 : decode cX10_row 0 = .ok (.aload_n 0, 1) := by decide +kernel
theorem dX10_row_1 : decode cX10_row 1 = .ok (.aload_n 0, 1) := by decide +kernel
theorem dX10_row_2 : decode cX10_row 2 = .ok (.getfield 140, 3) := by decide +kernel
theorem dX10_row_5 : decode cX10_row 5 = .ok (.invokevirtual 414, 3) := by decide +kernel
theorem dX10_row_8 : decode cX10_row 8 = .ok (.istore_n 2, 1) := by decide +kernel
theorem dX10_row_9 : decode cX10_row 9 = .ok (.iload_n 1, 1) := by decide +kernel
theorem dX10_row_10 : decode cX10_row 10 = .ok (.ifCond .lt 8, 3) := by decide +kernel
theorem dX10_row_13 : decode cX10_row 13 = .ok (.iload_n 1, 1) := by decide +kernel
theorem dX10_row_14 : decode cX10_row 14 = .ok (.iload_n 2, 1) := by decide +kernel
theorem dX10_row_15 : decode cX10_row 15 = .ok (.if_icmp .lt 8, 3) := by decide +kernel
theorem dX10_row_18 : decode cX10_row 18 = .ok (.bipush (-9), 2) := by decide +kernel
theorem dX10_row_20 : decode cX10_row 20 = .ok (.goto 12, 3) := by decide +kernel
theorem dX10_row_23 : decode cX10_row 23 = .ok (.aload_n 0, 1) := by decide +kernel
theorem dX10_row_24 : decode cX10_row 24 = .ok (.getfield 27, 3) := by decide +kernel
theorem dX10_row_27 : decode cX10_row 27 = .ok (.iload_n 1, 1) := by decide +kernel
theorem dX10_row_28 : decode cX10_row 28 = .ok (.aaload, 1) := by decide +kernel
theorem dX10_row_29 : decode cX10_row 29 = .ok (.getfield 132, 3) := by decide +kernel
theorem dX10_row_32 : decode cX10_row 32 = .ok (.ireturn, 1) := by decide +kernel
theorem dX10_lineUp_0 : decode cX10_lineUp 0 = .ok (.iconst 0, 1) := by decide +kernel
theorem dX10_lineUp_1 : decode cX10_lineUp 1 = .ok (.istore_n 2, 1) := by decide +kernel
theorem dX10_lineUp_2 : decode cX10_lineUp 2 = .ok (.iconst 0, 1) := by decide +kernel
theorem dX10_lineUp_3 : decode cX10_lineUp 3 = .ok (.istore_n 3, 1) := by decide +kernel
theorem dX10_lineUp_4 : decode cX10_lineUp 4 = .ok (.iload_n 3, 1) := by decide +kernel
theorem dX10_lineUp_5 : decode cX10_lineUp 5 = .ok (.aload_n 0, 1) := by decide +kernel
theorem dX10_lineUp_6 : decode cX10_lineUp 6 = .ok (.getfield 126, 3) := by decide +kernel
theorem dX10_lineUp_9 : decode cX10_lineUp 9 = .ok (.if_icmp .ge 86, 3) := by decide +kernel
theorem dX10_lineUp_12 : decode cX10_lineUp 12 = .ok (.aload_n 0, 1) := by decide +kernel
theorem dX10_lineUp_13 : decode cX10_lineUp 13 = .ok (.getfield 17, 3) := by decide +kernel
theorem dX10_lineUp_16 : decode cX10_lineUp 16 = .ok (.iload_n 3, 1) := by decide +kernel
theorem dX10_lineUp_17 : decode cX10_lineUp 17 = .ok (.aaload, 1) := by decide +kernel
theorem dX10_lineUp_18 : decode cX10_lineUp 18 = .ok (.astore 4, 2) := by decide +kernel
theorem dX10_lineUp_20 : decode cX10_lineUp 20 = .ok (.aload 4, 2) := by decide +kernel
theorem dX10_lineUp_22 : decode cX10_lineUp 22 = .ok (.getfield 164, 3) := by decide +kernel
theorem dX10_lineUp_25 : decode cX10_lineUp 25 = .ok (.iconst 3, 1) := by decide +kernel
theorem dX10_lineUp_26 : decode cX10_lineUp 26 = .ok (.if_icmp .ne 63, 3) := by decide +kernel
theorem dX10_lineUp_29 : decode cX10_lineUp 29 = .ok (.iload_n 2, 1) := by decide +kernel
theorem dX10_lineUp_30 : decode cX10_lineUp 30 = .ok (.istore 5, 2) := by decide +kernel
theorem dX10_lineUp_32 : decode cX10_lineUp 32 = .ok (.iload 5, 2) := by decide +kernel
theorem dX10_lineUp_34 : decode cX10_lineUp 34 = .ok (.ifCond .le 43, 3) := by decide +kernel
theorem dX10_lineUp_37 : decode cX10_lineUp 37 = .ok (.aload 4, 2) := by decide +kernel
theorem dX10_lineUp_39 : decode cX10_lineUp 39 = .ok (.aload_n 0, 1) := by decide +kernel
theorem dX10_lineUp_40 : decode cX10_lineUp 40 = .ok (.getfield 27, 3) := by decide +kernel
theorem dX10_lineUp_43 : decode cX10_lineUp 43 = .ok (.iload 5, 2) := by decide +kernel
theorem dX10_lineUp_45 : decode cX10_lineUp 45 = .ok (.iconst 1, 1) := by decide +kernel
theorem dX10_lineUp_46 : decode cX10_lineUp 46 = .ok (.isub, 1) := by decide +kernel
theorem dX10_lineUp_47 : decode cX10_lineUp 47 = .ok (.aaload, 1) := by decide +kernel
theorem dX10_lineUp_48 : decode cX10_lineUp 48 = .ok (.iload_n 1, 1) := by decide +kernel
theorem dX10_lineUp_49 : decode cX10_lineUp 49 = .ok (.invokevirtual 358, 3) := by decide +kernel
theorem dX10_lineUp_52 : decode cX10_lineUp 52 = .ok (.ifCond .eq 25, 3) := by decide +kernel
theorem dX10_lineUp_55 : decode cX10_lineUp 55 = .ok (.aload_n 0, 1) := by decide +kernel
theorem dX10_lineUp_56 : decode cX10_lineUp 56 = .ok (.getfield 27, 3) := by decide +kernel
theorem dX10_lineUp_59 : decode cX10_lineUp 59 = .ok (.iload 5, 2) := by decide +kernel
theorem dX10_lineUp_61 : decode cX10_lineUp 61 = .ok (.aload_n 0, 1) := by decide +kernel
theorem dX10_lineUp_62 : decode cX10_lineUp 62 = .ok (.getfield 27, 3) := by decide +kernel
theorem dX10_lineUp_65 : decode cX10_lineUp 65 = .ok (.iload 5, 2) := by decide +kernel
theorem dX10_lineUp_67 : decode cX10_lineUp 67 = .ok (.iconst 1, 1) := by decide +kernel
theorem dX10_lineUp_68 : decode cX10_lineUp 68 = .ok (.isub, 1) := by decide +kernel
theorem dX10_lineUp_69 : decode cX10_lineUp 69 = .ok (.aaload, 1) := by decide +kernel
theorem dX10_lineUp_70 : decode cX10_lineUp 70 = .ok (.aastore, 1) := by decide +kernel
theorem dX10_lineUp_71 : decode cX10_lineUp 71 = .ok (.iinc 5 (-1), 3) := by decide +kernel
theorem dX10_lineUp_74 : decode cX10_lineUp 74 = .ok (.goto (-42), 3) := by decide +kernel
theorem dX10_lineUp_77 : decode cX10_lineUp 77 = .ok (.aload_n 0, 1) := by decide +kernel
theorem dX10_lineUp_78 : decode cX10_lineUp 78 = .ok (.getfield 27, 3) := by decide +kernel
theorem dX10_lineUp_81 : decode cX10_lineUp 81 = .ok (.iload 5, 2) := by decide +kernel
theorem dX10_lineUp_83 : decode cX10_lineUp 83 = .ok (.aload 4, 2) := by decide +kernel
theorem dX10_lineUp_85 : decode cX10_lineUp 85 = .ok (.aastore, 1) := by decide +kernel
theorem dX10_lineUp_86 : decode cX10_lineUp 86 = .ok (.iinc 2 1, 3) := by decide +kernel
theorem dX10_lineUp_89 : decode cX10_lineUp 89 = .ok (.iinc 3 1, 3) := by decide +kernel
theorem dX10_lineUp_92 : decode cX10_lineUp 92 = .ok (.goto (-88), 3) := by decide +kernel
theorem dX10_lineUp_95 : decode cX10_lineUp 95 = .ok (.iload_n 2, 1) := by decide +kernel
theorem dX10_lineUp_96 : decode cX10_lineUp 96 = .ok (.ireturn, 1) := by decide +kernel
theorem dX10_clerkAt_0 : decode cX10_clerkAt 0 = .ok (.iload_n 1, 1) := by decide +kernel
theorem dX10_clerkAt_1 : decode cX10_clerkAt 1 = .ok (.ifCond .lt 11, 3) := by decide +kernel
theorem dX10_clerkAt_4 : decode cX10_clerkAt 4 = .ok (.iload_n 1, 1) := by decide +kernel
theorem dX10_clerkAt_5 : decode cX10_clerkAt 5 = .ok (.aload_n 0, 1) := by decide +kernel
theorem dX10_clerkAt_6 : decode cX10_clerkAt 6 = .ok (.getfield 133, 3) := by decide +kernel
theorem dX10_clerkAt_9 : decode cX10_clerkAt 9 = .ok (.if_icmp .lt 5, 3) := by decide +kernel
theorem dX10_clerkAt_12 : decode cX10_clerkAt 12 = .ok (.iconst (-1), 1) := by decide +kernel
theorem dX10_clerkAt_13 : decode cX10_clerkAt 13 = .ok (.ireturn, 1) := by decide +kernel
theorem dX10_clerkAt_14 : decode cX10_clerkAt 14 = .ok (.aload_n 0, 1) := by decide +kernel
theorem dX10_clerkAt_15 : decode cX10_clerkAt 15 = .ok (.getfield 23, 3) := by decide +kernel
theorem dX10_clerkAt_18 : decode cX10_clerkAt 18 = .ok (.iload_n 1, 1) := by decide +kernel
theorem dX10_clerkAt_19 : decode cX10_clerkAt 19 = .ok (.aaload, 1) := by decide +kernel
theorem dX10_clerkAt_20 : decode cX10_clerkAt 20 = .ok (.astore_n 3, 1) := by decide +kernel
theorem dX10_clerkAt_21 : decode cX10_clerkAt 21 = .ok (.iload_n 2, 1) := by decide +kernel
theorem dX10_clerkAt_22 : decode cX10_clerkAt 22 = .ok (.tableswitch 56 0 2 #[26, 46, 51], 26) := by decide +kernel
theorem dX10_clerkAt_48 : decode cX10_clerkAt 48 = .ok (.aload_n 3, 1) := by decide +kernel
theorem dX10_clerkAt_49 : decode cX10_clerkAt 49 = .ok (.getfield 320, 3) := by decide +kernel
theorem dX10_clerkAt_52 : decode cX10_clerkAt 52 = .ok (.ifnonnull 8, 3) := by decide +kernel
theorem dX10_clerkAt_55 : decode cX10_clerkAt 55 = .ok (.bipush (-9), 2) := by decide +kernel
theorem dX10_clerkAt_57 : decode cX10_clerkAt 57 = .ok (.goto 10, 3) := by decide +kernel
theorem dX10_clerkAt_60 : decode cX10_clerkAt 60 = .ok (.aload_n 3, 1) := by decide +kernel
theorem dX10_clerkAt_61 : decode cX10_clerkAt 61 = .ok (.getfield 320, 3) := by decide +kernel
theorem dX10_clerkAt_64 : decode cX10_clerkAt 64 = .ok (.getfield 132, 3) := by decide +kernel
theorem dX10_clerkAt_67 : decode cX10_clerkAt 67 = .ok (.ireturn, 1) := by decide +kernel
theorem dX10_clerkAt_68 : decode cX10_clerkAt 68 = .ok (.aload_n 3, 1) := by decide +kernel
theorem dX10_clerkAt_69 : decode cX10_clerkAt 69 = .ok (.getfield 324, 3) := by decide +kernel
theorem dX10_clerkAt_72 : decode cX10_clerkAt 72 = .ok (.ireturn, 1) := by decide +kernel
theorem dX10_clerkAt_73 : decode cX10_clerkAt 73 = .ok (.aload_n 3, 1) := by decide +kernel
theorem dX10_clerkAt_74 : decode cX10_clerkAt 74 = .ok (.getfield 355, 3) := by decide +kernel
theorem dX10_clerkAt_77 : decode cX10_clerkAt 77 = .ok (.ireturn, 1) := by decide +kernel
theorem dX10_clerkAt_78 : decode cX10_clerkAt 78 = .ok (.bipush (-2), 2) := by decide +kernel
theorem dX10_clerkAt_80 : decode cX10_clerkAt 80 = .ok (.ireturn, 1) := by decide +kernel
theorem dX10_till_0 : decode cX10_till 0 = .ok (.aload_n 0, 1) := by decide +kernel
theorem dX10_till_1 : decode cX10_till 1 = .ok (.getfield 33, 3) := by decide +kernel
theorem dX10_till_4 : decode cX10_till 4 = .ok (.iload_n 1, 1) := by decide +kernel
theorem dX10_till_5 : decode cX10_till 5 = .ok (.invokevirtual 225, 3) := by decide +kernel
theorem dX10_till_8 : decode cX10_till 8 = .ok (.ireturn, 1) := by decide +kernel
theorem dX10_could_0 : decode cX10_could 0 = .ok (.iload_n 1, 1) := by decide +kernel
theorem dX10_could_1 : decode cX10_could 1 = .ok (.iconst 0, 1) := by decide +kernel
theorem dX10_could_2 : decode cX10_could 2 = .ok (.sipush 3000, 3) := by decide +kernel
theorem dX10_could_5 : decode cX10_could 5 = .ok (.invokestatic 80, 3) := by decide +kernel
theorem dX10_could_8 : decode cX10_could 8 = .ok (.ifCond .eq 21, 3) := by decide +kernel
theorem dX10_could_11 : decode cX10_could 11 = .ok (.aload_n 0, 1) := by decide +kernel
theorem dX10_could_12 : decode cX10_could 12 = .ok (.getfield 40, 3) := by decide +kernel
theorem dX10_could_15 : decode cX10_could 15 = .ok (.aload_n 0, 1) := by decide +kernel
theorem dX10_could_16 : decode cX10_could 16 = .ok (.getfield 33, 3) := by decide +kernel
theorem dX10_could_19 : decode cX10_could 19 = .ok (.getfield 143, 3) := by decide +kernel
theorem dX10_could_22 : decode cX10_could 22 = .ok (.iload_n 1, 1) := by decide +kernel
theorem dX10_could_23 : decode cX10_could 23 = .ok (.invokevirtual 337, 3) := by decide +kernel
theorem dX10_could_26 : decode cX10_could 26 = .ok (.goto 5, 3) := by decide +kernel
theorem dX10_could_29 : decode cX10_could 29 = .ok (.bipush (-2), 2) := by decide +kernel
theorem dX10_could_31 : decode cX10_could 31 = .ok (.ireturn, 1) := by decide +kernel
theorem dX10_gives_0 : decode cX10_gives 0 = .ok (.iload_n 1, 1) := by decide +kernel
theorem dX10_gives_1 : decode cX10_gives 1 = .ok (.iconst 0, 1) := by decide +kernel
theorem dX10_gives_2 : decode cX10_gives 2 = .ok (.sipush 3000, 3) := by decide +kernel
theorem dX10_gives_5 : decode cX10_gives 5 = .ok (.invokestatic 80, 3) := by decide +kernel
theorem dX10_gives_8 : decode cX10_gives 8 = .ok (.ifCond .eq 12, 3) := by decide +kernel
theorem dX10_gives_11 : decode cX10_gives 11 = .ok (.iload_n 2, 1) := by decide +kernel
theorem dX10_gives_12 : decode cX10_gives 12 = .ok (.iconst 0, 1) := by decide +kernel
theorem dX10_gives_13 : decode cX10_gives 13 = .ok (.iconst 5, 1) := by decide +kernel
theorem dX10_gives_14 : decode cX10_gives 14 = .ok (.invokestatic 80, 3) := by decide +kernel
theorem dX10_gives_17 : decode cX10_gives 17 = .ok (.ifCond .ne 6, 3) := by decide +kernel
theorem dX10_gives_20 : decode cX10_gives 20 = .ok (.bipush (-2), 2) := by decide +kernel
theorem dX10_gives_22 : decode cX10_gives 22 = .ok (.ireturn, 1) := by decide +kernel
theorem dX10_gives_23 : decode cX10_gives 23 = .ok (.aload_n 0, 1) := by decide +kernel
theorem dX10_gives_24 : decode cX10_gives 24 = .ok (.getfield 40, 3) := by decide +kernel
theorem dX10_gives_27 : decode cX10_gives 27 = .ok (.aload_n 0, 1) := by decide +kernel
theorem dX10_gives_28 : decode cX10_gives 28 = .ok (.getfield 33, 3) := by decide +kernel
theorem dX10_gives_31 : decode cX10_gives 31 = .ok (.getfield 143, 3) := by decide +kernel
theorem dX10_gives_34 : decode cX10_gives 34 = .ok (.iload_n 1, 1) := by decide +kernel
theorem dX10_gives_35 : decode cX10_gives 35 = .ok (.invokevirtual 337, 3) := by decide +kernel
theorem dX10_gives_38 : decode cX10_gives 38 = .ok (.bipush (-9), 2) := by decide +kernel
theorem dX10_gives_40 : decode cX10_gives 40 = .ok (.if_icmp .ne 8, 3) := by decide +kernel
theorem dX10_gives_43 : decode cX10_gives 43 = .ok (.bipush (-9), 2) := by decide +kernel
theorem dX10_gives_45 : decode cX10_gives 45 = .ok (.goto 12, 3) := by decide +kernel
theorem dX10_gives_48 : decode cX10_gives 48 = .ok (.aload_n 0, 1) := by decide +kernel
theorem dX10_gives_49 : decode cX10_gives 49 = .ok (.getfield 40, 3) := by decide +kernel
theorem dX10_gives_52 : decode cX10_gives 52 = .ok (.getfield 344, 3) := by decide +kernel
theorem dX10_gives_55 : decode cX10_gives 55 = .ok (.iload_n 2, 1) := by decide +kernel
theorem dX10_gives_56 : decode cX10_gives 56 = .ok (.iaload, 1) := by decide +kernel
theorem dX10_gives_57 : decode cX10_gives 57 = .ok (.ireturn, 1) := by decide +kernel
theorem dX10_on_0 : decode cX10_on 0 = .ok (.aload_n 0, 1) := by decide +kernel
theorem dX10_on_1 : decode cX10_on 1 = .ok (.iload_n 1, 1) := by decide +kernel
theorem dX10_on_2 : decode cX10_on 2 = .ok (.invokevirtual 123, 3) := by decide +kernel
theorem dX10_on_5 : decode cX10_on 5 = .ok (.astore_n 3, 1) := by decide +kernel
theorem dX10_on_6 : decode cX10_on 6 = .ok (.aload_n 3, 1) := by decide +kernel
theorem dX10_on_7 : decode cX10_on 7 = .ok (.ifnonnull 5, 3) := by decide +kernel
theorem dX10_on_10 : decode cX10_on 10 = .ok (.iconst (-1), 1) := by decide +kernel
theorem dX10_on_11 : decode cX10_on 11 = .ok (.ireturn, 1) := by decide +kernel
theorem dX10_on_12 : decode cX10_on 12 = .ok (.iconst 0, 1) := by decide +kernel
theorem dX10_on_13 : decode cX10_on 13 = .ok (.istore 4, 2) := by decide +kernel
theorem dX10_on_15 : decode cX10_on 15 = .ok (.iconst 0, 1) := by decide +kernel
theorem dX10_on_16 : decode cX10_on 16 = .ok (.istore 5, 2) := by decide +kernel
theorem dX10_on_18 : decode cX10_on 18 = .ok (.iload 5, 2) := by decide +kernel
theorem dX10_on_20 : decode cX10_on 20 = .ok (.aload_n 0, 1) := by decide +kernel
theorem dX10_on_21 : decode cX10_on 21 = .ok (.getfield 126, 3) := by decide +kernel
theorem dX10_on_24 : decode cX10_on 24 = .ok (.if_icmp .ge 48, 3) := by decide +kernel
theorem dX10_on_27 : decode cX10_on 27 = .ok (.aload_n 0, 1) := by decide +kernel
theorem dX10_on_28 : decode cX10_on 28 = .ok (.getfield 17, 3) := by decide +kernel
theorem dX10_on_31 : decode cX10_on 31 = .ok (.iload 5, 2) := by decide +kernel
theorem dX10_on_33 : decode cX10_on 33 = .ok (.aaload, 1) := by decide +kernel
theorem dX10_on_34 : decode cX10_on 34 = .ok (.astore 6, 2) := by decide +kernel
theorem dX10_on_36 : decode cX10_on 36 = .ok (.aload 6, 2) := by decide +kernel
theorem dX10_on_38 : decode cX10_on 38 = .ok (.getfield 164, 3) := by decide +kernel
theorem dX10_on_41 : decode cX10_on 41 = .ok (.iconst 2, 1) := by decide +kernel
theorem dX10_on_42 : decode cX10_on 42 = .ok (.if_icmp .ne 24, 3) := by decide +kernel
theorem dX10_on_45 : decode cX10_on 45 = .ok (.aload 6, 2) := by decide +kernel
theorem dX10_on_47 : decode cX10_on 47 = .ok (.getfield 189, 3) := by decide +kernel
theorem dX10_on_50 : decode cX10_on 50 = .ok (.aload_n 3, 1) := by decide +kernel
theorem dX10_on_51 : decode cX10_on 51 = .ok (.if_acmp .ne 15, 3) := by decide +kernel
theorem dX10_on_54 : decode cX10_on 54 = .ok (.aload 6, 2) := by decide +kernel
theorem dX10_on_56 : decode cX10_on 56 = .ok (.getfield 212, 3) := by decide +kernel
theorem dX10_on_59 : decode cX10_on 59 = .ok (.iload_n 2, 1) := by decide +kernel
theorem dX10_on_60 : decode cX10_on 60 = .ok (.if_icmp .ne 6, 3) := by decide +kernel
theorem dX10_on_63 : decode cX10_on 63 = .ok (.iinc 4 1, 3) := by decide +kernel
theorem dX10_on_66 : decode cX10_on 66 = .ok (.iinc 5 1, 3) := by decide +kernel
theorem dX10_on_69 : decode cX10_on 69 = .ok (.goto (-51), 3) := by decide +kernel
theorem dX10_on_72 : decode cX10_on 72 = .ok (.iload 4, 2) := by decide +kernel
theorem dX10_on_74 : decode cX10_on 74 = .ok (.ireturn, 1) := by decide +kernel
theorem dX10_waits_0 : decode cX10_waits 0 = .ok (.aload_n 0, 1) := by decide +kernel
theorem dX10_waits_1 : decode cX10_waits 1 = .ok (.iload_n 1, 1) := by decide +kernel
theorem dX10_waits_2 : decode cX10_waits 2 = .ok (.invokevirtual 76, 3) := by decide +kernel
theorem dX10_waits_5 : decode cX10_waits 5 = .ok (.astore_n 3, 1) := by decide +kernel
theorem dX10_waits_6 : decode cX10_waits 6 = .ok (.aload_n 3, 1) := by decide +kernel
theorem dX10_waits_7 : decode cX10_waits 7 = .ok (.ifnonnull 5, 3) := by decide +kernel
theorem dX10_waits_10 : decode cX10_waits 10 = .ok (.iconst (-1), 1) := by decide +kernel
theorem dX10_waits_11 : decode cX10_waits 11 = .ok (.ireturn, 1) := by decide +kernel
theorem dX10_waits_12 : decode cX10_waits 12 = .ok (.aload_n 3, 1) := by decide +kernel
theorem dX10_waits_13 : decode cX10_waits 13 = .ok (.getfield 84, 3) := by decide +kernel
theorem dX10_waits_16 : decode cX10_waits 16 = .ok (.iconst 2, 1) := by decide +kernel
theorem dX10_waits_17 : decode cX10_waits 17 = .ok (.if_icmp .eq 6, 3) := by decide +kernel
theorem dX10_waits_20 : decode cX10_waits 20 = .ok (.bipush (-3), 2) := by decide +kernel
theorem dX10_waits_22 : decode cX10_waits 22 = .ok (.ireturn, 1) := by decide +kernel
theorem dX10_waits_23 : decode cX10_waits 23 = .ok (.iload_n 2, 1) := by decide +kernel
theorem dX10_waits_24 : decode cX10_waits 24 = .ok (.tableswitch 76 0 4 #[36, 44, 52, 60, 68], 36) := by decide +kernel
theorem dX10_waits_60 : decode cX10_waits 60 = .ok (.aload_n 3, 1) := by decide +kernel
theorem dX10_waits_61 : decode cX10_waits 61 = .ok (.getfield 304, 3) := by decide +kernel
theorem dX10_waits_64 : decode cX10_waits 64 = .ok (.getfield 417, 3) := by decide +kernel
theorem dX10_waits_67 : decode cX10_waits 67 = .ok (.ireturn, 1) := by decide +kernel
theorem dX10_waits_68 : decode cX10_waits 68 = .ok (.aload_n 3, 1) := by decide +kernel
theorem dX10_waits_69 : decode cX10_waits 69 = .ok (.getfield 304, 3) := by decide +kernel
theorem dX10_waits_72 : decode cX10_waits 72 = .ok (.getfield 420, 3) := by decide +kernel
theorem dX10_waits_75 : decode cX10_waits 75 = .ok (.ireturn, 1) := by decide +kernel
theorem dX10_waits_76 : decode cX10_waits 76 = .ok (.aload_n 3, 1) := by decide +kernel
theorem dX10_waits_77 : decode cX10_waits 77 = .ok (.getfield 304, 3) := by decide +kernel
theorem dX10_waits_80 : decode cX10_waits 80 = .ok (.getfield 423, 3) := by decide +kernel
theorem dX10_waits_83 : decode cX10_waits 83 = .ok (.ireturn, 1) := by decide +kernel
theorem dX10_waits_84 : decode cX10_waits 84 = .ok (.aload_n 3, 1) := by decide +kernel
theorem dX10_waits_85 : decode cX10_waits 85 = .ok (.getfield 304, 3) := by decide +kernel
theorem dX10_waits_88 : decode cX10_waits 88 = .ok (.getfield 426, 3) := by decide +kernel
theorem dX10_waits_91 : decode cX10_waits 91 = .ok (.ireturn, 1) := by decide +kernel
theorem dX10_waits_92 : decode cX10_waits 92 = .ok (.aload_n 3, 1) := by decide +kernel
theorem dX10_waits_93 : decode cX10_waits 93 = .ok (.getfield 304, 3) := by decide +kernel
theorem dX10_waits_96 : decode cX10_waits 96 = .ok (.getfield 429, 3) := by decide +kernel
theorem dX10_waits_99 : decode cX10_waits 99 = .ok (.ireturn, 1) := by decide +kernel
theorem dX10_waits_100 : decode cX10_waits 100 = .ok (.bipush (-2), 2) := by decide +kernel
theorem dX10_waits_102 : decode cX10_waits 102 = .ok (.ireturn, 1) := by decide +kernel
theorem dX10_worst_0 : decode cX10_worst 0 = .ok (.aload_n 0, 1) := by decide +kernel
theorem dX10_worst_1 : decode cX10_worst 1 = .ok (.iconst 3, 1) := by decide +kernel
theorem dX10_worst_2 : decode cX10_worst 2 = .ok (.invokevirtual 414, 3) := by decide +kernel
theorem dX10_worst_5 : decode cX10_worst 5 = .ok (.istore_n 1, 1) := by decide +kernel
theorem dX10_worst_6 : decode cX10_worst 6 = .ok (.aload_n 0, 1) := by decide +kernel
theorem dX10_worst_7 : decode cX10_worst 7 = .ok (.iload_n 1, 1) := by decide +kernel
theorem dX10_worst_8 : decode cX10_worst 8 = .ok (.invokevirtual 432, 3) := by decide +kernel
theorem dX10_worst_11 : decode cX10_worst 11 = .ok (.istore_n 2, 1) := by decide +kernel
theorem dX10_worst_12 : decode cX10_worst 12 = .ok (.iload_n 2, 1) := by decide +kernel
theorem dX10_worst_13 : decode cX10_worst 13 = .ok (.ifCond .eq 5, 3) := by decide +kernel
theorem dX10_worst_16 : decode cX10_worst 16 = .ok (.iload_n 2, 1) := by decide +kernel
theorem dX10_worst_17 : decode cX10_worst 17 = .ok (.ireturn, 1) := by decide +kernel
theorem dX10_worst_18 : decode cX10_worst 18 = .ok (.aload_n 0, 1) := by decide +kernel
theorem dX10_worst_19 : decode cX10_worst 19 = .ok (.iload_n 1, 1) := by decide +kernel
theorem dX10_worst_20 : decode cX10_worst 20 = .ok (.invokevirtual 435, 3) := by decide +kernel
theorem dX10_worst_23 : decode cX10_worst 23 = .ok (.aload_n 0, 1) := by decide +kernel
theorem dX10_worst_24 : decode cX10_worst 24 = .ok (.getfield 61, 3) := by decide +kernel
theorem dX10_worst_27 : decode cX10_worst 27 = .ok (.invokevirtual 438, 3) := by decide +kernel
theorem dX10_worst_30 : decode cX10_worst 30 = .ok (.ireturn, 1) := by decide +kernel
theorem dX10_best_0 : decode cX10_best 0 = .ok (.aload_n 0, 1) := by decide +kernel
theorem dX10_best_1 : decode cX10_best 1 = .ok (.iconst 3, 1) := by decide +kernel
theorem dX10_best_2 : decode cX10_best 2 = .ok (.invokevirtual 414, 3) := by decide +kernel
theorem dX10_best_5 : decode cX10_best 5 = .ok (.istore_n 2, 1) := by decide +kernel
theorem dX10_best_6 : decode cX10_best 6 = .ok (.aload_n 0, 1) := by decide +kernel
theorem dX10_best_7 : decode cX10_best 7 = .ok (.iload_n 2, 1) := by decide +kernel
theorem dX10_best_8 : decode cX10_best 8 = .ok (.invokevirtual 432, 3) := by decide +kernel
theorem dX10_best_11 : decode cX10_best 11 = .ok (.istore_n 3, 1) := by decide +kernel
theorem dX10_best_12 : decode cX10_best 12 = .ok (.iload_n 3, 1) := by decide +kernel
theorem dX10_best_13 : decode cX10_best 13 = .ok (.ifCond .eq 5, 3) := by decide +kernel
theorem dX10_best_16 : decode cX10_best 16 = .ok (.iload_n 3, 1) := by decide +kernel
theorem dX10_best_17 : decode cX10_best 17 = .ok (.ireturn, 1) := by decide +kernel
theorem dX10_best_18 : decode cX10_best 18 = .ok (.iload_n 1, 1) := by decide +kernel
theorem dX10_best_19 : decode cX10_best 19 = .ok (.ifCond .lt 8, 3) := by decide +kernel
theorem dX10_best_22 : decode cX10_best 22 = .ok (.iload_n 1, 1) := by decide +kernel
theorem dX10_best_23 : decode cX10_best 23 = .ok (.iload_n 2, 1) := by decide +kernel
theorem dX10_best_24 : decode cX10_best 24 = .ok (.if_icmp .lt 6, 3) := by decide +kernel
theorem dX10_best_27 : decode cX10_best 27 = .ok (.bipush (-9), 2) := by decide +kernel
theorem dX10_best_29 : decode cX10_best 29 = .ok (.ireturn, 1) := by decide +kernel
theorem dX10_best_30 : decode cX10_best 30 = .ok (.aload_n 0, 1) := by decide +kernel
theorem dX10_best_31 : decode cX10_best 31 = .ok (.iload_n 2, 1) := by decide +kernel
theorem dX10_best_32 : decode cX10_best 32 = .ok (.invokevirtual 435, 3) := by decide +kernel
theorem dX10_best_35 : decode cX10_best 35 = .ok (.aload_n 0, 1) := by decide +kernel
theorem dX10_best_36 : decode cX10_best 36 = .ok (.getfield 61, 3) := by decide +kernel
theorem dX10_best_39 : decode cX10_best 39 = .ok (.invokevirtual 438, 3) := by decide +kernel
theorem dX10_best_42 : decode cX10_best 42 = .ok (.pop, 1) := by decide +kernel
theorem dX10_best_43 : decode cX10_best 43 = .ok (.aload_n 0, 1) := by decide +kernel
theorem dX10_best_44 : decode cX10_best 44 = .ok (.getfield 27, 3) := by decide +kernel
theorem dX10_best_47 : decode cX10_best 47 = .ok (.aload_n 0, 1) := by decide +kernel
theorem dX10_best_48 : decode cX10_best 48 = .ok (.getfield 61, 3) := by decide +kernel
theorem dX10_best_51 : decode cX10_best 51 = .ok (.iload_n 1, 1) := by decide +kernel
theorem dX10_best_52 : decode cX10_best 52 = .ok (.invokevirtual 441, 3) := by decide +kernel
theorem dX10_best_55 : decode cX10_best 55 = .ok (.aaload, 1) := by decide +kernel
theorem dX10_best_56 : decode cX10_best 56 = .ok (.getfield 132, 3) := by decide +kernel
theorem dX10_best_59 : decode cX10_best 59 = .ok (.ireturn, 1) := by decide +kernel
theorem dX10_worstBy_0 : decode cX10_worstBy 0 = .ok (.iload_n 1, 1) := by decide +kernel
theorem dX10_worstBy_1 : decode cX10_worstBy 1 = .ok (.iconst 0, 1) := by decide +kernel
theorem dX10_worstBy_2 : decode cX10_worstBy 2 = .ok (.iconst 2, 1) := by decide +kernel
theorem dX10_worstBy_3 : decode cX10_worstBy 3 = .ok (.invokestatic 80, 3) := by decide +kernel
theorem dX10_worstBy_6 : decode cX10_worstBy 6 = .ok (.ifCond .ne 6, 3) := by decide +kernel
theorem dX10_worstBy_9 : decode cX10_worstBy 9 = .ok (.bipush (-2), 2) := by decide +kernel
theorem dX10_worstBy_11 : decode cX10_worstBy 11 = .ok (.ireturn, 1) := by decide +kernel
theorem dX10_worstBy_12 : decode cX10_worstBy 12 = .ok (.aload_n 0, 1) := by decide +kernel
theorem dX10_worstBy_13 : decode cX10_worstBy 13 = .ok (.iload_n 1, 1) := by decide +kernel
theorem dX10_worstBy_14 : decode cX10_worstBy 14 = .ok (.invokevirtual 414, 3) := by decide +kernel
theorem dX10_worstBy_17 : decode cX10_worstBy 17 = .ok (.istore_n 2, 1) := by decide +kernel
theorem dX10_worstBy_18 : decode cX10_worstBy 18 = .ok (.aload_n 0, 1) := by decide +kernel
theorem dX10_worstBy_19 : decode cX10_worstBy 19 = .ok (.iload_n 2, 1) := by decide +kernel
theorem dX10_worstBy_20 : decode cX10_worstBy 20 = .ok (.invokevirtual 432, 3) := by decide +kernel
theorem dX10_worstBy_23 : decode cX10_worstBy 23 = .ok (.istore_n 3, 1) := by decide +kernel
theorem dX10_worstBy_24 : decode cX10_worstBy 24 = .ok (.iload_n 3, 1) := by decide +kernel
theorem dX10_worstBy_25 : decode cX10_worstBy 25 = .ok (.ifCond .eq 5, 3) := by decide +kernel
theorem dX10_worstBy_28 : decode cX10_worstBy 28 = .ok (.iload_n 3, 1) := by decide +kernel
theorem dX10_worstBy_29 : decode cX10_worstBy 29 = .ok (.ireturn, 1) := by decide +kernel
theorem dX10_worstBy_30 : decode cX10_worstBy 30 = .ok (.aload_n 0, 1) := by decide +kernel
theorem dX10_worstBy_31 : decode cX10_worstBy 31 = .ok (.iload_n 2, 1) := by decide +kernel
theorem dX10_worstBy_32 : decode cX10_worstBy 32 = .ok (.invokevirtual 435, 3) := by decide +kernel
theorem dX10_worstBy_35 : decode cX10_worstBy 35 = .ok (.aload_n 0, 1) := by decide +kernel
theorem dX10_worstBy_36 : decode cX10_worstBy 36 = .ok (.getfield 61, 3) := by decide +kernel
theorem dX10_worstBy_39 : decode cX10_worstBy 39 = .ok (.invokevirtual 444, 3) := by decide +kernel
theorem dX10_worstBy_42 : decode cX10_worstBy 42 = .ok (.ireturn, 1) := by decide +kernel
theorem dX10_planRefusal_0 : decode cX10_planRefusal 0 = .ok (.iload_n 1, 1) := by decide +kernel
theorem dX10_planRefusal_1 : decode cX10_planRefusal 1 = .ok (.ifCond .eq 10, 3) := by decide +kernel
theorem dX10_planRefusal_4 : decode cX10_planRefusal 4 = .ok (.aload_n 0, 1) := by decide +kernel
theorem dX10_planRefusal_5 : decode cX10_planRefusal 5 = .ok (.getfield 133, 3) := by decide +kernel
theorem dX10_planRefusal_8 : decode cX10_planRefusal 8 = .ok (.ifCond .ne 6, 3) := by decide +kernel
theorem dX10_planRefusal_11 : decode cX10_planRefusal 11 = .ok (.bipush (-9), 2) := by decide +kernel
theorem dX10_planRefusal_13 : decode cX10_planRefusal 13 = .ok (.ireturn, 1) := by decide +kernel
theorem dX10_planRefusal_14 : decode cX10_planRefusal 14 = .ok (.iload_n 1, 1) := by decide +kernel
theorem dX10_planRefusal_15 : decode cX10_planRefusal 15 = .ok (.bipush 6, 2) := by decide +kernel
theorem dX10_planRefusal_17 : decode cX10_planRefusal 17 = .ok (.if_icmp .le 8, 3) := by decide +kernel
theorem dX10_planRefusal_20 : decode cX10_planRefusal 20 = .ok (.bipush (-3), 2) := by decide +kernel
theorem dX10_planRefusal_22 : decode cX10_planRefusal 22 = .ok (.goto 4, 3) := by decide +kernel
theorem dX10_planRefusal_25 : decode cX10_planRefusal 25 = .ok (.iconst 0, 1) := by decide +kernel
theorem dX10_planRefusal_26 : decode cX10_planRefusal 26 = .ok (.ireturn, 1) := by decide +kernel
theorem dX10_layPlan_0 : decode cX10_layPlan 0 = .ok (.aload_n 0, 1) := by decide +kernel
theorem dX10_layPlan_1 : decode cX10_layPlan 1 = .ok (.getfield 61, 3) := by decide +kernel
theorem dX10_layPlan_4 : decode cX10_layPlan 4 = .ok (.invokevirtual 447, 3) := by decide +kernel
theorem dX10_layPlan_7 : decode cX10_layPlan 7 = .ok (.iconst 0, 1) := by decide +kernel
theorem dX10_layPlan_8 : decode cX10_layPlan 8 = .ok (.istore_n 2, 1) := by decide +kernel
theorem dX10_layPlan_9 : decode cX10_layPlan 9 = .ok (.iload_n 2, 1) := by decide +kernel
theorem dX10_layPlan_10 : decode cX10_layPlan 10 = .ok (.aload_n 0, 1) := by decide +kernel
theorem dX10_layPlan_11 : decode cX10_layPlan 11 = .ok (.getfield 133, 3) := by decide +kernel
theorem dX10_layPlan_14 : decode cX10_layPlan 14 = .ok (.if_icmp .ge 34, 3) := by decide +kernel
theorem dX10_layPlan_17 : decode cX10_layPlan 17 = .ok (.aload_n 0, 1) := by decide +kernel
theorem dX10_layPlan_18 : decode cX10_layPlan 18 = .ok (.getfield 61, 3) := by decide +kernel
theorem dX10_layPlan_21 : decode cX10_layPlan 21 = .ok (.aload_n 0, 1) := by decide +kernel
theorem dX10_layPlan_22 : decode cX10_layPlan 22 = .ok (.getfield 23, 3) := by decide +kernel
theorem dX10_layPlan_25 : decode cX10_layPlan 25 = .ok (.iload_n 2, 1) := by decide +kernel
theorem dX10_layPlan_26 : decode cX10_layPlan 26 = .ok (.aaload, 1) := by decide +kernel
theorem dX10_layPlan_27 : decode cX10_layPlan 27 = .ok (.getfield 324, 3) := by decide +kernel
theorem dX10_layPlan_30 : decode cX10_layPlan 30 = .ok (.aload_n 0, 1) := by decide +kernel
theorem dX10_layPlan_31 : decode cX10_layPlan 31 = .ok (.getfield 23, 3) := by decide +kernel
theorem dX10_layPlan_34 : decode cX10_layPlan 34 = .ok (.iload_n 2, 1) := by decide +kernel
theorem dX10_layPlan_35 : decode cX10_layPlan 35 = .ok (.aaload, 1) := by decide +kernel
theorem dX10_layPlan_36 : decode cX10_layPlan 36 = .ok (.getfield 355, 3) := by decide +kernel
theorem dX10_layPlan_39 : decode cX10_layPlan 39 = .ok (.invokevirtual 450, 3) := by decide +kernel
theorem dX10_layPlan_42 : decode cX10_layPlan 42 = .ok (.iinc 2 1, 3) := by decide +kernel
theorem dX10_layPlan_45 : decode cX10_layPlan 45 = .ok (.goto (-36), 3) := by decide +kernel
theorem dX10_layPlan_48 : decode cX10_layPlan 48 = .ok (.iconst 0, 1) := by decide +kernel
theorem dX10_layPlan_49 : decode cX10_layPlan 49 = .ok (.istore_n 2, 1) := by decide +kernel
theorem dX10_layPlan_50 : decode cX10_layPlan 50 = .ok (.iload_n 2, 1) := by decide +kernel
theorem dX10_layPlan_51 : decode cX10_layPlan 51 = .ok (.iload_n 1, 1) := by decide +kernel
theorem dX10_layPlan_52 : decode cX10_layPlan 52 = .ok (.if_icmp .ge 30, 3) := by decide +kernel
theorem dX10_layPlan_55 : decode cX10_layPlan 55 = .ok (.aload_n 0, 1) := by decide +kernel
theorem dX10_layPlan_56 : decode cX10_layPlan 56 = .ok (.getfield 61, 3) := by decide +kernel
theorem dX10_layPlan_59 : decode cX10_layPlan 59 = .ok (.aload_n 0, 1) := by decide +kernel
theorem dX10_layPlan_60 : decode cX10_layPlan 60 = .ok (.getfield 150, 3) := by decide +kernel
theorem dX10_layPlan_63 : decode cX10_layPlan 63 = .ok (.aload_n 0, 1) := by decide +kernel
theorem dX10_layPlan_64 : decode cX10_layPlan 64 = .ok (.getfield 27, 3) := by decide +kernel
theorem dX10_layPlan_67 : decode cX10_layPlan 67 = .ok (.iload_n 2, 1) := by decide +kernel
theorem dX10_layPlan_68 : decode cX10_layPlan 68 = .ok (.aaload, 1) := by decide +kernel
theorem dX10_layPlan_69 : decode cX10_layPlan 69 = .ok (.invokevirtual 453, 3) := by decide +kernel
theorem dX10_layPlan_72 : decode cX10_layPlan 72 = .ok (.isub, 1) := by decide +kernel
theorem dX10_layPlan_73 : decode cX10_layPlan 73 = .ok (.invokevirtual 456, 3) := by decide +kernel
theorem dX10_layPlan_76 : decode cX10_layPlan 76 = .ok (.iinc 2 1, 3) := by decide +kernel
theorem dX10_layPlan_79 : decode cX10_layPlan 79 = .ok (.goto (-29), 3) := by decide +kernel
theorem dX10_layPlan_82 : decode cX10_layPlan 82 = .ok (.aload_n 0, 1) := by decide +kernel
theorem dX10_layPlan_83 : decode cX10_layPlan 83 = .ok (.getfield 61, 3) := by decide +kernel
theorem dX10_layPlan_86 : decode cX10_layPlan 86 = .ok (.invokevirtual 459, 3) := by decide +kernel
theorem dX10_layPlan_89 : decode cX10_layPlan 89 = .ok (.return_, 1) := by decide +kernel
theorem dX10_rush_0 : decode cX10_rush 0 = .ok (.aload_n 0, 1) := by decide +kernel
theorem dX10_rush_1 : decode cX10_rush 1 = .ok (.iload_n 1, 1) := by decide +kernel
theorem dX10_rush_2 : decode cX10_rush 2 = .ok (.invokevirtual 76, 3) := by decide +kernel
theorem dX10_rush_5 : decode cX10_rush 5 = .ok (.astore 4, 2) := by decide +kernel
theorem dX10_rush_7 : decode cX10_rush 7 = .ok (.aload 4, 2) := by decide +kernel
theorem dX10_rush_9 : decode cX10_rush 9 = .ok (.ifnonnull 5, 3) := by decide +kernel
theorem dX10_rush_12 : decode cX10_rush 12 = .ok (.iconst (-1), 1) := by decide +kernel
theorem dX10_rush_13 : decode cX10_rush 13 = .ok (.ireturn, 1) := by decide +kernel
theorem dX10_rush_14 : decode cX10_rush 14 = .ok (.aload 4, 2) := by decide +kernel
theorem dX10_rush_16 : decode cX10_rush 16 = .ok (.getfield 84, 3) := by decide +kernel
theorem dX10_rush_19 : decode cX10_rush 19 = .ok (.iconst 2, 1) := by decide +kernel
theorem dX10_rush_20 : decode cX10_rush 20 = .ok (.if_icmp .eq 6, 3) := by decide +kernel
theorem dX10_rush_23 : decode cX10_rush 23 = .ok (.bipush (-3), 2) := by decide +kernel
theorem dX10_rush_25 : decode cX10_rush 25 = .ok (.ireturn, 1) := by decide +kernel
theorem dX10_rush_26 : decode cX10_rush 26 = .ok (.iload_n 2, 1) := by decide +kernel
theorem dX10_rush_27 : decode cX10_rush 27 = .ok (.iconst 0, 1) := by decide +kernel
theorem dX10_rush_28 : decode cX10_rush 28 = .ok (.iconst 5, 1) := by decide +kernel
theorem dX10_rush_29 : decode cX10_rush 29 = .ok (.invokestatic 80, 3) := by decide +kernel
theorem dX10_rush_32 : decode cX10_rush 32 = .ok (.ifCond .eq 14, 3) := by decide +kernel
theorem dX10_rush_35 : decode cX10_rush 35 = .ok (.iload_n 3, 1) := by decide +kernel
theorem dX10_rush_36 : decode cX10_rush 36 = .ok (.iconst 0, 1) := by decide +kernel
theorem dX10_rush_37 : decode cX10_rush 37 = .ok (.sipush 300, 3) := by decide +kernel
theorem dX10_rush_40 : decode cX10_rush 40 = .ok (.invokestatic 80, 3) := by decide +kernel
theorem dX10_rush_43 : decode cX10_rush 43 = .ok (.ifCond .ne 6, 3) := by decide +kernel
theorem dX10_rush_46 : decode cX10_rush 46 = .ok (.bipush (-2), 2) := by decide +kernel
theorem dX10_rush_48 : decode cX10_rush 48 = .ok (.ireturn, 1) := by decide +kernel
theorem dX10_rush_49 : decode cX10_rush 49 = .ok (.aload 4, 2) := by decide +kernel
theorem dX10_rush_51 : decode cX10_rush 51 = .ok (.getfield 462, 3) := by decide +kernel
theorem dX10_rush_54 : decode cX10_rush 54 = .ok (.iload_n 2, 1) := by decide +kernel
theorem dX10_rush_55 : decode cX10_rush 55 = .ok (.iaload, 1) := by decide +kernel
theorem dX10_rush_56 : decode cX10_rush 56 = .ok (.istore 5, 2) := by decide +kernel
theorem dX10_rush_58 : decode cX10_rush 58 = .ok (.aload 4, 2) := by decide +kernel
theorem dX10_rush_60 : decode cX10_rush 60 = .ok (.astore 6, 2) := by decide +kernel
theorem dX10_rush_62 : decode cX10_rush 62 = .ok (.aload 6, 2) := by decide +kernel
theorem dX10_rush_64 : decode cX10_rush 64 = .ok (.ifnull 27, 3) := by decide +kernel
theorem dX10_rush_67 : decode cX10_rush 67 = .ok (.aload 6, 2) := by decide +kernel
theorem dX10_rush_69 : decode cX10_rush 69 = .ok (.getfield 462, 3) := by decide +kernel
theorem dX10_rush_72 : decode cX10_rush 72 = .ok (.iload_n 2, 1) := by decide +kernel
theorem dX10_rush_73 : decode cX10_rush 73 = .ok (.dup2, 1) := by decide +kernel
theorem dX10_rush_74 : decode cX10_rush 74 = .ok (.iaload, 1) := by decide +kernel
theorem dX10_rush_75 : decode cX10_rush 75 = .ok (.iload_n 3, 1) := by decide +kernel
theorem dX10_rush_76 : decode cX10_rush 76 = .ok (.iload 5, 2) := by decide +kernel
theorem dX10_rush_78 : decode cX10_rush 78 = .ok (.isub, 1) := by decide +kernel
theorem dX10_rush_79 : decode cX10_rush 79 = .ok (.iadd, 1) := by decide +kernel
theorem dX10_rush_80 : decode cX10_rush 80 = .ok (.iastore, 1) := by decide +kernel
theorem dX10_rush_81 : decode cX10_rush 81 = .ok (.aload 6, 2) := by decide +kernel
theorem dX10_rush_83 : decode cX10_rush 83 = .ok (.getfield 117, 3) := by decide +kernel
theorem dX10_rush_86 : decode cX10_rush 86 = .ok (.astore 6, 2) := by decide +kernel
theorem dX10_rush_88 : decode cX10_rush 88 = .ok (.goto (-26), 3) := by decide +kernel
theorem dX10_rush_91 : decode cX10_rush 91 = .ok (.iload 5, 2) := by decide +kernel
theorem dX10_rush_93 : decode cX10_rush 93 = .ok (.ireturn, 1) := by decide +kernel
theorem dX10_load_0 : decode cX10_load 0 = .ok (.aload_n 0, 1) := by decide +kernel
theorem dX10_load_1 : decode cX10_load 1 = .ok (.iload_n 1, 1) := by decide +kernel
theorem dX10_load_2 : decode cX10_load 2 = .ok (.invokevirtual 123, 3) := by decide +kernel
theorem dX10_load_5 : decode cX10_load 5 = .ok (.astore_n 3, 1) := by decide +kernel
theorem dX10_load_6 : decode cX10_load 6 = .ok (.aload_n 3, 1) := by decide +kernel
theorem dX10_load_7 : decode cX10_load 7 = .ok (.ifnonnull 5, 3) := by decide +kernel
theorem dX10_load_10 : decode cX10_load 10 = .ok (.iconst (-1), 1) := by decide +kernel
theorem dX10_load_11 : decode cX10_load 11 = .ok (.ireturn, 1) := by decide +kernel
theorem dX10_load_12 : decode cX10_load 12 = .ok (.iload_n 2, 1) := by decide +kernel
theorem dX10_load_13 : decode cX10_load 13 = .ok (.iconst 0, 1) := by decide +kernel
theorem dX10_load_14 : decode cX10_load 14 = .ok (.iconst 5, 1) := by decide +kernel
theorem dX10_load_15 : decode cX10_load 15 = .ok (.invokestatic 80, 3) := by decide +kernel
theorem dX10_load_18 : decode cX10_load 18 = .ok (.ifCond .eq 12, 3) := by decide +kernel
theorem dX10_load_21 : decode cX10_load 21 = .ok (.aload_n 3, 1) := by decide +kernel
theorem dX10_load_22 : decode cX10_load 22 = .ok (.getfield 462, 3) := by decide +kernel
theorem dX10_load_25 : decode cX10_load 25 = .ok (.iload_n 2, 1) := by decide +kernel
theorem dX10_load_26 : decode cX10_load 26 = .ok (.iaload, 1) := by decide +kernel
theorem dX10_load_27 : decode cX10_load 27 = .ok (.goto 5, 3) := by decide +kernel
theorem dX10_load_30 : decode cX10_load 30 = .ok (.bipush (-2), 2) := by decide +kernel
theorem dX10_load_32 : decode cX10_load 32 = .ok (.ireturn, 1) := by decide +kernel
theorem dX10_lines_0 : decode cX10_lines 0 = .ok (.aload_n 0, 1) := by decide +kernel
theorem dX10_lines_1 : decode cX10_lines 1 = .ok (.iload_n 1, 1) := by decide +kernel
theorem dX10_lines_2 : decode cX10_lines 2 = .ok (.invokevirtual 123, 3) := by decide +kernel
theorem dX10_lines_5 : decode cX10_lines 5 = .ok (.astore_n 2, 1) := by decide +kernel
theorem dX10_lines_6 : decode cX10_lines 6 = .ok (.aload_n 2, 1) := by decide +kernel
theorem dX10_lines_7 : decode cX10_lines 7 = .ok (.ifnonnull 7, 3) := by decide +kernel
theorem dX10_lines_10 : decode cX10_lines 10 = .ok (.iconst (-1), 1) := by decide +kernel
theorem dX10_lines_11 : decode cX10_lines 11 = .ok (.goto 7, 3) := by decide +kernel
theorem dX10_lines_14 : decode cX10_lines 14 = .ok (.aload_n 2, 1) := by decide +kernel
theorem dX10_lines_15 : decode cX10_lines 15 = .ok (.invokevirtual 465, 3) := by decide +kernel
theorem dX10_lines_18 : decode cX10_lines 18 = .ok (.ireturn, 1) := by decide +kernel
theorem dX10_wanted_0 : decode cX10_wanted 0 = .ok (.iconst 0, 1) := by decide +kernel
theorem dX10_wanted_1 : decode cX10_wanted 1 = .ok (.istore_n 1, 1) := by decide +kernel
theorem dX10_wanted_2 : decode cX10_wanted 2 = .ok (.iconst 1, 1) := by decide +kernel
theorem dX10_wanted_3 : decode cX10_wanted 3 = .ok (.istore_n 2, 1) := by decide +kernel
theorem dX10_wanted_4 : decode cX10_wanted 4 = .ok (.iload_n 2, 1) := by decide +kernel
theorem dX10_wanted_5 : decode cX10_wanted 5 = .ok (.aload_n 0, 1) := by decide +kernel
theorem dX10_wanted_6 : decode cX10_wanted 6 = .ok (.getfield 72, 3) := by decide +kernel
theorem dX10_wanted_9 : decode cX10_wanted 9 = .ok (.if_icmp .ge 31, 3) := by decide +kernel
theorem dX10_wanted_12 : decode cX10_wanted 12 = .ok (.iload_n 1, 1) := by decide +kernel
theorem dX10_wanted_13 : decode cX10_wanted 13 = .ok (.aload_n 0, 1) := by decide +kernel
theorem dX10_wanted_14 : decode cX10_wanted 14 = .ok (.getfield 11, 3) := by decide +kernel
theorem dX10_wanted_17 : decode cX10_wanted 17 = .ok (.iload_n 2, 1) := by decide +kernel
theorem dX10_wanted_18 : decode cX10_wanted 18 = .ok (.aaload, 1) := by decide +kernel
theorem dX10_wanted_19 : decode cX10_wanted 19 = .ok (.invokevirtual 465, 3) := by decide +kernel
theorem dX10_wanted_22 : decode cX10_wanted 22 = .ok (.aload_n 0, 1) := by decide +kernel
theorem dX10_wanted_23 : decode cX10_wanted 23 = .ok (.getfield 11, 3) := by decide +kernel
theorem dX10_wanted_26 : decode cX10_wanted 26 = .ok (.iload_n 2, 1) := by decide +kernel
theorem dX10_wanted_27 : decode cX10_wanted 27 = .ok (.aaload, 1) := by decide +kernel
theorem dX10_wanted_28 : decode cX10_wanted 28 = .ok (.getfield 87, 3) := by decide +kernel
theorem dX10_wanted_31 : decode cX10_wanted 31 = .ok (.imul, 1) := by decide +kernel
theorem dX10_wanted_32 : decode cX10_wanted 32 = .ok (.iadd, 1) := by decide +kernel
theorem dX10_wanted_33 : decode cX10_wanted 33 = .ok (.istore_n 1, 1) := by decide +kernel
theorem dX10_wanted_34 : decode cX10_wanted 34 = .ok (.iinc 2 1, 3) := by decide +kernel
theorem dX10_wanted_37 : decode cX10_wanted 37 = .ok (.goto (-33), 3) := by decide +kernel
theorem dX10_wanted_40 : decode cX10_wanted 40 = .ok (.iload_n 1, 1) := by decide +kernel
theorem dX10_wanted_41 : decode cX10_wanted 41 = .ok (.ireturn, 1) := by decide +kernel
theorem dX10_vital_0 : decode cX10_vital 0 = .ok (.iload_n 1, 1) := by decide +kernel
theorem dX10_vital_1 : decode cX10_vital 1 = .ok (.iconst 0, 1) := by decide +kernel
theorem dX10_vital_2 : decode cX10_vital 2 = .ok (.iconst 5, 1) := by decide +kernel
theorem dX10_vital_3 : decode cX10_vital 3 = .ok (.invokestatic 80, 3) := by decide +kernel
theorem dX10_vital_6 : decode cX10_vital 6 = .ok (.ifCond .ne 6, 3) := by decide +kernel
theorem dX10_vital_9 : decode cX10_vital 9 = .ok (.bipush (-2), 2) := by decide +kernel
theorem dX10_vital_11 : decode cX10_vital 11 = .ok (.ireturn, 1) := by decide +kernel
theorem dX10_vital_12 : decode cX10_vital 12 = .ok (.iconst 0, 1) := by decide +kernel
theorem dX10_vital_13 : decode cX10_vital 13 = .ok (.istore_n 2, 1) := by decide +kernel
theorem dX10_vital_14 : decode cX10_vital 14 = .ok (.bipush (-9), 2) := by decide +kernel
theorem dX10_vital_16 : decode cX10_vital 16 = .ok (.istore_n 3, 1) := by decide +kernel
theorem dX10_vital_17 : decode cX10_vital 17 = .ok (.iconst 1, 1) := by decide +kernel
theorem dX10_vital_18 : decode cX10_vital 18 = .ok (.istore 4, 2) := by decide +kernel
theorem dX10_vital_20 : decode cX10_vital 20 = .ok (.iload 4, 2) := by decide +kernel
theorem dX10_vital_22 : decode cX10_vital 22 = .ok (.aload_n 0, 1) := by decide +kernel
theorem dX10_vital_23 : decode cX10_vital 23 = .ok (.getfield 72, 3) := by decide +kernel
theorem dX10_vital_26 : decode cX10_vital 26 = .ok (.if_icmp .ge 34, 3) := by decide +kernel
theorem dX10_vital_29 : decode cX10_vital 29 = .ok (.aload_n 0, 1) := by decide +kernel
theorem dX10_vital_30 : decode cX10_vital 30 = .ok (.getfield 11, 3) := by decide +kernel
theorem dX10_vital_33 : decode cX10_vital 33 = .ok (.iload 4, 2) := by decide +kernel
theorem dX10_vital_35 : decode cX10_vital 35 = .ok (.aaload, 1) := by decide +kernel
theorem dX10_vital_36 : decode cX10_vital 36 = .ok (.iload_n 1, 1) := by decide +kernel
theorem dX10_vital_37 : decode cX10_vital 37 = .ok (.invokevirtual 468, 3) := by decide +kernel
theorem dX10_vital_40 : decode cX10_vital 40 = .ok (.istore 5, 2) := by decide +kernel
theorem dX10_vital_42 : decode cX10_vital 42 = .ok (.iload 5, 2) := by decide +kernel
theorem dX10_vital_44 : decode cX10_vital 44 = .ok (.iload_n 2, 1) := by decide +kernel
theorem dX10_vital_45 : decode cX10_vital 45 = .ok (.if_icmp .le 9, 3) := by decide +kernel
theorem dX10_vital_48 : decode cX10_vital 48 = .ok (.iload 5, 2) := by decide +kernel
theorem dX10_vital_50 : decode cX10_vital 50 = .ok (.istore_n 2, 1) := by decide +kernel
theorem dX10_vital_51 : decode cX10_vital 51 = .ok (.iload 4, 2) := by decide +kernel
theorem dX10_vital_53 : decode cX10_vital 53 = .ok (.istore_n 3, 1) := by decide +kernel
theorem dX10_vital_54 : decode cX10_vital 54 = .ok (.iinc 4 1, 3) := by decide +kernel
theorem dX10_vital_57 : decode cX10_vital 57 = .ok (.goto (-37), 3) := by decide +kernel
theorem dX10_vital_60 : decode cX10_vital 60 = .ok (.iload_n 3, 1) := by decide +kernel
theorem dX10_vital_61 : decode cX10_vital 61 = .ok (.ireturn, 1) := by decide +kernel
theorem dX10_loss_0 : decode cX10_loss 0 = .ok (.aload_n 0, 1) := by decide +kernel
theorem dX10_loss_1 : decode cX10_loss 1 = .ok (.iload_n 1, 1) := by decide +kernel
theorem dX10_loss_2 : decode cX10_loss 2 = .ok (.invokevirtual 123, 3) := by decide +kernel
theorem dX10_loss_5 : decode cX10_loss 5 = .ok (.astore_n 3, 1) := by decide +kernel
theorem dX10_loss_6 : decode cX10_loss 6 = .ok (.aload_n 3, 1) := by decide +kernel
theorem dX10_loss_7 : decode cX10_loss 7 = .ok (.ifnonnull 5, 3) := by decide +kernel
theorem dX10_loss_10 : decode cX10_loss 10 = .ok (.iconst (-1), 1) := by decide +kernel
theorem dX10_loss_11 : decode cX10_loss 11 = .ok (.ireturn, 1) := by decide +kernel
theorem dX10_loss_12 : decode cX10_loss 12 = .ok (.iload_n 2, 1) := by decide +kernel
theorem dX10_loss_13 : decode cX10_loss 13 = .ok (.iconst 0, 1) := by decide +kernel
theorem dX10_loss_14 : decode cX10_loss 14 = .ok (.iconst 5, 1) := by decide +kernel
theorem dX10_loss_15 : decode cX10_loss 15 = .ok (.invokestatic 80, 3) := by decide +kernel
theorem dX10_loss_18 : decode cX10_loss 18 = .ok (.ifCond .eq 11, 3) := by decide +kernel
theorem dX10_loss_21 : decode cX10_loss 21 = .ok (.aload_n 3, 1) := by decide +kernel
theorem dX10_loss_22 : decode cX10_loss 22 = .ok (.iload_n 2, 1) := by decide +kernel
theorem dX10_loss_23 : decode cX10_loss 23 = .ok (.invokevirtual 468, 3) := by decide +kernel
theorem dX10_loss_26 : decode cX10_loss 26 = .ok (.goto 5, 3) := by decide +kernel
theorem dX10_loss_29 : decode cX10_loss 29 = .ok (.bipush (-2), 2) := by decide +kernel
theorem dX10_loss_31 : decode cX10_loss 31 = .ok (.ireturn, 1) := by decide +kernel
theorem dX10_bells_0 : decode cX10_bells 0 = .ok (.aload_n 0, 1) := by decide +kernel
theorem dX10_bells_1 : decode cX10_bells 1 = .ok (.getfield 54, 3) := by decide +kernel
theorem dX10_bells_4 : decode cX10_bells 4 = .ok (.getfield 471, 3) := by decide +kernel
theorem dX10_bells_7 : decode cX10_bells 7 = .ok (.ireturn, 1) := by decide +kernel
theorem dX10_bell_0 : decode cX10_bell 0 = .ok (.iload_n 1, 1) := by decide +kernel
theorem dX10_bell_1 : decode cX10_bell 1 = .ok (.ifCond .lt 14, 3) := by decide +kernel
theorem dX10_bell_4 : decode cX10_bell 4 = .ok (.iload_n 1, 1) := by decide +kernel
theorem dX10_bell_5 : decode cX10_bell 5 = .ok (.aload_n 0, 1) := by decide +kernel
theorem dX10_bell_6 : decode cX10_bell 6 = .ok (.getfield 54, 3) := by decide +kernel
theorem dX10_bell_9 : decode cX10_bell 9 = .ok (.getfield 471, 3) := by decide +kernel
theorem dX10_bell_12 : decode cX10_bell 12 = .ok (.if_icmp .lt 6, 3) := by decide +kernel
theorem dX10_bell_15 : decode cX10_bell 15 = .ok (.bipush (-9), 2) := by decide +kernel
theorem dX10_bell_17 : decode cX10_bell 17 = .ok (.ireturn, 1) := by decide +kernel
theorem dX10_bell_18 : decode cX10_bell 18 = .ok (.iload_n 2, 1) := by decide +kernel
theorem dX10_bell_19 : decode cX10_bell 19 = .ok (.ifCond .eq 14, 3) := by decide +kernel
theorem dX10_bell_22 : decode cX10_bell 22 = .ok (.aload_n 0, 1) := by decide +kernel
theorem dX10_bell_23 : decode cX10_bell 23 = .ok (.getfield 54, 3) := by decide +kernel
theorem dX10_bell_26 : decode cX10_bell 26 = .ok (.iload_n 1, 1) := by decide +kernel
theorem dX10_bell_27 : decode cX10_bell 27 = .ok (.invokevirtual 472, 3) := by decide +kernel
theorem dX10_bell_30 : decode cX10_bell 30 = .ok (.goto 11, 3) := by decide +kernel
theorem dX10_bell_33 : decode cX10_bell 33 = .ok (.aload_n 0, 1) := by decide +kernel
theorem dX10_bell_34 : decode cX10_bell 34 = .ok (.getfield 54, 3) := by decide +kernel
theorem dX10_bell_37 : decode cX10_bell 37 = .ok (.iload_n 1, 1) := by decide +kernel
theorem dX10_bell_38 : decode cX10_bell 38 = .ok (.invokevirtual 475, 3) := by decide +kernel
theorem dX10_bell_41 : decode cX10_bell 41 = .ok (.ireturn, 1) := by decide +kernel
theorem dX10_mayBe_0 : decode cX10_mayBe 0 = .ok (.aload_n 0, 1) := by decide +kernel
theorem dX10_mayBe_1 : decode cX10_mayBe 1 = .ok (.iload_n 1, 1) := by decide +kernel
theorem dX10_mayBe_2 : decode cX10_mayBe 2 = .ok (.invokevirtual 157, 3) := by decide +kernel
theorem dX10_mayBe_5 : decode cX10_mayBe 5 = .ok (.astore_n 2, 1) := by decide +kernel
theorem dX10_mayBe_6 : decode cX10_mayBe 6 = .ok (.aload_n 2, 1) := by decide +kernel
theorem dX10_mayBe_7 : decode cX10_mayBe 7 = .ok (.ifnonnull 5, 3) := by decide +kernel
theorem dX10_mayBe_10 : decode cX10_mayBe 10 = .ok (.iconst (-1), 1) := by decide +kernel
theorem dX10_mayBe_11 : decode cX10_mayBe 11 = .ok (.ireturn, 1) := by decide +kernel
theorem dX10_mayBe_12 : decode cX10_mayBe 12 = .ok (.aload_n 2, 1) := by decide +kernel
theorem dX10_mayBe_13 : decode cX10_mayBe 13 = .ok (.getfield 170, 3) := by decide +kernel
theorem dX10_mayBe_16 : decode cX10_mayBe 16 = .ok (.ifCond .ne 6, 3) := by decide +kernel
theorem dX10_mayBe_19 : decode cX10_mayBe 19 = .ok (.bipush (-3), 2) := by decide +kernel
theorem dX10_mayBe_21 : decode cX10_mayBe 21 = .ok (.ireturn, 1) := by decide +kernel
theorem dX10_mayBe_22 : decode cX10_mayBe 22 = .ok (.iconst 0, 1) := by decide +kernel
theorem dX10_mayBe_23 : decode cX10_mayBe 23 = .ok (.istore_n 3, 1) := by decide +kernel
theorem dX10_mayBe_24 : decode cX10_mayBe 24 = .ok (.aload_n 2, 1) := by decide +kernel
theorem dX10_mayBe_25 : decode cX10_mayBe 25 = .ok (.getfield 176, 3) := by decide +kernel
theorem dX10_mayBe_28 : decode cX10_mayBe 28 = .ok (.istore 4, 2) := by decide +kernel
theorem dX10_mayBe_30 : decode cX10_mayBe 30 = .ok (.aload_n 2, 1) := by decide +kernel
theorem dX10_mayBe_31 : decode cX10_mayBe 31 = .ok (.getfield 182, 3) := by decide +kernel
theorem dX10_mayBe_34 : decode cX10_mayBe 34 = .ok (.astore 5, 2) := by decide +kernel
theorem dX10_mayBe_36 : decode cX10_mayBe 36 = .ok (.aload 5, 2) := by decide +kernel
theorem dX10_mayBe_38 : decode cX10_mayBe 38 = .ok (.getfield 117, 3) := by decide +kernel
theorem dX10_mayBe_41 : decode cX10_mayBe 41 = .ok (.ifnull 86, 3) := by decide +kernel
theorem dX10_mayBe_44 : decode cX10_mayBe 44 = .ok (.iload 4, 2) := by decide +kernel
theorem dX10_mayBe_46 : decode cX10_mayBe 46 = .ok (.aload 5, 2) := by decide +kernel
theorem dX10_mayBe_48 : decode cX10_mayBe 48 = .ok (.getfield 87, 3) := by decide +kernel
theorem dX10_mayBe_51 : decode cX10_mayBe 51 = .ok (.iadd, 1) := by decide +kernel
theorem dX10_mayBe_52 : decode cX10_mayBe 52 = .ok (.istore 4, 2) := by decide +kernel
theorem dX10_mayBe_54 : decode cX10_mayBe 54 = .ok (.aload 5, 2) := by decide +kernel
theorem dX10_mayBe_56 : decode cX10_mayBe 56 = .ok (.getfield 117, 3) := by decide +kernel
theorem dX10_mayBe_59 : decode cX10_mayBe 59 = .ok (.getfield 84, 3) := by decide +kernel
theorem dX10_mayBe_62 : decode cX10_mayBe 62 = .ok (.iconst 1, 1) := by decide +kernel
theorem dX10_mayBe_63 : decode cX10_mayBe 63 = .ok (.if_icmp .ne 33, 3) := by decide +kernel
theorem dX10_mayBe_66 : decode cX10_mayBe 66 = .ok (.aload 5, 2) := by decide +kernel
theorem dX10_mayBe_68 : decode cX10_mayBe 68 = .ok (.getfield 117, 3) := by decide +kernel
theorem dX10_mayBe_71 : decode cX10_mayBe 71 = .ok (.getfield 114, 3) := by decide +kernel
theorem dX10_mayBe_74 : decode cX10_mayBe 74 = .ok (.ifCond .ne 22, 3) := by decide +kernel
theorem dX10_mayBe_77 : decode cX10_mayBe 77 = .ok (.aload_n 0, 1) := by decide +kernel
theorem dX10_mayBe_78 : decode cX10_mayBe 78 = .ok (.getfield 54, 3) := by decide +kernel
theorem dX10_mayBe_81 : decode cX10_mayBe 81 = .ok (.aload 5, 2) := by decide +kernel
theorem dX10_mayBe_83 : decode cX10_mayBe 83 = .ok (.getfield 117, 3) := by decide +kernel
theorem dX10_mayBe_86 : decode cX10_mayBe 86 = .ok (.getfield 97, 3) := by decide +kernel
theorem dX10_mayBe_89 : decode cX10_mayBe 89 = .ok (.iload 4, 2) := by decide +kernel
theorem dX10_mayBe_91 : decode cX10_mayBe 91 = .ok (.invokevirtual 478, 3) := by decide +kernel
theorem dX10_mayBe_94 : decode cX10_mayBe 94 = .ok (.istore 4, 2) := by decide +kernel
theorem dX10_mayBe_96 : decode cX10_mayBe 96 = .ok (.iload 4, 2) := by decide +kernel
theorem dX10_mayBe_98 : decode cX10_mayBe 98 = .ok (.bipush (-9), 2) := by decide +kernel
theorem dX10_mayBe_100 : decode cX10_mayBe 100 = .ok (.if_icmp .eq 12, 3) := by decide +kernel
theorem dX10_mayBe_103 : decode cX10_mayBe 103 = .ok (.iload 4, 2) := by decide +kernel
theorem dX10_mayBe_105 : decode cX10_mayBe 105 = .ok (.aload_n 0, 1) := by decide +kernel
theorem dX10_mayBe_106 : decode cX10_mayBe 106 = .ok (.getfield 150, 3) := by decide +kernel
theorem dX10_mayBe_109 : decode cX10_mayBe 109 = .ok (.if_icmp .le 5, 3) := by decide +kernel
theorem dX10_mayBe_112 : decode cX10_mayBe 112 = .ok (.iload_n 3, 1) := by decide +kernel
theorem dX10_mayBe_113 : decode cX10_mayBe 113 = .ok (.ireturn, 1) := by decide +kernel
theorem dX10_mayBe_114 : decode cX10_mayBe 114 = .ok (.iinc 3 1, 3) := by decide +kernel
theorem dX10_mayBe_117 : decode cX10_mayBe 117 = .ok (.aload 5, 2) := by decide +kernel
theorem dX10_mayBe_119 : decode cX10_mayBe 119 = .ok (.getfield 117, 3) := by decide +kernel
theorem dX10_mayBe_122 : decode cX10_mayBe 122 = .ok (.astore 5, 2) := by decide +kernel
theorem dX10_mayBe_124 : decode cX10_mayBe 124 = .ok (.goto (-88), 3) := by decide +kernel
theorem dX10_mayBe_127 : decode cX10_mayBe 127 = .ok (.iload_n 3, 1) := by decide +kernel
theorem dX10_mayBe_128 : decode cX10_mayBe 128 = .ok (.ireturn, 1) := by decide +kernel
theorem dX10_total_0 : decode cX10_total 0 = .ok (.iload_n 1, 1) := by decide +kernel
theorem dX10_total_1 : decode cX10_total 1 = .ok (.tableswitch 95 0 7 #[47, 52, 57, 62, 67, 72, 77, 82], 47) := by decide +kernel
theorem dX10_total_48 : decode cX10_total 48 = .ok (.aload_n 0, 1) := by decide +kernel
theorem dX10_total_49 : decode cX10_total 49 = .ok (.getfield 72, 3) := by decide +kernel
theorem dX10_total_52 : decode cX10_total 52 = .ok (.ireturn, 1) := by decide +kernel
theorem dX10_total_53 : decode cX10_total 53 = .ok (.aload_n 0, 1) := by decide +kernel
theorem dX10_total_54 : decode cX10_total 54 = .ok (.getfield 126, 3) := by decide +kernel
theorem dX10_total_57 : decode cX10_total 57 = .ok (.ireturn, 1) := by decide +kernel
theorem dX10_total_58 : decode cX10_total 58 = .ok (.aload_n 0, 1) := by decide +kernel
theorem dX10_total_59 : decode cX10_total 59 = .ok (.getfield 150, 3) := by decide +kernel
theorem dX10_total_62 : decode cX10_total 62 = .ok (.ireturn, 1) := by decide +kernel
theorem dX10_total_63 : decode cX10_total 63 = .ok (.aload_n 0, 1) := by decide +kernel
theorem dX10_total_64 : decode cX10_total 64 = .ok (.invokevirtual 481, 3) := by decide +kernel
theorem dX10_total_67 : decode cX10_total 67 = .ok (.ireturn, 1) := by decide +kernel
theorem dX10_total_68 : decode cX10_total 68 = .ok (.aload_n 0, 1) := by decide +kernel
theorem dX10_total_69 : decode cX10_total 69 = .ok (.getfield 133, 3) := by decide +kernel
theorem dX10_total_72 : decode cX10_total 72 = .ok (.ireturn, 1) := by decide +kernel
theorem dX10_total_73 : decode cX10_total 73 = .ok (.aload_n 0, 1) := by decide +kernel
theorem dX10_total_74 : decode cX10_total 74 = .ok (.getfield 179, 3) := by decide +kernel
theorem dX10_total_77 : decode cX10_total 77 = .ok (.ireturn, 1) := by decide +kernel
theorem dX10_total_78 : decode cX10_total 78 = .ok (.aload_n 0, 1) := by decide +kernel
theorem dX10_total_79 : decode cX10_total 79 = .ok (.getfield 301, 3) := by decide +kernel
theorem dX10_total_82 : decode cX10_total 82 = .ok (.ireturn, 1) := by decide +kernel
theorem dX10_total_83 : decode cX10_total 83 = .ok (.aload_n 0, 1) := by decide +kernel
theorem dX10_total_84 : decode cX10_total 84 = .ok (.getfield 33, 3) := by decide +kernel
theorem dX10_total_87 : decode cX10_total 87 = .ok (.invokevirtual 298, 3) := by decide +kernel
theorem dX10_total_90 : decode cX10_total 90 = .ok (.aload_n 0, 1) := by decide +kernel
theorem dX10_total_91 : decode cX10_total 91 = .ok (.invokevirtual 484, 3) := by decide +kernel
theorem dX10_total_94 : decode cX10_total 94 = .ok (.iadd, 1) := by decide +kernel
theorem dX10_total_95 : decode cX10_total 95 = .ok (.ireturn, 1) := by decide +kernel
theorem dX10_total_96 : decode cX10_total 96 = .ok (.bipush (-2), 2) := by decide +kernel
theorem dX10_total_98 : decode cX10_total 98 = .ok (.ireturn, 1) := by decide +kernel
theorem dX10_cupsOut_0 : decode cX10_cupsOut 0 = .ok (.iconst 0, 1) := by decide +kernel
theorem dX10_cupsOut_1 : decode cX10_cupsOut 1 = .ok (.istore_n 1, 1) := by decide +kernel
theorem dX10_cupsOut_2 : decode cX10_cupsOut 2 = .ok (.iconst 0, 1) := by decide +kernel
theorem dX10_cupsOut_3 : decode cX10_cupsOut 3 = .ok (.istore_n 2, 1) := by decide +kernel
theorem dX10_cupsOut_4 : decode cX10_cupsOut 4 = .ok (.iload_n 2, 1) := by decide +kernel
theorem dX10_cupsOut_5 : decode cX10_cupsOut 5 = .ok (.aload_n 0, 1) := by decide +kernel
theorem dX10_cupsOut_6 : decode cX10_cupsOut 6 = .ok (.getfield 126, 3) := by decide +kernel
theorem dX10_cupsOut_9 : decode cX10_cupsOut 9 = .ok (.if_icmp .ge 24, 3) := by decide +kernel
theorem dX10_cupsOut_12 : decode cX10_cupsOut 12 = .ok (.aload_n 0, 1) := by decide +kernel
theorem dX10_cupsOut_13 : decode cX10_cupsOut 13 = .ok (.getfield 17, 3) := by decide +kernel
theorem dX10_cupsOut_16 : decode cX10_cupsOut 16 = .ok (.iload_n 2, 1) := by decide +kernel
theorem dX10_cupsOut_17 : decode cX10_cupsOut 17 = .ok (.aaload, 1) := by decide +kernel
theorem dX10_cupsOut_18 : decode cX10_cupsOut 18 = .ok (.getfield 164, 3) := by decide +kernel
theorem dX10_cupsOut_21 : decode cX10_cupsOut 21 = .ok (.ifCond .eq 6, 3) := by decide +kernel
theorem dX10_cupsOut_24 : decode cX10_cupsOut 24 = .ok (.iinc 1 1, 3) := by decide +kernel
theorem dX10_cupsOut_27 : decode cX10_cupsOut 27 = .ok (.iinc 2 1, 3) := by decide +kernel
theorem dX10_cupsOut_30 : decode cX10_cupsOut 30 = .ok (.goto (-26), 3) := by decide +kernel
theorem dX10_cupsOut_33 : decode cX10_cupsOut 33 = .ok (.iload_n 1, 1) := by decide +kernel
theorem dX10_cupsOut_34 : decode cX10_cupsOut 34 = .ok (.ireturn, 1) := by decide +kernel
theorem dX10_cupsWorth_0 : decode cX10_cupsWorth 0 = .ok (.iconst 0, 1) := by decide +kernel
theorem dX10_cupsWorth_1 : decode cX10_cupsWorth 1 = .ok (.istore_n 1, 1) := by decide +kernel
theorem dX10_cupsWorth_2 : decode cX10_cupsWorth 2 = .ok (.iconst 0, 1) := by decide +kernel
theorem dX10_cupsWorth_3 : decode cX10_cupsWorth 3 = .ok (.istore_n 2, 1) := by decide +kernel
theorem dX10_cupsWorth_4 : decode cX10_cupsWorth 4 = .ok (.iload_n 2, 1) := by decide +kernel
theorem dX10_cupsWorth_5 : decode cX10_cupsWorth 5 = .ok (.aload_n 0, 1) := by decide +kernel
theorem dX10_cupsWorth_6 : decode cX10_cupsWorth 6 = .ok (.getfield 126, 3) := by decide +kernel
theorem dX10_cupsWorth_9 : decode cX10_cupsWorth 9 = .ok (.if_icmp .ge 24, 3) := by decide +kernel
theorem dX10_cupsWorth_12 : decode cX10_cupsWorth 12 = .ok (.iload_n 1, 1) := by decide +kernel
theorem dX10_cupsWorth_13 : decode cX10_cupsWorth 13 = .ok (.aload_n 0, 1) := by decide +kernel
theorem dX10_cupsWorth_14 : decode cX10_cupsWorth 14 = .ok (.getfield 17, 3) := by decide +kernel
theorem dX10_cupsWorth_17 : decode cX10_cupsWorth 17 = .ok (.iload_n 2, 1) := by decide +kernel
theorem dX10_cupsWorth_18 : decode cX10_cupsWorth 18 = .ok (.aaload, 1) := by decide +kernel
theorem dX10_cupsWorth_19 : decode cX10_cupsWorth 19 = .ok (.getfield 167, 3) := by decide +kernel
theorem dX10_cupsWorth_22 : decode cX10_cupsWorth 22 = .ok (.invokevirtual 298, 3) := by decide +kernel
theorem dX10_cupsWorth_25 : decode cX10_cupsWorth 25 = .ok (.iadd, 1) := by decide +kernel
theorem dX10_cupsWorth_26 : decode cX10_cupsWorth 26 = .ok (.istore_n 1, 1) := by decide +kernel
theorem dX10_cupsWorth_27 : decode cX10_cupsWorth 27 = .ok (.iinc 2 1, 3) := by decide +kernel
theorem dX10_cupsWorth_30 : decode cX10_cupsWorth 30 = .ok (.goto (-26), 3) := by decide +kernel
theorem dX10_cupsWorth_33 : decode cX10_cupsWorth 33 = .ok (.iload_n 1, 1) := by decide +kernel
theorem dX10_cupsWorth_34 : decode cX10_cupsWorth 34 = .ok (.ireturn, 1) := by decide +kernel
theorem dX10_within_0 : decode cX10_within 0 = .ok (.iload_n 0, 1) := by decide +kernel
theorem dX10_within_1 : decode cX10_within 1 = .ok (.iload_n 1, 1) := by decide +kernel
theorem dX10_within_2 : decode cX10_within 2 = .ok (.if_icmp .lt 12, 3) := by decide +kernel
theorem dX10_within_5 : decode cX10_within 5 = .ok (.iload_n 0, 1) := by decide +kernel
theorem dX10_within_6 : decode cX10_within 6 = .ok (.iload_n 2, 1) := by decide +kernel
theorem dX10_within_7 : decode cX10_within 7 = .ok (.if_icmp .gt 7, 3) := by decide +kernel
theorem dX10_within_10 : decode cX10_within 10 = .ok (.iconst 1, 1) := by decide +kernel
theorem dX10_within_11 : decode cX10_within 11 = .ok (.goto 4, 3) := by decide +kernel
theorem dX10_within_14 : decode cX10_within 14 = .ok (.iconst 0, 1) := by decide +kernel
theorem dX10_within_15 : decode cX10_within 15 = .ok (.ireturn, 1) := by decide +kernel
theorem dX10_findPost_0 : decode cX10_findPost 0 = .ok (.iload_n 1, 1) := by decide +kernel
theorem dX10_findPost_1 : decode cX10_findPost 1 = .ok (.ifCond .lt 11, 3) := by decide +kernel
theorem dX10_findPost_4 : decode cX10_findPost 4 = .ok (.iload_n 1, 1) := by decide +kernel
theorem dX10_findPost_5 : decode cX10_findPost 5 = .ok (.aload_n 0, 1) := by decide +kernel
theorem dX10_findPost_6 : decode cX10_findPost 6 = .ok (.getfield 72, 3) := by decide +kernel
theorem dX10_findPost_9 : decode cX10_findPost 9 = .ok (.if_icmp .lt 7, 3) := by decide +kernel
theorem dX10_findPost_12 : decode cX10_findPost 12 = .ok (.aconst_null, 1) := by decide +kernel
theorem dX10_findPost_13 : decode cX10_findPost 13 = .ok (.goto 9, 3) := by decide +kernel
theorem dX10_findPost_16 : decode cX10_findPost 16 = .ok (.aload_n 0, 1) := by decide +kernel
theorem dX10_findPost_17 : decode cX10_findPost 17 = .ok (.getfield 11, 3) := by decide +kernel
theorem dX10_findPost_20 : decode cX10_findPost 20 = .ok (.iload_n 1, 1) := by decide +kernel
theorem dX10_findPost_21 : decode cX10_findPost 21 = .ok (.aaload, 1) := by decide +kernel
theorem dX10_findPost_22 : decode cX10_findPost 22 = .ok (.areturn, 1) := by decide +kernel
theorem dX10_findWire_0 : decode cX10_findWire 0 = .ok (.iload_n 1, 1) := by decide +kernel
theorem dX10_findWire_1 : decode cX10_findWire 1 = .ok (.iconst 1, 1) := by decide +kernel
theorem dX10_findWire_2 : decode cX10_findWire 2 = .ok (.if_icmp .lt 11, 3) := by decide +kernel
theorem dX10_findWire_5 : decode cX10_findWire 5 = .ok (.iload_n 1, 1) := by decide +kernel
theorem dX10_findWire_6 : decode cX10_findWire 6 = .ok (.aload_n 0, 1) := by decide +kernel
theorem dX10_findWire_7 : decode cX10_findWire 7 = .ok (.getfield 72, 3) := by decide +kernel
theorem dX10_findWire_10 : decode cX10_findWire 10 = .ok (.if_icmp .lt 7, 3) := by decide +kernel
theorem dX10_findWire_13 : decode cX10_findWire 13 = .ok (.aconst_null, 1) := by decide +kernel
theorem dX10_findWire_14 : decode cX10_findWire 14 = .ok (.goto 9, 3) := by decide +kernel
theorem dX10_findWire_17 : decode cX10_findWire 17 = .ok (.aload_n 0, 1) := by decide +kernel
theorem dX10_findWire_18 : decode cX10_findWire 18 = .ok (.getfield 11, 3) := by decide +kernel
theorem dX10_findWire_21 : decode cX10_findWire 21 = .ok (.iload_n 1, 1) := by decide +kernel
theorem dX10_findWire_22 : decode cX10_findWire 22 = .ok (.aaload, 1) := by decide +kernel
theorem dX10_findWire_23 : decode cX10_findWire 23 = .ok (.areturn, 1) := by decide +kernel
theorem dX10_findCup_0 : decode cX10_findCup 0 = .ok (.iload_n 1, 1) := by decide +kernel
theorem dX10_findCup_1 : decode cX10_findCup 1 = .ok (.ifCond .lt 11, 3) := by decide +kernel
theorem dX10_findCup_4 : decode cX10_findCup 4 = .ok (.iload_n 1, 1) := by decide +kernel
theorem dX10_findCup_5 : decode cX10_findCup 5 = .ok (.aload_n 0, 1) := by decide +kernel
theorem dX10_findCup_6 : decode cX10_findCup 6 = .ok (.getfield 126, 3) := by decide +kernel
theorem dX10_findCup_9 : decode cX10_findCup 9 = .ok (.if_icmp .lt 7, 3) := by decide +kernel
theorem dX10_findCup_12 : decode cX10_findCup 12 = .ok (.aconst_null, 1) := by decide +kernel
theorem dX10_findCup_13 : decode cX10_findCup 13 = .ok (.goto 9, 3) := by decide +kernel
theorem dX10_findCup_16 : decode cX10_findCup 16 = .ok (.aload_n 0, 1) := by decide +kernel
theorem dX10_findCup_17 : decode cX10_findCup 17 = .ok (.getfield 17, 3) := by decide +kernel
theorem dX10_findCup_20 : decode cX10_findCup 20 = .ok (.iload_n 1, 1) := by decide +kernel
theorem dX10_findCup_21 : decode cX10_findCup 21 = .ok (.aaload, 1) := by decide +kernel
theorem dX10_findCup_22 : decode cX10_findCup 22 = .ok (.areturn, 1) := by decide +kernel
theorem dJ6_compare_7cf53_0 : decode cJ6_compare_7cf53 0 = .ok (.iload_n 0, 1) := by decide +kernel
theorem dJ6_compare_7cf53_1 : decode cJ6_compare_7cf53 1 = .ok (.iload_n 1, 1) := by decide +kernel
theorem dJ6_compare_7cf53_2 : decode cJ6_compare_7cf53 2 = .ok (.if_icmp .ge 7, 3) := by decide +kernel
theorem dJ6_compare_7cf53_5 : decode cJ6_compare_7cf53 5 = .ok (.iconst (-1), 1) := by decide +kernel
theorem dJ6_compare_7cf53_6 : decode cJ6_compare_7cf53 6 = .ok (.goto 13, 3) := by decide +kernel
theorem dJ6_compare_7cf53_9 : decode cJ6_compare_7cf53 9 = .ok (.iload_n 0, 1) := by decide +kernel
theorem dJ6_compare_7cf53_10 : decode cJ6_compare_7cf53 10 = .ok (.iload_n 1, 1) := by decide +kernel
theorem dJ6_compare_7cf53_11 : decode cJ6_compare_7cf53 11 = .ok (.if_icmp .ne 7, 3) := by decide +kernel
theorem dJ6_compare_7cf53_14 : decode cJ6_compare_7cf53 14 = .ok (.iconst 0, 1) := by decide +kernel
theorem dJ6_compare_7cf53_15 : decode cJ6_compare_7cf53 15 = .ok (.goto 4, 3) := by decide +kernel
theorem dJ6_compare_7cf53_18 : decode cJ6_compare_7cf53 18 = .ok (.iconst 1, 1) := by decide +kernel
theorem dJ6_compare_7cf53_19 : decode cJ6_compare_7cf53 19 = .ok (.ireturn, 1) := by decide +kernel
theorem dJ9_max_7cf53_0 : decode cJ9_max_7cf53 0 = .ok (.iload_n 0, 1) := by decide +kernel
theorem dJ9_max_7cf53_1 : decode cJ9_max_7cf53 1 = .ok (.iload_n 1, 1) := by decide +kernel
theorem dJ9_max_7cf53_2 : decode cJ9_max_7cf53 2 = .ok (.if_icmp .lt 7, 3) := by decide +kernel
theorem dJ9_max_7cf53_5 : decode cJ9_max_7cf53 5 = .ok (.iload_n 0, 1) := by decide +kernel
theorem dJ9_max_7cf53_6 : decode cJ9_max_7cf53 6 = .ok (.goto 4, 3) := by decide +kernel
theorem dJ9_max_7cf53_9 : decode cJ9_max_7cf53 9 = .ok (.iload_n 1, 1) := by decide +kernel
theorem dJ9_max_7cf53_10 : decode cJ9_max_7cf53 10 = .ok (.ireturn, 1) := by decide +kernel
theorem dJ9_min_7cf53_0 : decode cJ9_min_7cf53 0 = .ok (.iload_n 0, 1) := by decide +kernel
theorem dJ9_min_7cf53_1 : decode cJ9_min_7cf53 1 = .ok (.iload_n 1, 1) := by decide +kernel
theorem dJ9_min_7cf53_2 : decode cJ9_min_7cf53 2 = .ok (.if_icmp .gt 7, 3) := by decide +kernel
theorem dJ9_min_7cf53_5 : decode cJ9_min_7cf53 5 = .ok (.iload_n 0, 1) := by decide +kernel
theorem dJ9_min_7cf53_6 : decode cJ9_min_7cf53 6 = .ok (.goto 4, 3) := by decide +kernel
theorem dJ9_min_7cf53_9 : decode cJ9_min_7cf53 9 = .ok (.iload_n 1, 1) := by decide +kernel
theorem dJ9_min_7cf53_10 : decode cJ9_min_7cf53 10 = .ok (.ireturn, 1) := by decide +kernel
