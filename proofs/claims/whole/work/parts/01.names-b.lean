set_option maxRecDepth 20000 in
theorem ggX0_init_J7_fill_53178 : GoodIn wsX0_init wsJ7_fill_53178 := goodIn_r _ [20] (by decide +kernel) (by decide +kernel)
set_option maxRecDepth 20000 in
theorem gX0_init_J7_fill_53178 : GoodIn wsX0_init (va_wsS RX0 49 yJ7_fill_53178 wsJ7_fill_53178) := goodIn_app (goodIn_of _ (by decide +kernel)) ggX0_init_J7_fill_53178
theorem dX0_init_0 : decode cX0_init 0 = .ok (.aload_n 0, 1) := by decide +kernel
theorem dX0_init_1 : decode cX0_init 1 = .ok (.invokespecial 3, 3) := by decide +kernel
theorem dX0_init_4 : decode cX0_init 4 = .ok (.aload_n 0, 1) := by decide +kernel
theorem dX0_init_5 : decode cX0_init 5 = .ok (.bipush 10, 2) := by decide +kernel
theorem dX0_init_7 : decode cX0_init 7 = .ok (.putfield 9, 3) := by decide +kernel
theorem dX0_init_10 : decode cX0_init 10 = .ok (.aload_n 0, 1) := by decide +kernel
theorem dX0_init_11 : decode cX0_init 11 = .ok (.iconst 1, 1) := by decide +kernel
theorem dX0_init_12 : decode cX0_init 12 = .ok (.putfield 15, 3) := by decide +kernel
theorem dX0_init_15 : decode cX0_init 15 = .ok (.aload_n 0, 1) := by decide +kernel
theorem dX0_init_16 : decode cX0_init 16 = .ok (.iconst (-1), 1) := by decide +kernel
theorem dX0_init_17 : decode cX0_init 17 = .ok (.putfield 18, 3) := by decide +kernel
theorem dX0_init_20 : decode cX0_init 20 = .ok (.aload_n 0, 1) := by decide +kernel
theorem dX0_init_21 : decode cX0_init 21 = .ok (.iconst (-1), 1) := by decide +kernel
theorem dX0_init_22 : decode cX0_init 22 = .ok (.putfield 21, 3) := by decide +kernel
theorem dX0_init_25 : decode cX0_init 25 = .ok (.aload_n 0, 1) := by decide +kernel
theorem dX0_init_26 : decode cX0_init 26 = .ok (.iconst (-1), 1) := by decide +kernel
theorem dX0_init_27 : decode cX0_init 27 = .ok (.putfield 24, 3) := by decide +kernel
theorem dX0_init_30 : decode cX0_init 30 = .ok (.aload_n 0, 1) := by decide +kernel
theorem dX0_init_31 : decode cX0_init 31 = .ok (.iconst 5, 1) := by decide +kernel
theorem dX0_init_32 : decode cX0_init 32 = .ok (.newarray .int, 2) := by decide +kernel
theorem dX0_init_34 : decode cX0_init 34 = .ok (.putfield 27, 3) := by decide +kernel
theorem dX0_init_37 : decode cX0_init 37 = .ok (.aload_n 0, 1) := by decide +kernel
theorem dX0_init_38 : decode cX0_init 38 = .ok (.iconst 5, 1) := by decide +kernel
theorem dX0_init_39 : decode cX0_init 39 = .ok (.newarray .int, 2) := by decide +kernel
theorem dX0_init_41 : decode cX0_init 41 = .ok (.putfield 31, 3) := by decide +kernel
theorem dX0_init_44 : decode cX0_init 44 = .ok (.aload_n 0, 1) := by decide +kernel
theorem dX0_init_45 : decode cX0_init 45 = .ok (.iconst 5, 1) := by decide +kernel
theorem dX0_init_46 : decode cX0_init 46 = .ok (.newarray .int, 2) := by decide +kernel
theorem dX0_init_48 : decode cX0_init 48 = .ok (.putfield 34, 3) := by decide +kernel
theorem dX0_init_51 : decode cX0_init 51 = .ok (.aload_n 0, 1) := by decide +kernel
theorem dX0_init_52 : decode cX0_init 52 = .ok (.sipush 200, 3) := by decide +kernel
theorem dX0_init_55 : decode cX0_init 55 = .ok (.newarray .int, 2) := by decide +kernel
theorem dX0_init_57 : decode cX0_init 57 = .ok (.putfield 37, 3) := by decide +kernel
theorem dX0_init_60 : decode cX0_init 60 = .ok (.aload_n 0, 1) := by decide +kernel
theorem dX0_init_61 : decode cX0_init 61 = .ok (.sipush 200, 3) := by decide +kernel
theorem dX0_init_64 : decode cX0_init 64 = .ok (.newarray .int, 2) := by decide +kernel
theorem dX0_init_66 : decode cX0_init 66 = .ok (.putfield 40, 3) := by decide +kernel
theorem dX0_init_69 : decode cX0_init 69 = .ok (.aload_n 0, 1) := by decide +kernel
theorem dX0_init_70 : decode cX0_init 70 = .ok (.sipush 200, 3) := by decide +kernel
theorem dX0_init_73 : decode cX0_init 73 = .ok (.newarray .int, 2) := by decide +kernel
theorem dX0_init_75 : decode cX0_init 75 = .ok (.putfield 43, 3) := by decide +kernel
theorem dX0_init_78 : decode cX0_init 78 = .ok (.aload_n 0, 1) := by decide +kernel
theorem dX0_init_79 : decode cX0_init 79 = .ok (.bipush 8, 2) := by decide +kernel
theorem dX0_init_81 : decode cX0_init 81 = .ok (.newarray .int, 2) := by decide +kernel
theorem dX0_init_83 : decode cX0_init 83 = .ok (.putfield 46, 3) := by decide +kernel
theorem dX0_init_86 : decode cX0_init 86 = .ok (.aload_n 0, 1) := by decide +kernel
theorem dX0_init_87 : decode cX0_init 87 = .ok (.getfield 27, 3) := by decide +kernel
theorem dX0_init_90 : decode cX0_init 90 = .ok (.sipush 255, 3) := by decide +kernel
theorem dX0_init_93 : decode cX0_init 93 = .ok (.invokestatic 49, 3) := by decide +kernel
theorem dX0_init_96 : decode cX0_init 96 = .ok (.aload_n 0, 1) := by decide +kernel
theorem dX0_init_97 : decode cX0_init 97 = .ok (.getfield 34, 3) := by decide +kernel
theorem dX0_init_100 : decode cX0_init 100 = .ok (.iconst (-1), 1) := by decide +kernel
theorem dX0_init_101 : decode cX0_init 101 = .ok (.invokestatic 49, 3) := by decide +kernel
theorem dX0_init_104 : decode cX0_init 104 = .ok (.aload_n 0, 1) := by decide +kernel
theorem dX0_init_105 : decode cX0_init 105 = .ok (.getfield 37, 3) := by decide +kernel
theorem dX0_init_108 : decode cX0_init 108 = .ok (.bipush 15, 2) := by decide +kernel
theorem dX0_init_110 : decode cX0_init 110 = .ok (.invokestatic 49, 3) := by decide +kernel
theorem dX0_init_113 : decode cX0_init 113 = .ok (.aload_n 0, 1) := by decide +kernel
theorem dX0_init_114 : decode cX0_init 114 = .ok (.getfield 40, 3) := by decide +kernel
theorem dX0_init_117 : decode cX0_init 117 = .ok (.iconst (-1), 1) := by decide +kernel
theorem dX0_init_118 : decode cX0_init 118 = .ok (.invokestatic 49, 3) := by decide +kernel
theorem dX0_init_121 : decode cX0_init 121 = .ok (.return_, 1) := by decide +kernel
theorem dX0_copyFrom_0 : decode cX0_copyFrom 0 = .ok (.aload_n 0, 1) := by decide +kernel
theorem dX0_copyFrom_1 : decode cX0_copyFrom 1 = .ok (.aload_n 1, 1) := by decide +kernel
theorem dX0_copyFrom_2 : decode cX0_copyFrom 2 = .ok (.getfield 55, 3) := by decide +kernel
theorem dX0_copyFrom_5 : decode cX0_copyFrom 5 = .ok (.putfield 55, 3) := by decide +kernel
theorem dX0_copyFrom_8 : decode cX0_copyFrom 8 = .ok (.aload_n 0, 1) := by decide +kernel
theorem dX0_copyFrom_9 : decode cX0_copyFrom 9 = .ok (.aload_n 1, 1) := by decide +kernel
theorem dX0_copyFrom_10 : decode cX0_copyFrom 10 = .ok (.getfield 9, 3) := by decide +kernel
theorem dX0_copyFrom_13 : decode cX0_copyFrom 13 = .ok (.putfield 9, 3) := by decide +kernel
theorem dX0_copyFrom_16 : decode cX0_copyFrom 16 = .ok (.aload_n 0, 1) := by decide +kernel
theorem dX0_copyFrom_17 : decode cX0_copyFrom 17 = .ok (.aload_n 1, 1) := by decide +kernel
theorem dX0_copyFrom_18 : decode cX0_copyFrom 18 = .ok (.getfield 15, 3) := by decide +kernel
theorem dX0_copyFrom_21 : decode cX0_copyFrom 21 = .ok (.putfield 15, 3) := by decide +kernel
theorem dX0_copyFrom_24 : decode cX0_copyFrom 24 = .ok (.aload_n 0, 1) := by decide +kernel
theorem dX0_copyFrom_25 : decode cX0_copyFrom 25 = .ok (.aload_n 1, 1) := by decide +kernel
theorem dX0_copyFrom_26 : decode cX0_copyFrom 26 = .ok (.getfield 58, 3) := by decide +kernel
theorem dX0_copyFrom_29 : decode cX0_copyFrom 29 = .ok (.putfield 58, 3) := by decide +kernel
theorem dX0_copyFrom_32 : decode cX0_copyFrom 32 = .ok (.aload_n 0, 1) := by decide +kernel
theorem dX0_copyFrom_33 : decode cX0_copyFrom 33 = .ok (.aload_n 1, 1) := by decide +kernel
theorem dX0_copyFrom_34 : decode cX0_copyFrom 34 = .ok (.getfield 61, 3) := by decide +kernel
theorem dX0_copyFrom_37 : decode cX0_copyFrom 37 = .ok (.putfield 61, 3) := by decide +kernel
theorem dX0_copyFrom_40 : decode cX0_copyFrom 40 = .ok (.aload_n 0, 1) := by decide +kernel
theorem dX0_copyFrom_41 : decode cX0_copyFrom 41 = .ok (.aload_n 1, 1) := by decide +kernel
theorem dX0_copyFrom_42 : decode cX0_copyFrom 42 = .ok (.getfield 64, 3) := by decide +kernel
theorem dX0_copyFrom_45 : decode cX0_copyFrom 45 = .ok (.putfield 64, 3) := by decide +kernel
theorem dX0_copyFrom_48 : decode cX0_copyFrom 48 = .ok (.aload_n 0, 1) := by decide +kernel
theorem dX0_copyFrom_49 : decode cX0_copyFrom 49 = .ok (.aload_n 1, 1) := by decide +kernel
theorem dX0_copyFrom_50 : decode cX0_copyFrom 50 = .ok (.getfield 18, 3) := by decide +kernel
theorem dX0_copyFrom_53 : decode cX0_copyFrom 53 = .ok (.putfield 18, 3) := by decide +kernel
theorem dX0_copyFrom_56 : decode cX0_copyFrom 56 = .ok (.aload_n 0, 1) := by decide +kernel
theorem dX0_copyFrom_57 : decode cX0_copyFrom 57 = .ok (.aload_n 1, 1) := by decide +kernel
theorem dX0_copyFrom_58 : decode cX0_copyFrom 58 = .ok (.getfield 21, 3) := by decide +kernel
theorem dX0_copyFrom_61 : decode cX0_copyFrom 61 = .ok (.putfield 21, 3) := by decide +kernel
theorem dX0_copyFrom_64 : decode cX0_copyFrom 64 = .ok (.aload_n 0, 1) := by decide +kernel
theorem dX0_copyFrom_65 : decode cX0_copyFrom 65 = .ok (.aload_n 1, 1) := by decide +kernel
theorem dX0_copyFrom_66 : decode cX0_copyFrom 66 = .ok (.getfield 24, 3) := by decide +kernel
theorem dX0_copyFrom_69 : decode cX0_copyFrom 69 = .ok (.putfield 24, 3) := by decide +kernel
theorem dX0_copyFrom_72 : decode cX0_copyFrom 72 = .ok (.aload_n 1, 1) := by decide +kernel
theorem dX0_copyFrom_73 : decode cX0_copyFrom 73 = .ok (.getfield 27, 3) := by decide +kernel
theorem dX0_copyFrom_76 : decode cX0_copyFrom 76 = .ok (.iconst 0, 1) := by decide +kernel
theorem dX0_copyFrom_77 : decode cX0_copyFrom 77 = .ok (.aload_n 0, 1) := by decide +kernel
theorem dX0_copyFrom_78 : decode cX0_copyFrom 78 = .ok (.getfield 27, 3) := by decide +kernel
theorem dX0_copyFrom_81 : decode cX0_copyFrom 81 = .ok (.iconst 0, 1) := by decide +kernel
theorem dX0_copyFrom_82 : decode cX0_copyFrom 82 = .ok (.iconst 5, 1) := by decide +kernel
theorem dX0_copyFrom_83 : decode cX0_copyFrom 83 = .ok (.invokestatic 67, 3) := by decide +kernel
theorem dX0_copyFrom_86 : decode cX0_copyFrom 86 = .ok (.aload_n 1, 1) := by decide +kernel
theorem dX0_copyFrom_87 : decode cX0_copyFrom 87 = .ok (.getfield 31, 3) := by decide +kernel
theorem dX0_copyFrom_90 : decode cX0_copyFrom 90 = .ok (.iconst 0, 1) := by decide +kernel
theorem dX0_copyFrom_91 : decode cX0_copyFrom 91 = .ok (.aload_n 0, 1) := by decide +kernel
theorem dX0_copyFrom_92 : decode cX0_copyFrom 92 = .ok (.getfield 31, 3) := by decide +kernel
theorem dX0_copyFrom_95 : decode cX0_copyFrom 95 = .ok (.iconst 0, 1) := by decide +kernel
theorem dX0_copyFrom_96 : decode cX0_copyFrom 96 = .ok (.iconst 5, 1) := by decide +kernel
theorem dX0_copyFrom_97 : decode cX0_copyFrom 97 = .ok (.invokestatic 67, 3) := by decide +kernel
theorem dX0_copyFrom_100 : decode cX0_copyFrom 100 = .ok (.aload_n 1, 1) := by decide +kernel
theorem dX0_copyFrom_101 : decode cX0_copyFrom 101 = .ok (.getfield 34, 3) := by decide +kernel
theorem dX0_copyFrom_104 : decode cX0_copyFrom 104 = .ok (.iconst 0, 1) := by decide +kernel
theorem dX0_copyFrom_105 : decode cX0_copyFrom 105 = .ok (.aload_n 0, 1) := by decide +kernel
theorem dX0_copyFrom_106 : decode cX0_copyFrom 106 = .ok (.getfield 34, 3) := by decide +kernel
theorem dX0_copyFrom_109 : decode cX0_copyFrom 109 = .ok (.iconst 0, 1) := by decide +kernel
theorem dX0_copyFrom_110 : decode cX0_copyFrom 110 = .ok (.iconst 5, 1) := by decide +kernel
theorem dX0_copyFrom_111 : decode cX0_copyFrom 111 = .ok (.invokestatic 67, 3) := by decide +kernel
theorem dX0_copyFrom_114 : decode cX0_copyFrom 114 = .ok (.aload_n 1, 1) := by decide +kernel
theorem dX0_copyFrom_115 : decode cX0_copyFrom 115 = .ok (.getfield 37, 3) := by decide +kernel
theorem dX0_copyFrom_118 : decode cX0_copyFrom 118 = .ok (.iconst 0, 1) := by decide +kernel
theorem dX0_copyFrom_119 : decode cX0_copyFrom 119 = .ok (.aload_n 0, 1) := by decide +kernel
theorem dX0_copyFrom_120 : decode cX0_copyFrom 120 = .ok (.getfield 37, 3) := by decide +kernel
theorem dX0_copyFrom_123 : decode cX0_copyFrom 123 = .ok (.iconst 0, 1) := by decide +kernel
theorem dX0_copyFrom_124 : decode cX0_copyFrom 124 = .ok (.sipush 200, 3) := by decide +kernel
theorem dX0_copyFrom_127 : decode cX0_copyFrom 127 = .ok (.invokestatic 67, 3) := by decide +kernel
theorem dX0_copyFrom_130 : decode cX0_copyFrom 130 = .ok (.aload_n 1, 1) := by decide +kernel
theorem dX0_copyFrom_131 : decode cX0_copyFrom 131 = .ok (.getfield 40, 3) := by decide +kernel
theorem dX0_copyFrom_134 : decode cX0_copyFrom 134 = .ok (.iconst 0, 1) := by decide +kernel
theorem dX0_copyFrom_135 : decode cX0_copyFrom 135 = .ok (.aload_n 0, 1) := by decide +kernel
theorem dX0_copyFrom_136 : decode cX0_copyFrom 136 = .ok (.getfield 40, 3) := by decide +kernel
theorem dX0_copyFrom_139 : decode cX0_copyFrom 139 = .ok (.iconst 0, 1) := by decide +kernel
theorem dX0_copyFrom_140 : decode cX0_copyFrom 140 = .ok (.sipush 200, 3) := by decide +kernel
theorem dX0_copyFrom_143 : decode cX0_copyFrom 143 = .ok (.invokestatic 67, 3) := by decide +kernel
theorem dX0_copyFrom_146 : decode cX0_copyFrom 146 = .ok (.aload_n 1, 1) := by decide +kernel
theorem dX0_copyFrom_147 : decode cX0_copyFrom 147 = .ok (.getfield 43, 3) := by decide +kernel
theorem dX0_copyFrom_150 : decode cX0_copyFrom 150 = .ok (.iconst 0, 1) := by decide +kernel
theorem dX0_copyFrom_151 : decode cX0_copyFrom 151 = .ok (.aload_n 0, 1) := by decide +kernel
theorem dX0_copyFrom_152 : decode cX0_copyFrom 152 = .ok (.getfield 43, 3) := by decide +kernel
theorem dX0_copyFrom_155 : decode cX0_copyFrom 155 = .ok (.iconst 0, 1) := by decide +kernel
theorem dX0_copyFrom_156 : decode cX0_copyFrom 156 = .ok (.sipush 200, 3) := by decide +kernel
theorem dX0_copyFrom_159 : decode cX0_copyFrom 159 = .ok (.invokestatic 67, 3) := by decide +kernel
theorem dX0_copyFrom_162 : decode cX0_copyFrom 162 = .ok (.return_, 1) := by decide +kernel
theorem dX0_isLinked_0 : decode cX0_isLinked 0 = .ok (.aload_n 0, 1) := by decide +kernel
theorem dX0_isLinked_1 : decode cX0_isLinked 1 = .ok (.getfield 31, 3) := by decide +kernel
theorem dX0_isLinked_4 : decode cX0_isLinked 4 = .ok (.iload_n 1, 1) := by decide +kernel
theorem dX0_isLinked_5 : decode cX0_isLinked 5 = .ok (.iaload, 1) := by decide +kernel
theorem dX0_isLinked_6 : decode cX0_isLinked 6 = .ok (.ifCond .eq 7, 3) := by decide +kernel
theorem dX0_isLinked_9 : decode cX0_isLinked 9 = .ok (.iconst 1, 1) := by decide +kernel
theorem dX0_isLinked_10 : decode cX0_isLinked 10 = .ok (.goto 4, 3) := by decide +kernel
theorem dX0_isLinked_13 : decode cX0_isLinked 13 = .ok (.iconst 0, 1) := by decide +kernel
theorem dX0_isLinked_14 : decode cX0_isLinked 14 = .ok (.ireturn, 1) := by decide +kernel
set_option maxRecDepth 20000 in
theorem ggX0_scannedChannel_J6_bitCount_0f7a4 : GoodIn wsX0_scannedChannel wsJ6_bitCount_0f7a4 := goodIn_r _ [6, 7, 8, 9] (by decide +kernel) (by decide +kernel)
set_option maxRecDepth 20000 in
theorem gX0_scannedChannel_J6_bitCount_0f7a4 : GoodIn wsX0_scannedChannel (va_wsS RX0 73 yJ6_bitCount_0f7a4 wsJ6_bitCount_0f7a4) := goodIn_app (goodIn_of _ (by decide +kernel)) ggX0_scannedChannel_J6_bitCount_0f7a4
set_option maxRecDepth 20000 in
theorem ggX0_scannedChannel_X0_isLinked : GoodIn wsX0_scannedChannel wsX0_isLinked := goodIn_r _ [14, 15, 23, 24, 25, 26, 27, 28, 29, 30, 31, 32, 33, 34, 35, 36, 37, 38] (by decide +kernel) (by decide +kernel)
set_option maxRecDepth 20000 in
theorem gX0_scannedChannel_X0_isLinked : GoodIn wsX0_scannedChannel (wsV RX0 79 RX0 yX0_isLinked wsX0_isLinked) := goodIn_app (goodIn_of _ (by decide +kernel)) ggX0_scannedChannel_X0_isLinked
set_option maxRecDepth 20000 in
theorem ggX0_scannedChannel_J9_floorMod_7cf53 : GoodIn wsX0_scannedChannel wsJ9_floorMod_7cf53 := goodIn_r _ [19] (by decide +kernel) (by decide +kernel)
set_option maxRecDepth 20000 in
theorem gX0_scannedChannel_J9_floorMod_7cf53 : GoodIn wsX0_scannedChannel (va_wsS RX0 83 yJ9_floorMod_7cf53 wsJ9_floorMod_7cf53) := goodIn_app (goodIn_of _ (by decide +kernel)) ggX0_scannedChannel_J9_floorMod_7cf53
set_option maxRecDepth 20000 in
theorem ggX0_scannedChannel_X1_contains : GoodIn wsX0_scannedChannel wsX1_contains := goodIn_r _ [22] (by decide +kernel) (by decide +kernel)
set_option maxRecDepth 20000 in
theorem gX0_scannedChannel_X1_contains_n89 : GoodIn wsX0_scannedChannel (wsX1_contains) := ggX0_scannedChannel_X1_contains
theorem dX0_scannedChannel_0 : decode cX0_scannedChannel 0 = .ok (.aload_n 0, 1) := by decide +kernel
theorem dX0_scannedChannel_1 : decode cX0_scannedChannel 1 = .ok (.getfield 27, 3) := by decide +kernel
theorem dX0_scannedChannel_4 : decode cX0_scannedChannel 4 = .ok (.iload_n 1, 1) := by decide +kernel
theorem dX0_scannedChannel_5 : decode cX0_scannedChannel 5 = .ok (.iaload, 1) := by decide +kernel
theorem dX0_scannedChannel_6 : decode cX0_scannedChannel 6 = .ok (.invokestatic 73, 3) := by decide +kernel
theorem dX0_scannedChannel_9 : decode cX0_scannedChannel 9 = .ok (.istore_n 2, 1) := by decide +kernel
theorem dX0_scannedChannel_10 : decode cX0_scannedChannel 10 = .ok (.aload_n 0, 1) := by decide +kernel
theorem dX0_scannedChannel_11 : decode cX0_scannedChannel 11 = .ok (.iload_n 1, 1) := by decide +kernel
theorem dX0_scannedChannel_12 : decode cX0_scannedChannel 12 = .ok (.invokevirtual 79, 3) := by decide +kernel
theorem dX0_scannedChannel_15 : decode cX0_scannedChannel 15 = .ok (.ifCond .ne 7, 3) := by decide +kernel
theorem dX0_scannedChannel_18 : decode cX0_scannedChannel 18 = .ok (.iload_n 2, 1) := by decide +kernel
theorem dX0_scannedChannel_19 : decode cX0_scannedChannel 19 = .ok (.ifCond .ne 5, 3) := by decide +kernel
theorem dX0_scannedChannel_22 : decode cX0_scannedChannel 22 = .ok (.iconst (-1), 1) := by decide +kernel
theorem dX0_scannedChannel_23 : decode cX0_scannedChannel 23 = .ok (.ireturn, 1) := by decide +kernel
theorem dX0_scannedChannel_24 : decode cX0_scannedChannel 24 = .ok (.aload_n 0, 1) := by decide +kernel
theorem dX0_scannedChannel_25 : decode cX0_scannedChannel 25 = .ok (.getfield 55, 3) := by decide +kernel
theorem dX0_scannedChannel_28 : decode cX0_scannedChannel 28 = .ok (.iload_n 2, 1) := by decide +kernel
theorem dX0_scannedChannel_29 : decode cX0_scannedChannel 29 = .ok (.invokestatic 83, 3) := by decide +kernel
theorem dX0_scannedChannel_32 : decode cX0_scannedChannel 32 = .ok (.istore_n 3, 1) := by decide +kernel
theorem dX0_scannedChannel_33 : decode cX0_scannedChannel 33 = .ok (.iconst 0, 1) := by decide +kernel
theorem dX0_scannedChannel_34 : decode cX0_scannedChannel 34 = .ok (.istore 4, 2) := by decide +kernel
theorem dX0_scannedChannel_36 : decode cX0_scannedChannel 36 = .ok (.iload 4, 2) := by decide +kernel
theorem dX0_scannedChannel_38 : decode cX0_scannedChannel 38 = .ok (.bipush 8, 2) := by decide +kernel
theorem dX0_scannedChannel_40 : decode cX0_scannedChannel 40 = .ok (.if_icmp .ge 33, 3) := by decide +kernel
theorem dX0_scannedChannel_43 : decode cX0_scannedChannel 43 = .ok (.aload_n 0, 1) := by decide +kernel
theorem dX0_scannedChannel_44 : decode cX0_scannedChannel 44 = .ok (.getfield 27, 3) := by decide +kernel
theorem dX0_scannedChannel_47 : decode cX0_scannedChannel 47 = .ok (.iload_n 1, 1) := by decide +kernel
theorem dX0_scannedChannel_48 : decode cX0_scannedChannel 48 = .ok (.iaload, 1) := by decide +kernel
theorem dX0_scannedChannel_49 : decode cX0_scannedChannel 49 = .ok (.iload 4, 2) := by decide +kernel
theorem dX0_scannedChannel_51 : decode cX0_scannedChannel 51 = .ok (.invokestatic 89, 3) := by decide +kernel
theorem dX0_scannedChannel_54 : decode cX0_scannedChannel 54 = .ok (.ifCond .eq 13, 3) := by decide +kernel
theorem dX0_scannedChannel_57 : decode cX0_scannedChannel 57 = .ok (.iload_n 3, 1) := by decide +kernel
theorem dX0_scannedChannel_58 : decode cX0_scannedChannel 58 = .ok (.ifCond .ne 6, 3) := by decide +kernel
theorem dX0_scannedChannel_61 : decode cX0_scannedChannel 61 = .ok (.iload 4, 2) := by decide +kernel
theorem dX0_scannedChannel_63 : decode cX0_scannedChannel 63 = .ok (.ireturn, 1) := by decide +kernel
theorem dX0_scannedChannel_64 : decode cX0_scannedChannel 64 = .ok (.iinc 3 (-1), 3) := by decide +kernel
theorem dX0_scannedChannel_67 : decode cX0_scannedChannel 67 = .ok (.iinc 4 1, 3) := by decide +kernel
theorem dX0_scannedChannel_70 : decode cX0_scannedChannel 70 = .ok (.goto (-34), 3) := by decide +kernel
theorem dX0_scannedChannel_73 : decode cX0_scannedChannel 73 = .ok (.iconst (-1), 1) := by decide +kernel
theorem dX0_scannedChannel_74 : decode cX0_scannedChannel 74 = .ok (.ireturn, 1) := by decide +kernel
set_option maxRecDepth 20000 in
theorem ggX0_hears_X0_isLinked : GoodIn wsX0_hears wsX0_isLinked := goodIn_r _ [6, 7, 11, 12, 13, 14, 15, 16, 17, 18, 19, 20, 21, 22, 23, 24, 25, 26] (by decide +kernel) (by decide +kernel)
set_option maxRecDepth 20000 in
theorem gX0_hears_X0_isLinked : GoodIn wsX0_hears (wsV RX0 79 RX0 yX0_isLinked wsX0_isLinked) := goodIn_app (goodIn_of _ (by decide +kernel)) ggX0_hears_X0_isLinked
set_option maxRecDepth 20000 in
theorem ggX0_hears_X1_contains : GoodIn wsX0_hears wsX1_contains := goodIn_r _ [10] (by decide +kernel) (by decide +kernel)
set_option maxRecDepth 20000 in
theorem gX0_hears_X1_contains_n89 : GoodIn wsX0_hears (wsX1_contains) := ggX0_hears_X1_contains
theorem dX0_hears_0 : decode cX0_hears 0 = .ok (.aload_n 0, 1) := by decide +kernel
theorem dX0_hears_1 : decode cX0_hears 1 = .ok (.iload_n 1, 1) := by decide +kernel
theorem dX0_hears_2 : decode cX0_hears 2 = .ok (.invokevirtual 79, 3) := by decide +kernel
theorem dX0_hears_5 : decode cX0_hears 5 = .ok (.ifCond .ne 20, 3) := by decide +kernel
theorem dX0_hears_8 : decode cX0_hears 8 = .ok (.aload_n 0, 1) := by decide +kernel
theorem dX0_hears_9 : decode cX0_hears 9 = .ok (.getfield 27, 3) := by decide +kernel
theorem dX0_hears_12 : decode cX0_hears 12 = .ok (.iload_n 1, 1) := by decide +kernel
theorem dX0_hears_13 : decode cX0_hears 13 = .ok (.iaload, 1) := by decide +kernel
theorem dX0_hears_14 : decode cX0_hears 14 = .ok (.iload_n 2, 1) := by decide +kernel
theorem dX0_hears_15 : decode cX0_hears 15 = .ok (.invokestatic 89, 3) := by decide +kernel
theorem dX0_hears_18 : decode cX0_hears 18 = .ok (.ifCond .eq 7, 3) := by decide +kernel
theorem dX0_hears_21 : decode cX0_hears 21 = .ok (.iconst 1, 1) := by decide +kernel
theorem dX0_hears_22 : decode cX0_hears 22 = .ok (.goto 4, 3) := by decide +kernel
theorem dX0_hears_25 : decode cX0_hears 25 = .ok (.iconst 0, 1) := by decide +kernel
theorem dX0_hears_26 : decode cX0_hears 26 = .ok (.ireturn, 1) := by decide +kernel
set_option maxRecDepth 20000 in
theorem ggX0_longestScan_X1_contains : GoodIn wsX0_longestScan wsX1_contains := goodIn_r _ [8] (by decide +kernel) (by decide +kernel)
set_option maxRecDepth 20000 in
theorem gX0_longestScan_X1_contains_n89 : GoodIn wsX0_longestScan (wsX1_contains) := ggX0_longestScan_X1_contains
set_option maxRecDepth 20000 in
theorem ggX0_longestScan_J6_bitCount_0f7a4 : GoodIn wsX0_longestScan wsJ6_bitCount_0f7a4 := goodIn_r _ [12, 13, 14, 15] (by decide +kernel) (by decide +kernel)
set_option maxRecDepth 20000 in
theorem gX0_longestScan_J6_bitCount_0f7a4 : GoodIn wsX0_longestScan (va_wsS RX0 73 yJ6_bitCount_0f7a4 wsJ6_bitCount_0f7a4) := goodIn_app (goodIn_of _ (by decide +kernel)) ggX0_longestScan_J6_bitCount_0f7a4
theorem dX0_longestScan_0 : decode cX0_longestScan 0 = .ok (.iconst 0, 1) := by decide +kernel
theorem dX0_longestScan_1 : decode cX0_longestScan 1 = .ok (.istore_n 2, 1) := by decide +kernel
theorem dX0_longestScan_2 : decode cX0_longestScan 2 = .ok (.iconst 0, 1) := by decide +kernel
theorem dX0_longestScan_3 : decode cX0_longestScan 3 = .ok (.istore_n 3, 1) := by decide +kernel
theorem dX0_longestScan_4 : decode cX0_longestScan 4 = .ok (.iload_n 3, 1) := by decide +kernel
theorem dX0_longestScan_5 : decode cX0_longestScan 5 = .ok (.iconst 5, 1) := by decide +kernel
theorem dX0_longestScan_6 : decode cX0_longestScan 6 = .ok (.if_icmp .ge 31, 3) := by decide +kernel
theorem dX0_longestScan_9 : decode cX0_longestScan 9 = .ok (.iload_n 1, 1) := by decide +kernel
theorem dX0_longestScan_10 : decode cX0_longestScan 10 = .ok (.iload_n 3, 1) := by decide +kernel
theorem dX0_longestScan_11 : decode cX0_longestScan 11 = .ok (.invokestatic 89, 3) := by decide +kernel
theorem dX0_longestScan_14 : decode cX0_longestScan 14 = .ok (.ifCond .eq 17, 3) := by decide +kernel
theorem dX0_longestScan_17 : decode cX0_longestScan 17 = .ok (.iload_n 2, 1) := by decide +kernel
theorem dX0_longestScan_18 : decode cX0_longestScan 18 = .ok (.aload_n 0, 1) := by decide +kernel
theorem dX0_longestScan_19 : decode cX0_longestScan 19 = .ok (.getfield 27, 3) := by decide +kernel
theorem dX0_longestScan_22 : decode cX0_longestScan 22 = .ok (.iload_n 3, 1) := by decide +kernel
theorem dX0_longestScan_23 : decode cX0_longestScan 23 = .ok (.iaload, 1) := by decide +kernel
theorem dX0_longestScan_24 : decode cX0_longestScan 24 = .ok (.invokestatic 73, 3) := by decide +kernel
theorem dX0_longestScan_27 : decode cX0_longestScan 27 = .ok (.invokestatic 93, 3) := by decide +kernel
theorem dX0_longestScan_30 : decode cX0_longestScan 30 = .ok (.istore_n 2, 1) := by decide +kernel
theorem dX0_longestScan_31 : decode cX0_longestScan 31 = .ok (.iinc 3 1, 3) := by decide +kernel
theorem dX0_longestScan_34 : decode cX0_longestScan 34 = .ok (.goto (-30), 3) := by decide +kernel
theorem dX0_longestScan_37 : decode cX0_longestScan 37 = .ok (.iload_n 2, 1) := by decide +kernel
theorem dX0_longestScan_38 : decode cX0_longestScan 38 = .ok (.ireturn, 1) := by decide +kernel
theorem dX0_drawNoise_0 : decode cX0_drawNoise 0 = .ok (.aload_n 0, 1) := by decide +kernel
theorem dX0_drawNoise_1 : decode cX0_drawNoise 1 = .ok (.aload_n 0, 1) := by decide +kernel
theorem dX0_drawNoise_2 : decode cX0_drawNoise 2 = .ok (.getfield 15, 3) := by decide +kernel
theorem dX0_drawNoise_5 : decode cX0_drawNoise 5 = .ok (.ldc 96, 2) := by decide +kernel
theorem dX0_drawNoise_7 : decode cX0_drawNoise 7 = .ok (.imul, 1) := by decide +kernel
theorem dX0_drawNoise_8 : decode cX0_drawNoise 8 = .ok (.sipush 12345, 3) := by decide +kernel
theorem dX0_drawNoise_11 : decode cX0_drawNoise 11 = .ok (.iadd, 1) := by decide +kernel
theorem dX0_drawNoise_12 : decode cX0_drawNoise 12 = .ok (.ldc 97, 2) := by decide +kernel
theorem dX0_drawNoise_14 : decode cX0_drawNoise 14 = .ok (.iand, 1) := by decide +kernel
theorem dX0_drawNoise_15 : decode cX0_drawNoise 15 = .ok (.putfield 15, 3) := by decide +kernel
theorem dX0_drawNoise_18 : decode cX0_drawNoise 18 = .ok (.aload_n 0, 1) := by decide +kernel
theorem dX0_drawNoise_19 : decode cX0_drawNoise 19 = .ok (.getfield 15, 3) := by decide +kernel
theorem dX0_drawNoise_22 : decode cX0_drawNoise 22 = .ok (.ldc 98, 2) := by decide +kernel
theorem dX0_drawNoise_24 : decode cX0_drawNoise 24 = .ok (.idiv, 1) := by decide +kernel
theorem dX0_drawNoise_25 : decode cX0_drawNoise 25 = .ok (.bipush 31, 2) := by decide +kernel
theorem dX0_drawNoise_27 : decode cX0_drawNoise 27 = .ok (.irem, 1) := by decide +kernel
theorem dX0_drawNoise_28 : decode cX0_drawNoise 28 = .ok (.ireturn, 1) := by decide +kernel
set_option maxRecDepth 20000 in
theorem ggX0_receiveCopy_X0_drawNoise : GoodIn wsX0_receiveCopy wsX0_drawNoise := goodIn_r _ [5, 6, 7, 8, 9, 10, 11, 12, 13, 14, 15, 16, 17, 18, 19, 20, 21, 22, 23, 24, 25] (by decide +kernel) (by decide +kernel)
set_option maxRecDepth 20000 in
theorem gX0_receiveCopy_X0_drawNoise : GoodIn wsX0_receiveCopy (wsV RX0 99 RX0 yX0_drawNoise wsX0_drawNoise) := goodIn_app (goodIn_of _ (by decide +kernel)) ggX0_receiveCopy_X0_drawNoise
theorem dX0_receiveCopy_0 : decode cX0_receiveCopy 0 = .ok (.iload_n 1, 1) := by decide +kernel
theorem dX0_receiveCopy_1 : decode cX0_receiveCopy 1 = .ok (.istore_n 3, 1) := by decide +kernel
theorem dX0_receiveCopy_2 : decode cX0_receiveCopy 2 = .ok (.iconst 0, 1) := by decide +kernel
theorem dX0_receiveCopy_3 : decode cX0_receiveCopy 3 = .ok (.istore 4, 2) := by decide +kernel
theorem dX0_receiveCopy_5 : decode cX0_receiveCopy 5 = .ok (.iload 4, 2) := by decide +kernel
theorem dX0_receiveCopy_7 : decode cX0_receiveCopy 7 = .ok (.bipush 24, 2) := by decide +kernel
theorem dX0_receiveCopy_9 : decode cX0_receiveCopy 9 = .ok (.if_icmp .ge 29, 3) := by decide +kernel
theorem dX0_receiveCopy_12 : decode cX0_receiveCopy 12 = .ok (.iconst 2, 1) := by decide +kernel
theorem dX0_receiveCopy_13 : decode cX0_receiveCopy 13 = .ok (.aload_n 0, 1) := by decide +kernel
theorem dX0_receiveCopy_14 : decode cX0_receiveCopy 14 = .ok (.invokevirtual 99, 3) := by decide +kernel
theorem dX0_receiveCopy_17 : decode cX0_receiveCopy 17 = .ok (.imul, 1) := by decide +kernel
theorem dX0_receiveCopy_18 : decode cX0_receiveCopy 18 = .ok (.bipush 30, 2) := by decide +kernel
theorem dX0_receiveCopy_20 : decode cX0_receiveCopy 20 = .ok (.iload_n 2, 1) := by decide +kernel
theorem dX0_receiveCopy_21 : decode cX0_receiveCopy 21 = .ok (.iadd, 1) := by decide +kernel
theorem dX0_receiveCopy_22 : decode cX0_receiveCopy 22 = .ok (.if_icmp .le 10, 3) := by decide +kernel
theorem dX0_receiveCopy_25 : decode cX0_receiveCopy 25 = .ok (.iload_n 3, 1) := by decide +kernel
theorem dX0_receiveCopy_26 : decode cX0_receiveCopy 26 = .ok (.iconst 1, 1) := by decide +kernel
theorem dX0_receiveCopy_27 : decode cX0_receiveCopy 27 = .ok (.iload 4, 2) := by decide +kernel
theorem dX0_receiveCopy_29 : decode cX0_receiveCopy 29 = .ok (.ishl, 1) := by decide +kernel
theorem dX0_receiveCopy_30 : decode cX0_receiveCopy 30 = .ok (.ixor, 1) := by decide +kernel
theorem dX0_receiveCopy_31 : decode cX0_receiveCopy 31 = .ok (.istore_n 3, 1) := by decide +kernel
theorem dX0_receiveCopy_32 : decode cX0_receiveCopy 32 = .ok (.iinc 4 1, 3) := by decide +kernel
theorem dX0_receiveCopy_35 : decode cX0_receiveCopy 35 = .ok (.goto (-30), 3) := by decide +kernel
theorem dX0_receiveCopy_38 : decode cX0_receiveCopy 38 = .ok (.iload_n 3, 1) := by decide +kernel
theorem dX0_receiveCopy_39 : decode cX0_receiveCopy 39 = .ok (.ireturn, 1) := by decide +kernel
set_option maxRecDepth 20000 in
theorem ggX0_transmit_X1_cell : GoodIn wsX0_transmit wsX1_cell := goodIn_r _ [12] (by decide +kernel) (by decide +kernel)
set_option maxRecDepth 20000 in
theorem gX0_transmit_X1_cell_n103 : GoodIn wsX0_transmit (wsX1_cell) := ggX0_transmit_X1_cell
set_option maxRecDepth 20000 in
theorem ggX0_transmit_X0_receiveCopy : GoodIn wsX0_transmit wsX0_receiveCopy := goodIn_r _ [17, 18, 19, 20, 16, 21, 22, 23, 24, 1, 34, 35, 36, 37, 38, 39, 40, 41, 42, 43, 44, 45, 46, 47, 48, 49] (by decide +kernel) (by decide +kernel)
set_option maxRecDepth 20000 in
theorem gX0_transmit_X0_receiveCopy : GoodIn wsX0_transmit (wsV RX0 107 RX0 yX0_receiveCopy wsX0_receiveCopy) := goodIn_app (goodIn_of _ (by decide +kernel)) ggX0_transmit_X0_receiveCopy
set_option maxRecDepth 20000 in
theorem ggX0_transmit_X1_majority : GoodIn wsX0_transmit wsX1_majority := goodIn_r _ [26] (by decide +kernel) (by decide +kernel)
set_option maxRecDepth 20000 in
theorem gX0_transmit_X1_majority_n110 : GoodIn wsX0_transmit (wsX1_majority) := ggX0_transmit_X1_majority
set_option maxRecDepth 20000 in
theorem ggX0_transmit_J6_bitCount_0f7a4 : GoodIn wsX0_transmit wsJ6_bitCount_0f7a4 := goodIn_r _ [30, 31, 32, 33] (by decide +kernel) (by decide +kernel)
set_option maxRecDepth 20000 in
theorem gX0_transmit_J6_bitCount_0f7a4 : GoodIn wsX0_transmit (va_wsS RX0 73 yJ6_bitCount_0f7a4 wsJ6_bitCount_0f7a4) := goodIn_app (goodIn_of _ (by decide +kernel)) ggX0_transmit_J6_bitCount_0f7a4
theorem dX0_transmit_0 : decode cX0_transmit 0 = .ok (.ldc 98, 2) := by decide +kernel
theorem dX0_transmit_2 : decode cX0_transmit 2 = .ok (.iload_n 1, 1) := by decide +kernel
theorem dX0_transmit_3 : decode cX0_transmit 3 = .ok (.imul, 1) := by decide +kernel
theorem dX0_transmit_4 : decode cX0_transmit 4 = .ok (.sipush 256, 3) := by decide +kernel
theorem dX0_transmit_7 : decode cX0_transmit 7 = .ok (.iload 4, 2) := by decide +kernel
theorem dX0_transmit_9 : decode cX0_transmit 9 = .ok (.imul, 1) := by decide +kernel
theorem dX0_transmit_10 : decode cX0_transmit 10 = .ok (.iadd, 1) := by decide +kernel
theorem dX0_transmit_11 : decode cX0_transmit 11 = .ok (.iload_n 2, 1) := by decide +kernel
theorem dX0_transmit_12 : decode cX0_transmit 12 = .ok (.iadd, 1) := by decide +kernel
theorem dX0_transmit_13 : decode cX0_transmit 13 = .ok (.istore 6, 2) := by decide +kernel
theorem dX0_transmit_15 : decode cX0_transmit 15 = .ok (.aload_n 0, 1) := by decide +kernel
theorem dX0_transmit_16 : decode cX0_transmit 16 = .ok (.getfield 37, 3) := by decide +kernel
theorem dX0_transmit_19 : decode cX0_transmit 19 = .ok (.iload_n 2, 1) := by decide +kernel
theorem dX0_transmit_20 : decode cX0_transmit 20 = .ok (.iload_n 3, 1) := by decide +kernel
theorem dX0_transmit_21 : decode cX0_transmit 21 = .ok (.iload 5, 2) := by decide +kernel
theorem dX0_transmit_23 : decode cX0_transmit 23 = .ok (.invokestatic 103, 3) := by decide +kernel
theorem dX0_transmit_26 : decode cX0_transmit 26 = .ok (.iaload, 1) := by decide +kernel
theorem dX0_transmit_27 : decode cX0_transmit 27 = .ok (.istore 7, 2) := by decide +kernel
theorem dX0_transmit_29 : decode cX0_transmit 29 = .ok (.aload_n 0, 1) := by decide +kernel
theorem dX0_transmit_30 : decode cX0_transmit 30 = .ok (.iload 6, 2) := by decide +kernel
theorem dX0_transmit_32 : decode cX0_transmit 32 = .ok (.iload 7, 2) := by decide +kernel
theorem dX0_transmit_34 : decode cX0_transmit 34 = .ok (.invokevirtual 107, 3) := by decide +kernel
theorem dX0_transmit_37 : decode cX0_transmit 37 = .ok (.istore 8, 2) := by decide +kernel
theorem dX0_transmit_39 : decode cX0_transmit 39 = .ok (.aload_n 0, 1) := by decide +kernel
theorem dX0_transmit_40 : decode cX0_transmit 40 = .ok (.iload 6, 2) := by decide +kernel
theorem dX0_transmit_42 : decode cX0_transmit 42 = .ok (.iload 7, 2) := by decide +kernel
theorem dX0_transmit_44 : decode cX0_transmit 44 = .ok (.invokevirtual 107, 3) := by decide +kernel
theorem dX0_transmit_47 : decode cX0_transmit 47 = .ok (.istore 9, 2) := by decide +kernel
theorem dX0_transmit_49 : decode cX0_transmit 49 = .ok (.aload_n 0, 1) := by decide +kernel
theorem dX0_transmit_50 : decode cX0_transmit 50 = .ok (.iload 6, 2) := by decide +kernel
theorem dX0_transmit_52 : decode cX0_transmit 52 = .ok (.iload 7, 2) := by decide +kernel
theorem dX0_transmit_54 : decode cX0_transmit 54 = .ok (.invokevirtual 107, 3) := by decide +kernel
theorem dX0_transmit_57 : decode cX0_transmit 57 = .ok (.istore 10, 2) := by decide +kernel
theorem dX0_transmit_59 : decode cX0_transmit 59 = .ok (.aload_n 0, 1) := by decide +kernel
theorem dX0_transmit_60 : decode cX0_transmit 60 = .ok (.iload 8, 2) := by decide +kernel
theorem dX0_transmit_62 : decode cX0_transmit 62 = .ok (.iload 9, 2) := by decide +kernel
theorem dX0_transmit_64 : decode cX0_transmit 64 = .ok (.iload 10, 2) := by decide +kernel
theorem dX0_transmit_66 : decode cX0_transmit 66 = .ok (.invokestatic 110, 3) := by decide +kernel
theorem dX0_transmit_69 : decode cX0_transmit 69 = .ok (.putfield 24, 3) := by decide +kernel
theorem dX0_transmit_72 : decode cX0_transmit 72 = .ok (.aload_n 0, 1) := by decide +kernel
theorem dX0_transmit_73 : decode cX0_transmit 73 = .ok (.bipush 24, 2) := by decide +kernel
theorem dX0_transmit_75 : decode cX0_transmit 75 = .ok (.iload 8, 2) := by decide +kernel
theorem dX0_transmit_77 : decode cX0_transmit 77 = .ok (.iload 9, 2) := by decide +kernel
theorem dX0_transmit_79 : decode cX0_transmit 79 = .ok (.ixor, 1) := by decide +kernel
theorem dX0_transmit_80 : decode cX0_transmit 80 = .ok (.iload 8, 2) := by decide +kernel
theorem dX0_transmit_82 : decode cX0_transmit 82 = .ok (.iload 10, 2) := by decide +kernel
theorem dX0_transmit_84 : decode cX0_transmit 84 = .ok (.ixor, 1) := by decide +kernel
theorem dX0_transmit_85 : decode cX0_transmit 85 = .ok (.ior, 1) := by decide +kernel
theorem dX0_transmit_86 : decode cX0_transmit 86 = .ok (.invokestatic 73, 3) := by decide +kernel
theorem dX0_transmit_89 : decode cX0_transmit 89 = .ok (.isub, 1) := by decide +kernel
theorem dX0_transmit_90 : decode cX0_transmit 90 = .ok (.putfield 21, 3) := by decide +kernel
theorem dX0_transmit_93 : decode cX0_transmit 93 = .ok (.aload_n 0, 1) := by decide +kernel
theorem dX0_transmit_94 : decode cX0_transmit 94 = .ok (.dup, 1) := by decide +kernel
theorem dX0_transmit_95 : decode cX0_transmit 95 = .ok (.getfield 58, 3) := by decide +kernel
theorem dX0_transmit_98 : decode cX0_transmit 98 = .ok (.iconst 1, 1) := by decide +kernel
theorem dX0_transmit_99 : decode cX0_transmit 99 = .ok (.iadd, 1) := by decide +kernel
theorem dX0_transmit_100 : decode cX0_transmit 100 = .ok (.putfield 58, 3) := by decide +kernel
theorem dX0_transmit_103 : decode cX0_transmit 103 = .ok (.aload_n 0, 1) := by decide +kernel
theorem dX0_transmit_104 : decode cX0_transmit 104 = .ok (.getfield 24, 3) := by decide +kernel
theorem dX0_transmit_107 : decode cX0_transmit 107 = .ok (.iload 6, 2) := by decide +kernel
theorem dX0_transmit_109 : decode cX0_transmit 109 = .ok (.if_icmp .eq 5, 3) := by decide +kernel
theorem dX0_transmit_112 : decode cX0_transmit 112 = .ok (.iconst 0, 1) := by decide +kernel
theorem dX0_transmit_113 : decode cX0_transmit 113 = .ok (.ireturn, 1) := by decide +kernel
theorem dX0_transmit_114 : decode cX0_transmit 114 = .ok (.aload_n 0, 1) := by decide +kernel
theorem dX0_transmit_115 : decode cX0_transmit 115 = .ok (.dup, 1) := by decide +kernel
theorem dX0_transmit_116 : decode cX0_transmit 116 = .ok (.getfield 61, 3) := by decide +kernel
theorem dX0_transmit_119 : decode cX0_transmit 119 = .ok (.iconst 1, 1) := by decide +kernel
theorem dX0_transmit_120 : decode cX0_transmit 120 = .ok (.iadd, 1) := by decide +kernel
theorem dX0_transmit_121 : decode cX0_transmit 121 = .ok (.putfield 61, 3) := by decide +kernel
theorem dX0_transmit_124 : decode cX0_transmit 124 = .ok (.aload_n 0, 1) := by decide +kernel
theorem dX0_transmit_125 : decode cX0_transmit 125 = .ok (.getfield 40, 3) := by decide +kernel
theorem dX0_transmit_128 : decode cX0_transmit 128 = .ok (.iload_n 3, 1) := by decide +kernel
theorem dX0_transmit_129 : decode cX0_transmit 129 = .ok (.iload_n 2, 1) := by decide +kernel
theorem dX0_transmit_130 : decode cX0_transmit 130 = .ok (.iload 5, 2) := by decide +kernel
theorem dX0_transmit_132 : decode cX0_transmit 132 = .ok (.invokestatic 103, 3) := by decide +kernel
theorem dX0_transmit_135 : decode cX0_transmit 135 = .ok (.aload_n 0, 1) := by decide +kernel
theorem dX0_transmit_136 : decode cX0_transmit 136 = .ok (.getfield 21, 3) := by decide +kernel
theorem dX0_transmit_139 : decode cX0_transmit 139 = .ok (.bipush 30, 2) := by decide +kernel
theorem dX0_transmit_141 : decode cX0_transmit 141 = .ok (.imul, 1) := by decide +kernel
theorem dX0_transmit_142 : decode cX0_transmit 142 = .ok (.bipush 24, 2) := by decide +kernel
theorem dX0_transmit_144 : decode cX0_transmit 144 = .ok (.idiv, 1) := by decide +kernel
theorem dX0_transmit_145 : decode cX0_transmit 145 = .ok (.iastore, 1) := by decide +kernel
theorem dX0_transmit_146 : decode cX0_transmit 146 = .ok (.aload_n 0, 1) := by decide +kernel
theorem dX0_transmit_147 : decode cX0_transmit 147 = .ok (.getfield 43, 3) := by decide +kernel
theorem dX0_transmit_150 : decode cX0_transmit 150 = .ok (.iload_n 3, 1) := by decide +kernel
theorem dX0_transmit_151 : decode cX0_transmit 151 = .ok (.iload_n 2, 1) := by decide +kernel
theorem dX0_transmit_152 : decode cX0_transmit 152 = .ok (.iload 5, 2) := by decide +kernel
theorem dX0_transmit_154 : decode cX0_transmit 154 = .ok (.invokestatic 103, 3) := by decide +kernel
theorem dX0_transmit_157 : decode cX0_transmit 157 = .ok (.aload_n 0, 1) := by decide +kernel
theorem dX0_transmit_158 : decode cX0_transmit 158 = .ok (.getfield 55, 3) := by decide +kernel
theorem dX0_transmit_161 : decode cX0_transmit 161 = .ok (.iastore, 1) := by decide +kernel
theorem dX0_transmit_162 : decode cX0_transmit 162 = .ok (.iconst 1, 1) := by decide +kernel
theorem dX0_transmit_163 : decode cX0_transmit 163 = .ok (.ireturn, 1) := by decide +kernel
set_option maxRecDepth 20000 in
theorem ggX0_agedScore_X1_cell : GoodIn wsX0_agedScore wsX1_cell := goodIn_r _ [11] (by decide +kernel) (by decide +kernel)
set_option maxRecDepth 20000 in
theorem gX0_agedScore_X1_cell_n103 : GoodIn wsX0_agedScore (wsX1_cell) := ggX0_agedScore_X1_cell
theorem dX0_agedScore_0 : decode cX0_agedScore 0 = .ok (.aload_n 0, 1) := by decide +kernel
theorem dX0_agedScore_1 : decode cX0_agedScore 1 = .ok (.getfield 40, 3) := by decide +kernel
theorem dX0_agedScore_4 : decode cX0_agedScore 4 = .ok (.iload_n 1, 1) := by decide +kernel
theorem dX0_agedScore_5 : decode cX0_agedScore 5 = .ok (.iload_n 2, 1) := by decide +kernel
theorem dX0_agedScore_6 : decode cX0_agedScore 6 = .ok (.iload_n 3, 1) := by decide +kernel
theorem dX0_agedScore_7 : decode cX0_agedScore 7 = .ok (.invokestatic 103, 3) := by decide +kernel
theorem dX0_agedScore_10 : decode cX0_agedScore 10 = .ok (.iaload, 1) := by decide +kernel
theorem dX0_agedScore_11 : decode cX0_agedScore 11 = .ok (.istore 4, 2) := by decide +kernel
theorem dX0_agedScore_13 : decode cX0_agedScore 13 = .ok (.iload 4, 2) := by decide +kernel
theorem dX0_agedScore_15 : decode cX0_agedScore 15 = .ok (.iconst (-1), 1) := by decide +kernel
theorem dX0_agedScore_16 : decode cX0_agedScore 16 = .ok (.if_icmp .eq 11, 3) := by decide +kernel
theorem dX0_agedScore_19 : decode cX0_agedScore 19 = .ok (.aload_n 0, 1) := by decide +kernel
theorem dX0_agedScore_20 : decode cX0_agedScore 20 = .ok (.getfield 9, 3) := by decide +kernel
theorem dX0_agedScore_23 : decode cX0_agedScore 23 = .ok (.iconst 1, 1) := by decide +kernel
theorem dX0_agedScore_24 : decode cX0_agedScore 24 = .ok (.if_icmp .ge 5, 3) := by decide +kernel
theorem dX0_agedScore_27 : decode cX0_agedScore 27 = .ok (.iconst (-1), 1) := by decide +kernel
theorem dX0_agedScore_28 : decode cX0_agedScore 28 = .ok (.ireturn, 1) := by decide +kernel
theorem dX0_agedScore_29 : decode cX0_agedScore 29 = .ok (.aload_n 0, 1) := by decide +kernel
theorem dX0_agedScore_30 : decode cX0_agedScore 30 = .ok (.getfield 55, 3) := by decide +kernel
theorem dX0_agedScore_33 : decode cX0_agedScore 33 = .ok (.aload_n 0, 1) := by decide +kernel
theorem dX0_agedScore_34 : decode cX0_agedScore 34 = .ok (.getfield 43, 3) := by decide +kernel
theorem dX0_agedScore_37 : decode cX0_agedScore 37 = .ok (.iload_n 1, 1) := by decide +kernel
theorem dX0_agedScore_38 : decode cX0_agedScore 38 = .ok (.iload_n 2, 1) := by decide +kernel
theorem dX0_agedScore_39 : decode cX0_agedScore 39 = .ok (.iload_n 3, 1) := by decide +kernel
theorem dX0_agedScore_40 : decode cX0_agedScore 40 = .ok (.invokestatic 103, 3) := by decide +kernel
theorem dX0_agedScore_43 : decode cX0_agedScore 43 = .ok (.iaload, 1) := by decide +kernel
theorem dX0_agedScore_44 : decode cX0_agedScore 44 = .ok (.isub, 1) := by decide +kernel
theorem dX0_agedScore_45 : decode cX0_agedScore 45 = .ok (.istore 5, 2) := by decide +kernel
theorem dX0_agedScore_47 : decode cX0_agedScore 47 = .ok (.iconst 0, 1) := by decide +kernel
theorem dX0_agedScore_48 : decode cX0_agedScore 48 = .ok (.iload 4, 2) := by decide +kernel
theorem dX0_agedScore_50 : decode cX0_agedScore 50 = .ok (.iload 5, 2) := by decide +kernel
theorem dX0_agedScore_52 : decode cX0_agedScore 52 = .ok (.aload_n 0, 1) := by decide +kernel
theorem dX0_agedScore_53 : decode cX0_agedScore 53 = .ok (.getfield 9, 3) := by decide +kernel
theorem dX0_agedScore_56 : decode cX0_agedScore 56 = .ok (.idiv, 1) := by decide +kernel
theorem dX0_agedScore_57 : decode cX0_agedScore 57 = .ok (.isub, 1) := by decide +kernel
theorem dX0_agedScore_58 : decode cX0_agedScore 58 = .ok (.invokestatic 93, 3) := by decide +kernel
theorem dX0_agedScore_61 : decode cX0_agedScore 61 = .ok (.ireturn, 1) := by decide +kernel
set_option maxRecDepth 20000 in
theorem ggX0_netScore_X1_contains : GoodIn wsX0_netScore wsX1_contains := goodIn_r _ [7] (by decide +kernel) (by decide +kernel)
set_option maxRecDepth 20000 in
theorem gX0_netScore_X1_contains_n89 : GoodIn wsX0_netScore (wsX1_contains) := ggX0_netScore_X1_contains
set_option maxRecDepth 20000 in
theorem ggX0_netScore_X0_agedScore : GoodIn wsX0_netScore wsX0_agedScore := goodIn_r _ [12, 13, 14, 15, 16, 17, 18, 3, 19, 20, 6, 21, 22, 23, 24, 25, 26, 27, 28, 29, 30, 31, 32, 33, 34, 35, 36, 37] (by decide +kernel) (by decide +kernel)
set_option maxRecDepth 20000 in
theorem gX0_netScore_X0_agedScore : GoodIn wsX0_netScore (wsV RX0 113 RX0 yX0_agedScore wsX0_agedScore) := goodIn_app (goodIn_of _ (by decide +kernel)) ggX0_netScore_X0_agedScore
theorem dX0_netScore_0 : decode cX0_netScore 0 = .ok (.bipush 30, 2) := by decide +kernel
theorem dX0_netScore_2 : decode cX0_netScore 2 = .ok (.istore 4, 2) := by decide +kernel
theorem dX0_netScore_4 : decode cX0_netScore 4 = .ok (.iconst 0, 1) := by decide +kernel
theorem dX0_netScore_5 : decode cX0_netScore 5 = .ok (.istore 5, 2) := by decide +kernel
theorem dX0_netScore_7 : decode cX0_netScore 7 = .ok (.iload 5, 2) := by decide +kernel
theorem dX0_netScore_9 : decode cX0_netScore 9 = .ok (.iconst 5, 1) := by decide +kernel
theorem dX0_netScore_10 : decode cX0_netScore 10 = .ok (.if_icmp .ge 33, 3) := by decide +kernel
theorem dX0_netScore_13 : decode cX0_netScore 13 = .ok (.iload_n 2, 1) := by decide +kernel
theorem dX0_netScore_14 : decode cX0_netScore 14 = .ok (.iload 5, 2) := by decide +kernel
theorem dX0_netScore_16 : decode cX0_netScore 16 = .ok (.invokestatic 89, 3) := by decide +kernel
theorem dX0_netScore_19 : decode cX0_netScore 19 = .ok (.ifCond .eq 18, 3) := by decide +kernel
theorem dX0_netScore_22 : decode cX0_netScore 22 = .ok (.iload 4, 2) := by decide +kernel
theorem dX0_netScore_24 : decode cX0_netScore 24 = .ok (.aload_n 0, 1) := by decide +kernel
theorem dX0_netScore_25 : decode cX0_netScore 25 = .ok (.iload_n 1, 1) := by decide +kernel
theorem dX0_netScore_26 : decode cX0_netScore 26 = .ok (.iload 5, 2) := by decide +kernel
theorem dX0_netScore_28 : decode cX0_netScore 28 = .ok (.iload_n 3, 1) := by decide +kernel
theorem dX0_netScore_29 : decode cX0_netScore 29 = .ok (.invokevirtual 113, 3) := by decide +kernel
theorem dX0_netScore_32 : decode cX0_netScore 32 = .ok (.invokestatic 116, 3) := by decide +kernel
theorem dX0_netScore_35 : decode cX0_netScore 35 = .ok (.istore 4, 2) := by decide +kernel
theorem dX0_netScore_37 : decode cX0_netScore 37 = .ok (.iinc 5 1, 3) := by decide +kernel
theorem dX0_netScore_40 : decode cX0_netScore 40 = .ok (.goto (-33), 3) := by decide +kernel
theorem dX0_netScore_43 : decode cX0_netScore 43 = .ok (.iload 4, 2) := by decide +kernel
theorem dX0_netScore_45 : decode cX0_netScore 45 = .ok (.ireturn, 1) := by decide +kernel
set_option maxRecDepth 20000 in
theorem ggX0_rankChannels_X0_netScore : GoodIn wsX0_rankChannels wsX0_netScore := goodIn_r _ [6, 7, 8, 9, 10, 11, 12, 13, 14, 15, 16, 5, 17, 18, 19, 20, 21, 22, 23, 24, 25, 26, 27, 28, 29, 30, 31, 32, 33, 34, 35, 36, 37, 38, 39, 40, 41, 42] (by decide +kernel) (by decide +kernel)
set_option maxRecDepth 20000 in
theorem gX0_rankChannels_X0_netScore : GoodIn wsX0_rankChannels (wsV RX0 119 RX0 yX0_netScore wsX0_netScore) := goodIn_app (goodIn_of _ (by decide +kernel)) ggX0_rankChannels_X0_netScore
theorem dX0_rankChannels_0 : decode cX0_rankChannels 0 = .ok (.iconst 0, 1) := by decide +kernel
theorem dX0_rankChannels_1 : decode cX0_rankChannels 1 = .ok (.istore_n 3, 1) := by decide +kernel
theorem dX0_rankChannels_2 : decode cX0_rankChannels 2 = .ok (.iload_n 3, 1) := by decide +kernel
theorem dX0_rankChannels_3 : decode cX0_rankChannels 3 = .ok (.bipush 8, 2) := by decide +kernel
theorem dX0_rankChannels_5 : decode cX0_rankChannels 5 = .ok (.if_icmp .ge 22, 3) := by decide +kernel
theorem dX0_rankChannels_8 : decode cX0_rankChannels 8 = .ok (.aload_n 0, 1) := by decide +kernel
theorem dX0_rankChannels_9 : decode cX0_rankChannels 9 = .ok (.getfield 46, 3) := by decide +kernel
theorem dX0_rankChannels_12 : decode cX0_rankChannels 12 = .ok (.iload_n 3, 1) := by decide +kernel
theorem dX0_rankChannels_13 : decode cX0_rankChannels 13 = .ok (.aload_n 0, 1) := by decide +kernel
theorem dX0_rankChannels_14 : decode cX0_rankChannels 14 = .ok (.iload_n 1, 1) := by decide +kernel
theorem dX0_rankChannels_15 : decode cX0_rankChannels 15 = .ok (.iload_n 2, 1) := by decide +kernel
theorem dX0_rankChannels_16 : decode cX0_rankChannels 16 = .ok (.iload_n 3, 1) := by decide +kernel
theorem dX0_rankChannels_17 : decode cX0_rankChannels 17 = .ok (.invokevirtual 119, 3) := by decide +kernel
theorem dX0_rankChannels_20 : decode cX0_rankChannels 20 = .ok (.iastore, 1) := by decide +kernel
theorem dX0_rankChannels_21 : decode cX0_rankChannels 21 = .ok (.iinc 3 1, 3) := by decide +kernel
theorem dX0_rankChannels_24 : decode cX0_rankChannels 24 = .ok (.goto (-22), 3) := by decide +kernel
theorem dX0_rankChannels_27 : decode cX0_rankChannels 27 = .ok (.return_, 1) := by decide +kernel
set_option maxRecDepth 20000 in
theorem ggX0_firstRanked_X1_contains : GoodIn wsX0_firstRanked wsX1_contains := goodIn_r _ [4] (by decide +kernel) (by decide +kernel)
set_option maxRecDepth 20000 in
theorem gX0_firstRanked_X1_contains_n89 : GoodIn wsX0_firstRanked (wsX1_contains) := ggX0_firstRanked_X1_contains
theorem dX0_firstRanked_0 : decode cX0_firstRanked 0 = .ok (.iconst (-1), 1) := by decide +kernel
theorem dX0_firstRanked_1 : decode cX0_firstRanked 1 = .ok (.istore_n 2, 1) := by decide +kernel
theorem dX0_firstRanked_2 : decode cX0_firstRanked 2 = .ok (.iconst 0, 1) := by decide +kernel
theorem dX0_firstRanked_3 : decode cX0_firstRanked 3 = .ok (.istore_n 3, 1) := by decide +kernel
theorem dX0_firstRanked_4 : decode cX0_firstRanked 4 = .ok (.iload_n 3, 1) := by decide +kernel
theorem dX0_firstRanked_5 : decode cX0_firstRanked 5 = .ok (.bipush 8, 2) := by decide +kernel
theorem dX0_firstRanked_7 : decode cX0_firstRanked 7 = .ok (.if_icmp .ge 39, 3) := by decide +kernel
theorem dX0_firstRanked_10 : decode cX0_firstRanked 10 = .ok (.iload_n 1, 1) := by decide +kernel
theorem dX0_firstRanked_11 : decode cX0_firstRanked 11 = .ok (.iload_n 3, 1) := by decide +kernel
theorem dX0_firstRanked_12 : decode cX0_firstRanked 12 = .ok (.invokestatic 89, 3) := by decide +kernel
theorem dX0_firstRanked_15 : decode cX0_firstRanked 15 = .ok (.ifCond .eq 25, 3) := by decide +kernel
theorem dX0_firstRanked_18 : decode cX0_firstRanked 18 = .ok (.iload_n 2, 1) := by decide +kernel
theorem dX0_firstRanked_19 : decode cX0_firstRanked 19 = .ok (.iconst (-1), 1) := by decide +kernel
theorem dX0_firstRanked_20 : decode cX0_firstRanked 20 = .ok (.if_icmp .eq 18, 3) := by decide +kernel
theorem dX0_firstRanked_23 : decode cX0_firstRanked 23 = .ok (.aload_n 0, 1) := by decide +kernel
theorem dX0_firstRanked_24 : decode cX0_firstRanked 24 = .ok (.getfield 46, 3) := by decide +kernel
theorem dX0_firstRanked_27 : decode cX0_firstRanked 27 = .ok (.iload_n 3, 1) := by decide +kernel
theorem dX0_firstRanked_28 : decode cX0_firstRanked 28 = .ok (.iaload, 1) := by decide +kernel
theorem dX0_firstRanked_29 : decode cX0_firstRanked 29 = .ok (.aload_n 0, 1) := by decide +kernel
theorem dX0_firstRanked_30 : decode cX0_firstRanked 30 = .ok (.getfield 46, 3) := by decide +kernel
theorem dX0_firstRanked_33 : decode cX0_firstRanked 33 = .ok (.iload_n 2, 1) := by decide +kernel
theorem dX0_firstRanked_34 : decode cX0_firstRanked 34 = .ok (.iaload, 1) := by decide +kernel
theorem dX0_firstRanked_35 : decode cX0_firstRanked 35 = .ok (.if_icmp .le 5, 3) := by decide +kernel
theorem dX0_firstRanked_38 : decode cX0_firstRanked 38 = .ok (.iload_n 3, 1) := by decide +kernel
theorem dX0_firstRanked_39 : decode cX0_firstRanked 39 = .ok (.istore_n 2, 1) := by decide +kernel
theorem dX0_firstRanked_40 : decode cX0_firstRanked 40 = .ok (.iinc 3 1, 3) := by decide +kernel
theorem dX0_firstRanked_43 : decode cX0_firstRanked 43 = .ok (.goto (-39), 3) := by decide +kernel
theorem dX0_firstRanked_46 : decode cX0_firstRanked 46 = .ok (.iload_n 2, 1) := by decide +kernel
theorem dX0_firstRanked_47 : decode cX0_firstRanked 47 = .ok (.ireturn, 1) := by decide +kernel
set_option maxRecDepth 20000 in
theorem ggX0_preferredChannel_X0_rankChannels : GoodIn wsX0_preferredChannel wsX0_rankChannels := goodIn_r _ [6, 7, 8, 9, 10, 5, 11, 12, 13, 14, 15, 16, 17, 18, 19, 20, 21, 22, 23, 24, 25, 26, 27, 28, 29, 30, 31, 36, 37, 38, 39, 40, 41, 42, 43, 44, 45, 46, 47, 48, 49, 50, 51] (by decide +kernel) (by decide +kernel)
set_option maxRecDepth 20000 in
theorem gX0_preferredChannel_X0_rankChannels : GoodIn wsX0_preferredChannel (wsV RX0 122 RX0 yX0_rankChannels wsX0_rankChannels) := goodIn_app (goodIn_of _ (by decide +kernel)) ggX0_preferredChannel_X0_rankChannels
set_option maxRecDepth 20000 in
theorem ggX0_preferredChannel_X0_firstRanked : GoodIn wsX0_preferredChannel wsX0_firstRanked := goodIn_r _ [35, 7, 16, 17, 18, 36, 37, 38, 39, 40, 41, 42, 43, 44, 45, 46, 47, 48, 49, 50, 51] (by decide +kernel) (by decide +kernel)
set_option maxRecDepth 20000 in
theorem gX0_preferredChannel_X0_firstRanked : GoodIn wsX0_preferredChannel (wsV RX0 126 RX0 yX0_firstRanked wsX0_firstRanked) := goodIn_app (goodIn_of _ (by decide +kernel)) ggX0_preferredChannel_X0_firstRanked
theorem dX0_preferredChannel_0 : decode cX0_preferredChannel 0 = .ok (.aload_n 0, 1) := by decide +kernel
theorem dX0_preferredChannel_1 : decode cX0_preferredChannel 1 = .ok (.iload_n 1, 1) := by decide +kernel
theorem dX0_preferredChannel_2 : decode cX0_preferredChannel 2 = .ok (.iload_n 2, 1) := by decide +kernel
theorem dX0_preferredChannel_3 : decode cX0_preferredChannel 3 = .ok (.invokevirtual 122, 3) := by decide +kernel
theorem dX0_preferredChannel_6 : decode cX0_preferredChannel 6 = .ok (.aload_n 0, 1) := by decide +kernel
theorem dX0_preferredChannel_7 : decode cX0_preferredChannel 7 = .ok (.aload_n 0, 1) := by decide +kernel
theorem dX0_preferredChannel_8 : decode cX0_preferredChannel 8 = .ok (.getfield 27, 3) := by decide +kernel
theorem dX0_preferredChannel_11 : decode cX0_preferredChannel 11 = .ok (.iload_n 1, 1) := by decide +kernel
theorem dX0_preferredChannel_12 : decode cX0_preferredChannel 12 = .ok (.iaload, 1) := by decide +kernel
theorem dX0_preferredChannel_13 : decode cX0_preferredChannel 13 = .ok (.invokevirtual 126, 3) := by decide +kernel
theorem dX0_preferredChannel_16 : decode cX0_preferredChannel 16 = .ok (.ireturn, 1) := by decide +kernel
set_option maxRecDepth 20000 in
theorem ggX0_emitSounding_X0_longestScan : GoodIn wsX0_emitSounding wsX0_longestScan := goodIn_r _ [6, 7, 8, 9, 10, 11, 12, 13, 14, 15, 16, 17, 18, 19, 20, 21, 58, 59, 60, 61, 62, 63, 64, 65, 66, 67, 68, 69, 70, 71, 72, 73] (by decide +kernel) (by decide +kernel)
set_option maxRecDepth 20000 in
theorem gX0_emitSounding_X0_longestScan : GoodIn wsX0_emitSounding (wsV RX0 129 RX0 yX0_longestScan wsX0_longestScan) := goodIn_app (goodIn_of _ (by decide +kernel)) ggX0_emitSounding_X0_longestScan
set_option maxRecDepth 20000 in
theorem ggX0_emitSounding_X0_hears : GoodIn wsX0_emitSounding wsX0_hears := goodIn_r _ [25, 7, 26, 27, 28, 5, 29, 30, 12, 13, 14, 58, 59, 60, 61, 62, 63, 64, 65, 66, 67, 68, 69, 70, 71, 72, 73] (by decide +kernel) (by decide +kernel)
set_option maxRecDepth 20000 in
theorem gX0_emitSounding_X0_hears : GoodIn wsX0_emitSounding (wsV RX0 132 RX0 yX0_hears wsX0_hears) := goodIn_app (goodIn_of _ (by decide +kernel)) ggX0_emitSounding_X0_hears
set_option maxRecDepth 20000 in
theorem ggX0_emitSounding_X0_transmit : GoodIn wsX0_emitSounding wsX0_transmit := goodIn_r _ [34, 35, 36, 37, 38, 39, 40, 41, 42, 1, 43, 13, 44, 45, 46, 47, 5, 48, 49, 50, 51, 52, 53, 54, 55, 56, 57, 15, 16, 17, 18, 19, 20, 21, 58, 59, 60, 61, 62, 63, 64, 65, 66, 67, 68, 69, 70, 71, 72, 73] (by decide +kernel) (by decide +kernel)
set_option maxRecDepth 20000 in
theorem gX0_emitSounding_X0_transmit : GoodIn wsX0_emitSounding (wsV RX0 135 RX0 yX0_transmit wsX0_transmit) := goodIn_app (goodIn_of _ (by decide +kernel)) ggX0_emitSounding_X0_transmit
theorem dX0_emitSounding_0 : decode cX0_emitSounding 0 = .ok (.aload_n 0, 1) := by decide +kernel
theorem dX0_emitSounding_1 : decode cX0_emitSounding 1 = .ok (.dup, 1) := by decide +kernel
theorem dX0_emitSounding_2 : decode cX0_emitSounding 2 = .ok (.getfield 55, 3) := by decide +kernel
theorem dX0_emitSounding_5 : decode cX0_emitSounding 5 = .ok (.aload_n 0, 1) := by decide +kernel
theorem dX0_emitSounding_6 : decode cX0_emitSounding 6 = .ok (.bipush 31, 2) := by decide +kernel
theorem dX0_emitSounding_8 : decode cX0_emitSounding 8 = .ok (.invokevirtual 129, 3) := by decide +kernel
theorem dX0_emitSounding_11 : decode cX0_emitSounding 11 = .ok (.iadd, 1) := by decide +kernel
theorem dX0_emitSounding_12 : decode cX0_emitSounding 12 = .ok (.putfield 55, 3) := by decide +kernel
theorem dX0_emitSounding_15 : decode cX0_emitSounding 15 = .ok (.iconst 0, 1) := by decide +kernel
theorem dX0_emitSounding_16 : decode cX0_emitSounding 16 = .ok (.istore_n 3, 1) := by decide +kernel
theorem dX0_emitSounding_17 : decode cX0_emitSounding 17 = .ok (.iconst 0, 1) := by decide +kernel
theorem dX0_emitSounding_18 : decode cX0_emitSounding 18 = .ok (.istore 4, 2) := by decide +kernel
theorem dX0_emitSounding_20 : decode cX0_emitSounding 20 = .ok (.iload 4, 2) := by decide +kernel
theorem dX0_emitSounding_22 : decode cX0_emitSounding 22 = .ok (.iconst 5, 1) := by decide +kernel
theorem dX0_emitSounding_23 : decode cX0_emitSounding 23 = .ok (.if_icmp .ge 47, 3) := by decide +kernel
theorem dX0_emitSounding_26 : decode cX0_emitSounding 26 = .ok (.iload 4, 2) := by decide +kernel
theorem dX0_emitSounding_28 : decode cX0_emitSounding 28 = .ok (.iload_n 1, 1) := by decide +kernel
theorem dX0_emitSounding_29 : decode cX0_emitSounding 29 = .ok (.if_icmp .eq 35, 3) := by decide +kernel
theorem dX0_emitSounding_32 : decode cX0_emitSounding 32 = .ok (.aload_n 0, 1) := by decide +kernel
theorem dX0_emitSounding_33 : decode cX0_emitSounding 33 = .ok (.iload 4, 2) := by decide +kernel
theorem dX0_emitSounding_35 : decode cX0_emitSounding 35 = .ok (.iload_n 2, 1) := by decide +kernel
theorem dX0_emitSounding_36 : decode cX0_emitSounding 36 = .ok (.invokevirtual 132, 3) := by decide +kernel
theorem dX0_emitSounding_39 : decode cX0_emitSounding 39 = .ok (.ifCond .eq 25, 3) := by decide +kernel
theorem dX0_emitSounding_42 : decode cX0_emitSounding 42 = .ok (.aload_n 0, 1) := by decide +kernel
theorem dX0_emitSounding_43 : decode cX0_emitSounding 43 = .ok (.iconst 1, 1) := by decide +kernel
theorem dX0_emitSounding_44 : decode cX0_emitSounding 44 = .ok (.iload_n 1, 1) := by decide +kernel
theorem dX0_emitSounding_45 : decode cX0_emitSounding 45 = .ok (.iload 4, 2) := by decide +kernel
theorem dX0_emitSounding_47 : decode cX0_emitSounding 47 = .ok (.sipush 255, 3) := by decide +kernel
theorem dX0_emitSounding_50 : decode cX0_emitSounding 50 = .ok (.iload_n 2, 1) := by decide +kernel
theorem dX0_emitSounding_51 : decode cX0_emitSounding 51 = .ok (.invokevirtual 135, 3) := by decide +kernel
theorem dX0_emitSounding_54 : decode cX0_emitSounding 54 = .ok (.ifCond .eq 10, 3) := by decide +kernel
theorem dX0_emitSounding_57 : decode cX0_emitSounding 57 = .ok (.iload_n 3, 1) := by decide +kernel
theorem dX0_emitSounding_58 : decode cX0_emitSounding 58 = .ok (.iconst 1, 1) := by decide +kernel
theorem dX0_emitSounding_59 : decode cX0_emitSounding 59 = .ok (.iload 4, 2) := by decide +kernel
theorem dX0_emitSounding_61 : decode cX0_emitSounding 61 = .ok (.ishl, 1) := by decide +kernel
theorem dX0_emitSounding_62 : decode cX0_emitSounding 62 = .ok (.ior, 1) := by decide +kernel
theorem dX0_emitSounding_63 : decode cX0_emitSounding 63 = .ok (.istore_n 3, 1) := by decide +kernel
theorem dX0_emitSounding_64 : decode cX0_emitSounding 64 = .ok (.iinc 4 1, 3) := by decide +kernel
theorem dX0_emitSounding_67 : decode cX0_emitSounding 67 = .ok (.goto (-47), 3) := by decide +kernel
theorem dX0_emitSounding_70 : decode cX0_emitSounding 70 = .ok (.iload_n 3, 1) := by decide +kernel
theorem dX0_emitSounding_71 : decode cX0_emitSounding 71 = .ok (.ireturn, 1) := by decide +kernel
set_option maxRecDepth 20000 in
theorem ggX0_callOne_X0_rankChannels : GoodIn wsX0_callOne wsX0_rankChannels := goodIn_r _ [8, 9, 10, 11, 12, 7, 13, 14, 15, 16, 17, 18, 19, 20, 21, 22, 23, 24, 25, 26, 27, 28, 29, 30, 31, 32, 33, 86, 87, 88, 89, 90, 91, 92, 93, 94, 95, 96, 97, 98, 99, 100, 101] (by decide +kernel) (by decide +kernel)
set_option maxRecDepth 20000 in
theorem gX0_callOne_X0_rankChannels : GoodIn wsX0_callOne (wsV RX0 122 RX0 yX0_rankChannels wsX0_rankChannels) := goodIn_app (goodIn_of _ (by decide +kernel)) ggX0_callOne_X0_rankChannels
set_option maxRecDepth 20000 in
theorem ggX0_callOne_X0_firstRanked : GoodIn wsX0_callOne wsX0_firstRanked := goodIn_r _ [37, 9, 18, 19, 20, 86, 87, 88, 89, 90, 91, 92, 93, 94, 95, 96, 97, 98, 99, 100, 101] (by decide +kernel) (by decide +kernel)
set_option maxRecDepth 20000 in
theorem gX0_callOne_X0_firstRanked : GoodIn wsX0_callOne (wsV RX0 126 RX0 yX0_firstRanked wsX0_firstRanked) := goodIn_app (goodIn_of _ (by decide +kernel)) ggX0_callOne_X0_firstRanked
set_option maxRecDepth 20000 in
theorem ggX0_callOne_X0_shakeHands : GoodIn wsX0_callOne wsX0_shakeHands := goodIn_r _ [41, 27, 2, 42, 43, 44, 45, 46, 47, 48, 49, 50, 51, 7, 52, 53, 54, 55, 56, 57, 18, 19, 20, 58, 59, 60, 61, 62, 63, 64, 65, 66, 67, 25, 28, 32, 33, 68, 69, 70, 71, 72, 73, 74, 75, 76, 77, 78, 79, 80, 86, 87, 88, 89, 90, 91, 92, 93, 94, 95, 96, 97, 98, 99, 100, 101] (by decide +kernel) (by decide +kernel)
set_option maxRecDepth 20000 in
theorem gX0_callOne_X0_shakeHands : GoodIn wsX0_callOne (wsV RX0 139 RX0 yX0_shakeHands wsX0_shakeHands) := goodIn_app (goodIn_of _ (by decide +kernel)) ggX0_callOne_X0_shakeHands
set_option maxRecDepth 20000 in
theorem ggX0_callOne_X0_joinLink : GoodIn wsX0_callOne wsX0_joinLink := goodIn_r _ [84, 57, 85, 18, 19, 20, 86, 87, 88, 89, 90, 91, 92, 93, 94, 95, 96, 97, 98, 99, 100, 101] (by decide +kernel) (by decide +kernel)
set_option maxRecDepth 20000 in
theorem gX0_callOne_X0_joinLink : GoodIn wsX0_callOne (wsV RX0 143 RX0 yX0_joinLink wsX0_joinLink) := goodIn_app (goodIn_of _ (by decide +kernel)) ggX0_callOne_X0_joinLink
theorem dX0_callOne_0 : decode cX0_callOne 0 = .ok (.aload_n 0, 1) := by decide +kernel
theorem dX0_callOne_1 : decode cX0_callOne 1 = .ok (.iload_n 1, 1) := by decide +kernel
theorem dX0_callOne_2 : decode cX0_callOne 2 = .ok (.iconst 1, 1) := by decide +kernel
theorem dX0_callOne_3 : decode cX0_callOne 3 = .ok (.iload_n 2, 1) := by decide +kernel
theorem dX0_callOne_4 : decode cX0_callOne 4 = .ok (.ishl, 1) := by decide +kernel
theorem dX0_callOne_5 : decode cX0_callOne 5 = .ok (.invokevirtual 122, 3) := by decide +kernel
theorem dX0_callOne_8 : decode cX0_callOne 8 = .ok (.aload_n 0, 1) := by decide +kernel
theorem dX0_callOne_9 : decode cX0_callOne 9 = .ok (.iconst 0, 1) := by decide +kernel
theorem dX0_callOne_10 : decode cX0_callOne 10 = .ok (.putfield 64, 3) := by decide +kernel
theorem dX0_callOne_13 : decode cX0_callOne 13 = .ok (.aload_n 0, 1) := by decide +kernel
theorem dX0_callOne_14 : decode cX0_callOne 14 = .ok (.getfield 27, 3) := by decide +kernel
theorem dX0_callOne_17 : decode cX0_callOne 17 = .ok (.iload_n 1, 1) := by decide +kernel
theorem dX0_callOne_18 : decode cX0_callOne 18 = .ok (.iaload, 1) := by decide +kernel
theorem dX0_callOne_19 : decode cX0_callOne 19 = .ok (.istore_n 3, 1) := by decide +kernel
theorem dX0_callOne_20 : decode cX0_callOne 20 = .ok (.iconst 0, 1) := by decide +kernel
theorem dX0_callOne_21 : decode cX0_callOne 21 = .ok (.istore 4, 2) := by decide +kernel
theorem dX0_callOne_23 : decode cX0_callOne 23 = .ok (.iload 4, 2) := by decide +kernel
theorem dX0_callOne_25 : decode cX0_callOne 25 = .ok (.bipush 8, 2) := by decide +kernel
theorem dX0_callOne_27 : decode cX0_callOne 27 = .ok (.if_icmp .ge 72, 3) := by decide +kernel
theorem dX0_callOne_30 : decode cX0_callOne 30 = .ok (.iload_n 3, 1) := by decide +kernel
theorem dX0_callOne_31 : decode cX0_callOne 31 = .ok (.ifCond .eq 68, 3) := by decide +kernel
theorem dX0_callOne_34 : decode cX0_callOne 34 = .ok (.aload_n 0, 1) := by decide +kernel
theorem dX0_callOne_35 : decode cX0_callOne 35 = .ok (.iload_n 3, 1) := by decide +kernel
theorem dX0_callOne_36 : decode cX0_callOne 36 = .ok (.invokevirtual 126, 3) := by decide +kernel
theorem dX0_callOne_39 : decode cX0_callOne 39 = .ok (.istore 5, 2) := by decide +kernel
theorem dX0_callOne_41 : decode cX0_callOne 41 = .ok (.iload_n 3, 1) := by decide +kernel
theorem dX0_callOne_42 : decode cX0_callOne 42 = .ok (.iconst 1, 1) := by decide +kernel
theorem dX0_callOne_43 : decode cX0_callOne 43 = .ok (.iload 5, 2) := by decide +kernel
theorem dX0_callOne_45 : decode cX0_callOne 45 = .ok (.ishl, 1) := by decide +kernel
theorem dX0_callOne_46 : decode cX0_callOne 46 = .ok (.iconst (-1), 1) := by decide +kernel
theorem dX0_callOne_47 : decode cX0_callOne 47 = .ok (.ixor, 1) := by decide +kernel
theorem dX0_callOne_48 : decode cX0_callOne 48 = .ok (.iand, 1) := by decide +kernel
theorem dX0_callOne_49 : decode cX0_callOne 49 = .ok (.istore_n 3, 1) := by decide +kernel
theorem dX0_callOne_50 : decode cX0_callOne 50 = .ok (.aload_n 0, 1) := by decide +kernel
theorem dX0_callOne_51 : decode cX0_callOne 51 = .ok (.dup, 1) := by decide +kernel
theorem dX0_callOne_52 : decode cX0_callOne 52 = .ok (.getfield 64, 3) := by decide +kernel
theorem dX0_callOne_55 : decode cX0_callOne 55 = .ok (.iconst 1, 1) := by decide +kernel
theorem dX0_callOne_56 : decode cX0_callOne 56 = .ok (.iadd, 1) := by decide +kernel
theorem dX0_callOne_57 : decode cX0_callOne 57 = .ok (.putfield 64, 3) := by decide +kernel
theorem dX0_callOne_60 : decode cX0_callOne 60 = .ok (.aload_n 0, 1) := by decide +kernel
theorem dX0_callOne_61 : decode cX0_callOne 61 = .ok (.iload 5, 2) := by decide +kernel
theorem dX0_callOne_63 : decode cX0_callOne 63 = .ok (.putfield 18, 3) := by decide +kernel
theorem dX0_callOne_66 : decode cX0_callOne 66 = .ok (.aload_n 0, 1) := by decide +kernel
theorem dX0_callOne_67 : decode cX0_callOne 67 = .ok (.iload_n 1, 1) := by decide +kernel
theorem dX0_callOne_68 : decode cX0_callOne 68 = .ok (.iload_n 2, 1) := by decide +kernel
theorem dX0_callOne_69 : decode cX0_callOne 69 = .ok (.iload 5, 2) := by decide +kernel
theorem dX0_callOne_71 : decode cX0_callOne 71 = .ok (.invokevirtual 139, 3) := by decide +kernel
theorem dX0_callOne_74 : decode cX0_callOne 74 = .ok (.ifCond .eq 19, 3) := by decide +kernel
theorem dX0_callOne_77 : decode cX0_callOne 77 = .ok (.aload_n 0, 1) := by decide +kernel
theorem dX0_callOne_78 : decode cX0_callOne 78 = .ok (.iconst 1, 1) := by decide +kernel
theorem dX0_callOne_79 : decode cX0_callOne 79 = .ok (.iload_n 1, 1) := by decide +kernel
theorem dX0_callOne_80 : decode cX0_callOne 80 = .ok (.ishl, 1) := by decide +kernel
theorem dX0_callOne_81 : decode cX0_callOne 81 = .ok (.iconst 1, 1) := by decide +kernel
theorem dX0_callOne_82 : decode cX0_callOne 82 = .ok (.iload_n 2, 1) := by decide +kernel
theorem dX0_callOne_83 : decode cX0_callOne 83 = .ok (.ishl, 1) := by decide +kernel
theorem dX0_callOne_84 : decode cX0_callOne 84 = .ok (.ior, 1) := by decide +kernel
theorem dX0_callOne_85 : decode cX0_callOne 85 = .ok (.iload 5, 2) := by decide +kernel
theorem dX0_callOne_87 : decode cX0_callOne 87 = .ok (.invokevirtual 143, 3) := by decide +kernel
theorem dX0_callOne_90 : decode cX0_callOne 90 = .ok (.iload 5, 2) := by decide +kernel
theorem dX0_callOne_92 : decode cX0_callOne 92 = .ok (.ireturn, 1) := by decide +kernel
theorem dX0_callOne_93 : decode cX0_callOne 93 = .ok (.iinc 4 1, 3) := by decide +kernel
theorem dX0_callOne_96 : decode cX0_callOne 96 = .ok (.goto (-73), 3) := by decide +kernel
theorem dX0_callOne_99 : decode cX0_callOne 99 = .ok (.iconst (-1), 1) := by decide +kernel
theorem dX0_callOne_100 : decode cX0_callOne 100 = .ok (.ireturn, 1) := by decide +kernel
set_option maxRecDepth 20000 in
theorem ggX0_shakeHands_J6_bitCount_0f7a4 : GoodIn wsX0_shakeHands wsJ6_bitCount_0f7a4 := goodIn_r _ [6, 7, 8, 9] (by decide +kernel) (by decide +kernel)
set_option maxRecDepth 20000 in
theorem gX0_shakeHands_J6_bitCount_0f7a4 : GoodIn wsX0_shakeHands (va_wsS RX0 73 yJ6_bitCount_0f7a4 wsJ6_bitCount_0f7a4) := goodIn_app (goodIn_of _ (by decide +kernel)) ggX0_shakeHands_J6_bitCount_0f7a4
set_option maxRecDepth 20000 in
theorem ggX0_shakeHands_X0_hears : GoodIn wsX0_shakeHands wsX0_hears := goodIn_r _ [14, 2, 15, 16, 17, 13, 18, 19, 20, 21, 22, 50, 51, 52, 53, 54, 55, 56, 57, 58, 59, 60, 61, 62, 63, 64, 65] (by decide +kernel) (by decide +kernel)
set_option maxRecDepth 20000 in
theorem gX0_shakeHands_X0_hears : GoodIn wsX0_shakeHands (wsV RX0 132 RX0 yX0_hears wsX0_hears) := goodIn_app (goodIn_of _ (by decide +kernel)) ggX0_shakeHands_X0_hears
set_option maxRecDepth 20000 in
theorem ggX0_shakeHands_X0_transmit : GoodIn wsX0_shakeHands wsX0_transmit := goodIn_r _ [26, 27, 28, 29, 30, 31, 32, 33, 34, 1, 35, 21, 36, 37, 38, 39, 13, 40, 41, 42, 43, 44, 45, 46, 47, 48, 49, 3, 4, 5, 6, 7, 8, 9, 50, 51, 52, 53, 54, 55, 56, 57, 58, 59, 60, 61, 62, 63, 64, 65] (by decide +kernel) (by decide +kernel)
set_option maxRecDepth 20000 in
theorem gX0_shakeHands_X0_transmit : GoodIn wsX0_shakeHands (wsV RX0 135 RX0 yX0_transmit wsX0_transmit) := goodIn_app (goodIn_of _ (by decide +kernel)) ggX0_shakeHands_X0_transmit
theorem dX0_shakeHands_0 : decode cX0_shakeHands 0 = .ok (.aload_n 0, 1) := by decide +kernel
theorem dX0_shakeHands_1 : decode cX0_shakeHands 1 = .ok (.dup, 1) := by decide +kernel
theorem dX0_shakeHands_2 : decode cX0_shakeHands 2 = .ok (.getfield 55, 3) := by decide +kernel
theorem dX0_shakeHands_5 : decode cX0_shakeHands 5 = .ok (.aload_n 0, 1) := by decide +kernel
theorem dX0_shakeHands_6 : decode cX0_shakeHands 6 = .ok (.getfield 27, 3) := by decide +kernel
theorem dX0_shakeHands_9 : decode cX0_shakeHands 9 = .ok (.iload_n 2, 1) := by decide +kernel
theorem dX0_shakeHands_10 : decode cX0_shakeHands 10 = .ok (.iaload, 1) := by decide +kernel
theorem dX0_shakeHands_11 : decode cX0_shakeHands 11 = .ok (.invokestatic 73, 3) := by decide +kernel
theorem dX0_shakeHands_14 : decode cX0_shakeHands 14 = .ok (.iadd, 1) := by decide +kernel
theorem dX0_shakeHands_15 : decode cX0_shakeHands 15 = .ok (.putfield 55, 3) := by decide +kernel
theorem dX0_shakeHands_18 : decode cX0_shakeHands 18 = .ok (.aload_n 0, 1) := by decide +kernel
theorem dX0_shakeHands_19 : decode cX0_shakeHands 19 = .ok (.iload_n 2, 1) := by decide +kernel
theorem dX0_shakeHands_20 : decode cX0_shakeHands 20 = .ok (.iload_n 3, 1) := by decide +kernel
theorem dX0_shakeHands_21 : decode cX0_shakeHands 21 = .ok (.invokevirtual 132, 3) := by decide +kernel
theorem dX0_shakeHands_24 : decode cX0_shakeHands 24 = .ok (.ifCond .eq 15, 3) := by decide +kernel
theorem dX0_shakeHands_27 : decode cX0_shakeHands 27 = .ok (.aload_n 0, 1) := by decide +kernel
theorem dX0_shakeHands_28 : decode cX0_shakeHands 28 = .ok (.iconst 2, 1) := by decide +kernel
theorem dX0_shakeHands_29 : decode cX0_shakeHands 29 = .ok (.iload_n 1, 1) := by decide +kernel
theorem dX0_shakeHands_30 : decode cX0_shakeHands 30 = .ok (.iload_n 2, 1) := by decide +kernel
theorem dX0_shakeHands_31 : decode cX0_shakeHands 31 = .ok (.iload_n 2, 1) := by decide +kernel
theorem dX0_shakeHands_32 : decode cX0_shakeHands 32 = .ok (.iload_n 3, 1) := by decide +kernel
theorem dX0_shakeHands_33 : decode cX0_shakeHands 33 = .ok (.invokevirtual 135, 3) := by decide +kernel
theorem dX0_shakeHands_36 : decode cX0_shakeHands 36 = .ok (.ifCond .ne 5, 3) := by decide +kernel
theorem dX0_shakeHands_39 : decode cX0_shakeHands 39 = .ok (.iconst 0, 1) := by decide +kernel
theorem dX0_shakeHands_40 : decode cX0_shakeHands 40 = .ok (.ireturn, 1) := by decide +kernel
theorem dX0_shakeHands_41 : decode cX0_shakeHands 41 = .ok (.aload_n 0, 1) := by decide +kernel
theorem dX0_shakeHands_42 : decode cX0_shakeHands 42 = .ok (.dup, 1) := by decide +kernel
theorem dX0_shakeHands_43 : decode cX0_shakeHands 43 = .ok (.getfield 55, 3) := by decide +kernel
theorem dX0_shakeHands_46 : decode cX0_shakeHands 46 = .ok (.iconst 1, 1) := by decide +kernel
theorem dX0_shakeHands_47 : decode cX0_shakeHands 47 = .ok (.iadd, 1) := by decide +kernel
theorem dX0_shakeHands_48 : decode cX0_shakeHands 48 = .ok (.putfield 55, 3) := by decide +kernel
theorem dX0_shakeHands_51 : decode cX0_shakeHands 51 = .ok (.aload_n 0, 1) := by decide +kernel
theorem dX0_shakeHands_52 : decode cX0_shakeHands 52 = .ok (.iconst 3, 1) := by decide +kernel
theorem dX0_shakeHands_53 : decode cX0_shakeHands 53 = .ok (.iload_n 2, 1) := by decide +kernel
theorem dX0_shakeHands_54 : decode cX0_shakeHands 54 = .ok (.iload_n 1, 1) := by decide +kernel
theorem dX0_shakeHands_55 : decode cX0_shakeHands 55 = .ok (.iload_n 1, 1) := by decide +kernel
theorem dX0_shakeHands_56 : decode cX0_shakeHands 56 = .ok (.iload_n 3, 1) := by decide +kernel
theorem dX0_shakeHands_57 : decode cX0_shakeHands 57 = .ok (.invokevirtual 135, 3) := by decide +kernel
theorem dX0_shakeHands_60 : decode cX0_shakeHands 60 = .ok (.ifCond .ne 5, 3) := by decide +kernel
theorem dX0_shakeHands_63 : decode cX0_shakeHands 63 = .ok (.iconst 0, 1) := by decide +kernel
theorem dX0_shakeHands_64 : decode cX0_shakeHands 64 = .ok (.ireturn, 1) := by decide +kernel
theorem dX0_shakeHands_65 : decode cX0_shakeHands 65 = .ok (.aload_n 0, 1) := by decide +kernel
theorem dX0_shakeHands_66 : decode cX0_shakeHands 66 = .ok (.dup, 1) := by decide +kernel
theorem dX0_shakeHands_67 : decode cX0_shakeHands 67 = .ok (.getfield 55, 3) := by decide +kernel
theorem dX0_shakeHands_70 : decode cX0_shakeHands 70 = .ok (.iconst 1, 1) := by decide +kernel
theorem dX0_shakeHands_71 : decode cX0_shakeHands 71 = .ok (.iadd, 1) := by decide +kernel
theorem dX0_shakeHands_72 : decode cX0_shakeHands 72 = .ok (.putfield 55, 3) := by decide +kernel
theorem dX0_shakeHands_75 : decode cX0_shakeHands 75 = .ok (.aload_n 0, 1) := by decide +kernel
theorem dX0_shakeHands_76 : decode cX0_shakeHands 76 = .ok (.iconst 4, 1) := by decide +kernel
theorem dX0_shakeHands_77 : decode cX0_shakeHands 77 = .ok (.iload_n 1, 1) := by decide +kernel
theorem dX0_shakeHands_78 : decode cX0_shakeHands 78 = .ok (.iload_n 2, 1) := by decide +kernel
theorem dX0_shakeHands_79 : decode cX0_shakeHands 79 = .ok (.iload_n 2, 1) := by decide +kernel
theorem dX0_shakeHands_80 : decode cX0_shakeHands 80 = .ok (.iload_n 3, 1) := by decide +kernel
theorem dX0_shakeHands_81 : decode cX0_shakeHands 81 = .ok (.invokevirtual 135, 3) := by decide +kernel
theorem dX0_shakeHands_84 : decode cX0_shakeHands 84 = .ok (.ireturn, 1) := by decide +kernel
set_option maxRecDepth 20000 in
theorem ggX0_callMany_X0_preferredChannel : GoodIn wsX0_callMany wsX0_preferredChannel := goodIn_r _ [8, 9, 10, 11, 12, 7, 13, 14, 15, 16, 17, 18, 19, 20, 21, 22, 23, 24, 25, 26, 27, 28, 29, 30, 31, 3, 32, 33, 34, 35, 36, 37, 38, 39, 40, 41, 94, 95, 96, 97, 98, 99, 100, 101, 102, 103, 104, 105, 106, 107, 108, 109] (by decide +kernel) (by decide +kernel)
set_option maxRecDepth 20000 in
theorem gX0_callMany_X0_preferredChannel : GoodIn wsX0_callMany (wsV RX0 146 RX0 yX0_preferredChannel wsX0_preferredChannel) := goodIn_app (goodIn_of _ (by decide +kernel)) ggX0_callMany_X0_preferredChannel
set_option maxRecDepth 20000 in
theorem ggX0_callMany_X0_longestScan : GoodIn wsX0_callMany wsX0_longestScan := goodIn_r _ [45, 9, 33, 34, 21, 35, 23, 24, 25, 46, 47, 48, 49, 50, 51, 52, 94, 95, 96, 97, 98, 99, 100, 101, 102, 103, 104, 105, 106, 107, 108, 109] (by decide +kernel) (by decide +kernel)
set_option maxRecDepth 20000 in
theorem gX0_callMany_X0_longestScan : GoodIn wsX0_callMany (wsV RX0 129 RX0 yX0_longestScan wsX0_longestScan) := goodIn_app (goodIn_of _ (by decide +kernel)) ggX0_callMany_X0_longestScan
set_option maxRecDepth 20000 in
theorem ggX0_callMany_X1_contains : GoodIn wsX0_callMany wsX1_contains := goodIn_r _ [25] (by decide +kernel) (by decide +kernel)
set_option maxRecDepth 20000 in
theorem gX0_callMany_X1_contains_n89 : GoodIn wsX0_callMany (wsX1_contains) := ggX0_callMany_X1_contains
set_option maxRecDepth 20000 in
theorem ggX0_callMany_X0_answersNetCall : GoodIn wsX0_callMany wsX0_answersNetCall := goodIn_r _ [56, 3, 57, 58, 59, 7, 60, 9, 61, 62, 63, 64, 65, 23, 24, 25, 66, 67, 68, 69, 70, 71, 72, 73, 74, 75, 30, 32, 36, 37, 76, 77, 78, 79, 80, 81, 82, 83, 84, 85, 86, 87, 88, 46, 47, 48, 49, 50, 51, 52, 94, 95, 96, 97, 98, 99, 100, 101, 102, 103, 104, 105, 106, 107, 108, 109] (by decide +kernel) (by decide +kernel)
set_option maxRecDepth 20000 in
theorem gX0_callMany_X0_answersNetCall : GoodIn wsX0_callMany (wsV RX0 149 RX0 yX0_answersNetCall wsX0_answersNetCall) := goodIn_app (goodIn_of _ (by decide +kernel)) ggX0_callMany_X0_answersNetCall
set_option maxRecDepth 20000 in
theorem ggX0_callMany_X0_transmit : GoodIn wsX0_callMany wsX0_transmit := goodIn_r _ [69, 70, 71, 72, 73, 74, 75, 30, 32, 3, 36, 24, 37, 76, 77, 78, 7, 79, 80, 81, 82, 83, 84, 85, 86, 87, 88, 46, 47, 48, 49, 50, 51, 52, 94, 95, 96, 97, 98, 99, 100, 101, 102, 103, 104, 105, 106, 107, 108, 109] (by decide +kernel) (by decide +kernel)
set_option maxRecDepth 20000 in
theorem gX0_callMany_X0_transmit : GoodIn wsX0_callMany (wsV RX0 135 RX0 yX0_transmit wsX0_transmit) := goodIn_app (goodIn_of _ (by decide +kernel)) ggX0_callMany_X0_transmit
set_option maxRecDepth 20000 in
theorem ggX0_callMany_X0_joinLink : GoodIn wsX0_callMany wsX0_joinLink := goodIn_r _ [92, 65, 93, 23, 24, 25, 94, 95, 96, 97, 98, 99, 100, 101, 102, 103, 104, 105, 106, 107, 108, 109] (by decide +kernel) (by decide +kernel)
set_option maxRecDepth 20000 in
theorem gX0_callMany_X0_joinLink : GoodIn wsX0_callMany (wsV RX0 143 RX0 yX0_joinLink wsX0_joinLink) := goodIn_app (goodIn_of _ (by decide +kernel)) ggX0_callMany_X0_joinLink
theorem dX0_callMany_0 : decode cX0_callMany 0 = .ok (.aload_n 0, 1) := by decide +kernel
theorem dX0_callMany_1 : decode cX0_callMany 1 = .ok (.iload_n 1, 1) := by decide +kernel
theorem dX0_callMany_2 : decode cX0_callMany 2 = .ok (.iload_n 2, 1) := by decide +kernel
theorem dX0_callMany_3 : decode cX0_callMany 3 = .ok (.invokevirtual 146, 3) := by decide +kernel
theorem dX0_callMany_6 : decode cX0_callMany 6 = .ok (.istore_n 3, 1) := by decide +kernel
theorem dX0_callMany_7 : decode cX0_callMany 7 = .ok (.aload_n 0, 1) := by decide +kernel
theorem dX0_callMany_8 : decode cX0_callMany 8 = .ok (.iconst 1, 1) := by decide +kernel
theorem dX0_callMany_9 : decode cX0_callMany 9 = .ok (.putfield 64, 3) := by decide +kernel
theorem dX0_callMany_12 : decode cX0_callMany 12 = .ok (.aload_n 0, 1) := by decide +kernel
theorem dX0_callMany_13 : decode cX0_callMany 13 = .ok (.iload_n 3, 1) := by decide +kernel
theorem dX0_callMany_14 : decode cX0_callMany 14 = .ok (.putfield 18, 3) := by decide +kernel
theorem dX0_callMany_17 : decode cX0_callMany 17 = .ok (.aload_n 0, 1) := by decide +kernel
theorem dX0_callMany_18 : decode cX0_callMany 18 = .ok (.dup, 1) := by decide +kernel
theorem dX0_callMany_19 : decode cX0_callMany 19 = .ok (.getfield 55, 3) := by decide +kernel
theorem dX0_callMany_22 : decode cX0_callMany 22 = .ok (.aload_n 0, 1) := by decide +kernel
theorem dX0_callMany_23 : decode cX0_callMany 23 = .ok (.iload_n 2, 1) := by decide +kernel
theorem dX0_callMany_24 : decode cX0_callMany 24 = .ok (.invokevirtual 129, 3) := by decide +kernel
theorem dX0_callMany_27 : decode cX0_callMany 27 = .ok (.iadd, 1) := by decide +kernel
theorem dX0_callMany_28 : decode cX0_callMany 28 = .ok (.putfield 55, 3) := by decide +kernel
theorem dX0_callMany_31 : decode cX0_callMany 31 = .ok (.iconst 0, 1) := by decide +kernel
theorem dX0_callMany_32 : decode cX0_callMany 32 = .ok (.istore 4, 2) := by decide +kernel
theorem dX0_callMany_34 : decode cX0_callMany 34 = .ok (.iconst 0, 1) := by decide +kernel
theorem dX0_callMany_35 : decode cX0_callMany 35 = .ok (.istore 5, 2) := by decide +kernel
theorem dX0_callMany_37 : decode cX0_callMany 37 = .ok (.iload 5, 2) := by decide +kernel
theorem dX0_callMany_39 : decode cX0_callMany 39 = .ok (.iconst 5, 1) := by decide +kernel
theorem dX0_callMany_40 : decode cX0_callMany 40 = .ok (.if_icmp .ge 38, 3) := by decide +kernel
theorem dX0_callMany_43 : decode cX0_callMany 43 = .ok (.iload_n 2, 1) := by decide +kernel
theorem dX0_callMany_44 : decode cX0_callMany 44 = .ok (.iload 5, 2) := by decide +kernel
theorem dX0_callMany_46 : decode cX0_callMany 46 = .ok (.invokestatic 89, 3) := by decide +kernel
theorem dX0_callMany_49 : decode cX0_callMany 49 = .ok (.ifCond .eq 23, 3) := by decide +kernel
theorem dX0_callMany_52 : decode cX0_callMany 52 = .ok (.aload_n 0, 1) := by decide +kernel
theorem dX0_callMany_53 : decode cX0_callMany 53 = .ok (.iload_n 1, 1) := by decide +kernel
theorem dX0_callMany_54 : decode cX0_callMany 54 = .ok (.iload 5, 2) := by decide +kernel
theorem dX0_callMany_56 : decode cX0_callMany 56 = .ok (.iload_n 3, 1) := by decide +kernel
theorem dX0_callMany_57 : decode cX0_callMany 57 = .ok (.invokevirtual 149, 3) := by decide +kernel
theorem dX0_callMany_60 : decode cX0_callMany 60 = .ok (.ifCond .eq 12, 3) := by decide +kernel
theorem dX0_callMany_63 : decode cX0_callMany 63 = .ok (.iload 4, 2) := by decide +kernel
theorem dX0_callMany_65 : decode cX0_callMany 65 = .ok (.iconst 1, 1) := by decide +kernel
theorem dX0_callMany_66 : decode cX0_callMany 66 = .ok (.iload 5, 2) := by decide +kernel
theorem dX0_callMany_68 : decode cX0_callMany 68 = .ok (.ishl, 1) := by decide +kernel
theorem dX0_callMany_69 : decode cX0_callMany 69 = .ok (.ior, 1) := by decide +kernel
theorem dX0_callMany_70 : decode cX0_callMany 70 = .ok (.istore 4, 2) := by decide +kernel
theorem dX0_callMany_72 : decode cX0_callMany 72 = .ok (.iinc 5 1, 3) := by decide +kernel
theorem dX0_callMany_75 : decode cX0_callMany 75 = .ok (.goto (-38), 3) := by decide +kernel
theorem dX0_callMany_78 : decode cX0_callMany 78 = .ok (.aload_n 0, 1) := by decide +kernel
theorem dX0_callMany_79 : decode cX0_callMany 79 = .ok (.dup, 1) := by decide +kernel
theorem dX0_callMany_80 : decode cX0_callMany 80 = .ok (.getfield 55, 3) := by decide +kernel
theorem dX0_callMany_83 : decode cX0_callMany 83 = .ok (.iconst 1, 1) := by decide +kernel
theorem dX0_callMany_84 : decode cX0_callMany 84 = .ok (.iadd, 1) := by decide +kernel
theorem dX0_callMany_85 : decode cX0_callMany 85 = .ok (.putfield 55, 3) := by decide +kernel
theorem dX0_callMany_88 : decode cX0_callMany 88 = .ok (.iconst 0, 1) := by decide +kernel
theorem dX0_callMany_89 : decode cX0_callMany 89 = .ok (.istore 5, 2) := by decide +kernel
theorem dX0_callMany_91 : decode cX0_callMany 91 = .ok (.iconst 0, 1) := by decide +kernel
theorem dX0_callMany_92 : decode cX0_callMany 92 = .ok (.istore 6, 2) := by decide +kernel
theorem dX0_callMany_94 : decode cX0_callMany 94 = .ok (.iload 6, 2) := by decide +kernel
theorem dX0_callMany_96 : decode cX0_callMany 96 = .ok (.iconst 5, 1) := by decide +kernel
theorem dX0_callMany_97 : decode cX0_callMany 97 = .ok (.if_icmp .ge 43, 3) := by decide +kernel
theorem dX0_callMany_100 : decode cX0_callMany 100 = .ok (.iload 4, 2) := by decide +kernel
theorem dX0_callMany_102 : decode cX0_callMany 102 = .ok (.iload 6, 2) := by decide +kernel
theorem dX0_callMany_104 : decode cX0_callMany 104 = .ok (.invokestatic 89, 3) := by decide +kernel
theorem dX0_callMany_107 : decode cX0_callMany 107 = .ok (.ifCond .eq 27, 3) := by decide +kernel
theorem dX0_callMany_110 : decode cX0_callMany 110 = .ok (.aload_n 0, 1) := by decide +kernel
theorem dX0_callMany_111 : decode cX0_callMany 111 = .ok (.iconst 4, 1) := by decide +kernel
theorem dX0_callMany_112 : decode cX0_callMany 112 = .ok (.iload_n 1, 1) := by decide +kernel
theorem dX0_callMany_113 : decode cX0_callMany 113 = .ok (.iload 6, 2) := by decide +kernel
theorem dX0_callMany_115 : decode cX0_callMany 115 = .ok (.sipush 255, 3) := by decide +kernel
theorem dX0_callMany_118 : decode cX0_callMany 118 = .ok (.iload_n 3, 1) := by decide +kernel
theorem dX0_callMany_119 : decode cX0_callMany 119 = .ok (.invokevirtual 135, 3) := by decide +kernel
theorem dX0_callMany_122 : decode cX0_callMany 122 = .ok (.ifCond .eq 12, 3) := by decide +kernel
theorem dX0_callMany_125 : decode cX0_callMany 125 = .ok (.iload 5, 2) := by decide +kernel
theorem dX0_callMany_127 : decode cX0_callMany 127 = .ok (.iconst 1, 1) := by decide +kernel
theorem dX0_callMany_128 : decode cX0_callMany 128 = .ok (.iload 6, 2) := by decide +kernel
theorem dX0_callMany_130 : decode cX0_callMany 130 = .ok (.ishl, 1) := by decide +kernel
theorem dX0_callMany_131 : decode cX0_callMany 131 = .ok (.ior, 1) := by decide +kernel
theorem dX0_callMany_132 : decode cX0_callMany 132 = .ok (.istore 5, 2) := by decide +kernel
theorem dX0_callMany_134 : decode cX0_callMany 134 = .ok (.iinc 6 1, 3) := by decide +kernel
theorem dX0_callMany_137 : decode cX0_callMany 137 = .ok (.goto (-43), 3) := by decide +kernel
theorem dX0_callMany_140 : decode cX0_callMany 140 = .ok (.iload 5, 2) := by decide +kernel
theorem dX0_callMany_142 : decode cX0_callMany 142 = .ok (.ifCond .eq 14, 3) := by decide +kernel
theorem dX0_callMany_145 : decode cX0_callMany 145 = .ok (.aload_n 0, 1) := by decide +kernel
theorem dX0_callMany_146 : decode cX0_callMany 146 = .ok (.iload 5, 2) := by decide +kernel
theorem dX0_callMany_148 : decode cX0_callMany 148 = .ok (.iconst 1, 1) := by decide +kernel
theorem dX0_callMany_149 : decode cX0_callMany 149 = .ok (.iload_n 1, 1) := by decide +kernel
theorem dX0_callMany_150 : decode cX0_callMany 150 = .ok (.ishl, 1) := by decide +kernel
theorem dX0_callMany_151 : decode cX0_callMany 151 = .ok (.ior, 1) := by decide +kernel
theorem dX0_callMany_152 : decode cX0_callMany 152 = .ok (.iload_n 3, 1) := by decide +kernel
theorem dX0_callMany_153 : decode cX0_callMany 153 = .ok (.invokevirtual 143, 3) := by decide +kernel
theorem dX0_callMany_156 : decode cX0_callMany 156 = .ok (.iload 5, 2) := by decide +kernel
theorem dX0_callMany_158 : decode cX0_callMany 158 = .ok (.ireturn, 1) := by decide +kernel
set_option maxRecDepth 20000 in
theorem ggX0_answersNetCall_X0_hears : GoodIn wsX0_answersNetCall wsX0_hears := goodIn_r _ [6, 7, 8, 9, 10, 5, 11, 12, 13, 14, 15, 50, 51, 52, 53, 54, 55, 56, 57, 58, 59, 60, 61, 62, 63, 64, 65] (by decide +kernel) (by decide +kernel)
set_option maxRecDepth 20000 in
theorem gX0_answersNetCall_X0_hears : GoodIn wsX0_answersNetCall (wsV RX0 132 RX0 yX0_hears wsX0_hears) := goodIn_app (goodIn_of _ (by decide +kernel)) ggX0_answersNetCall_X0_hears
set_option maxRecDepth 20000 in
theorem ggX0_answersNetCall_X0_transmit : GoodIn wsX0_answersNetCall wsX0_transmit := goodIn_r _ [19, 20, 21, 22, 23, 24, 25, 26, 27, 1, 28, 14, 29, 30, 31, 32, 5, 33, 34, 35, 36, 37, 38, 39, 40, 41, 42, 43, 44, 45, 46, 47, 48, 49, 50, 51, 52, 53, 54, 55, 56, 57, 58, 59, 60, 61, 62, 63, 64, 65] (by decide +kernel) (by decide +kernel)
set_option maxRecDepth 20000 in
theorem gX0_answersNetCall_X0_transmit : GoodIn wsX0_answersNetCall (wsV RX0 135 RX0 yX0_transmit wsX0_transmit) := goodIn_app (goodIn_of _ (by decide +kernel)) ggX0_answersNetCall_X0_transmit
theorem dX0_answersNetCall_0 : decode cX0_answersNetCall 0 = .ok (.aload_n 0, 1) := by decide +kernel
theorem dX0_answersNetCall_1 : decode cX0_answersNetCall 1 = .ok (.iload_n 2, 1) := by decide +kernel
theorem dX0_answersNetCall_2 : decode cX0_answersNetCall 2 = .ok (.iload_n 3, 1) := by decide +kernel
theorem dX0_answersNetCall_3 : decode cX0_answersNetCall 3 = .ok (.invokevirtual 132, 3) := by decide +kernel
theorem dX0_answersNetCall_6 : decode cX0_answersNetCall 6 = .ok (.ifCond .eq 17, 3) := by decide +kernel
theorem dX0_answersNetCall_9 : decode cX0_answersNetCall 9 = .ok (.aload_n 0, 1) := by decide +kernel
theorem dX0_answersNetCall_10 : decode cX0_answersNetCall 10 = .ok (.iconst 2, 1) := by decide +kernel
theorem dX0_answersNetCall_11 : decode cX0_answersNetCall 11 = .ok (.iload_n 1, 1) := by decide +kernel
theorem dX0_answersNetCall_12 : decode cX0_answersNetCall 12 = .ok (.iload_n 2, 1) := by decide +kernel
theorem dX0_answersNetCall_13 : decode cX0_answersNetCall 13 = .ok (.sipush 255, 3) := by decide +kernel
theorem dX0_answersNetCall_16 : decode cX0_answersNetCall 16 = .ok (.iload_n 3, 1) := by decide +kernel
theorem dX0_answersNetCall_17 : decode cX0_answersNetCall 17 = .ok (.invokevirtual 135, 3) := by decide +kernel
theorem dX0_answersNetCall_20 : decode cX0_answersNetCall 20 = .ok (.ifCond .ne 5, 3) := by decide +kernel
theorem dX0_answersNetCall_23 : decode cX0_answersNetCall 23 = .ok (.iconst 0, 1) := by decide +kernel
theorem dX0_answersNetCall_24 : decode cX0_answersNetCall 24 = .ok (.ireturn, 1) := by decide +kernel
theorem dX0_answersNetCall_25 : decode cX0_answersNetCall 25 = .ok (.aload_n 0, 1) := by decide +kernel
theorem dX0_answersNetCall_26 : decode cX0_answersNetCall 26 = .ok (.dup, 1) := by decide +kernel
theorem dX0_answersNetCall_27 : decode cX0_answersNetCall 27 = .ok (.getfield 55, 3) := by decide +kernel
theorem dX0_answersNetCall_30 : decode cX0_answersNetCall 30 = .ok (.iconst 1, 1) := by decide +kernel
theorem dX0_answersNetCall_31 : decode cX0_answersNetCall 31 = .ok (.iadd, 1) := by decide +kernel
theorem dX0_answersNetCall_32 : decode cX0_answersNetCall 32 = .ok (.putfield 55, 3) := by decide +kernel
theorem dX0_answersNetCall_35 : decode cX0_answersNetCall 35 = .ok (.aload_n 0, 1) := by decide +kernel
theorem dX0_answersNetCall_36 : decode cX0_answersNetCall 36 = .ok (.iconst 3, 1) := by decide +kernel
theorem dX0_answersNetCall_37 : decode cX0_answersNetCall 37 = .ok (.iload_n 2, 1) := by decide +kernel
theorem dX0_answersNetCall_38 : decode cX0_answersNetCall 38 = .ok (.iload_n 1, 1) := by decide +kernel
theorem dX0_answersNetCall_39 : decode cX0_answersNetCall 39 = .ok (.iload_n 1, 1) := by decide +kernel
theorem dX0_answersNetCall_40 : decode cX0_answersNetCall 40 = .ok (.iload_n 3, 1) := by decide +kernel
theorem dX0_answersNetCall_41 : decode cX0_answersNetCall 41 = .ok (.invokevirtual 135, 3) := by decide +kernel
theorem dX0_answersNetCall_44 : decode cX0_answersNetCall 44 = .ok (.ireturn, 1) := by decide +kernel
set_option maxRecDepth 20000 in
theorem ggX0_joinLink_X1_contains : GoodIn wsX0_joinLink wsX1_contains := goodIn_r _ [5] (by decide +kernel) (by decide +kernel)
set_option maxRecDepth 20000 in
theorem gX0_joinLink_X1_contains_n89 : GoodIn wsX0_joinLink (wsX1_contains) := ggX0_joinLink_X1_contains
theorem dX0_joinLink_0 : decode cX0_joinLink 0 = .ok (.iconst 0, 1) := by decide +kernel
theorem dX0_joinLink_1 : decode cX0_joinLink 1 = .ok (.istore_n 3, 1) := by decide +kernel
theorem dX0_joinLink_2 : decode cX0_joinLink 2 = .ok (.iload_n 3, 1) := by decide +kernel
theorem dX0_joinLink_3 : decode cX0_joinLink 3 = .ok (.iconst 5, 1) := by decide +kernel
theorem dX0_joinLink_4 : decode cX0_joinLink 4 = .ok (.if_icmp .ge 31, 3) := by decide +kernel
theorem dX0_joinLink_7 : decode cX0_joinLink 7 = .ok (.iload_n 1, 1) := by decide +kernel
theorem dX0_joinLink_8 : decode cX0_joinLink 8 = .ok (.iload_n 3, 1) := by decide +kernel
theorem dX0_joinLink_9 : decode cX0_joinLink 9 = .ok (.invokestatic 89, 3) := by decide +kernel
theorem dX0_joinLink_12 : decode cX0_joinLink 12 = .ok (.ifCond .eq 17, 3) := by decide +kernel
theorem dX0_joinLink_15 : decode cX0_joinLink 15 = .ok (.aload_n 0, 1) := by decide +kernel
theorem dX0_joinLink_16 : decode cX0_joinLink 16 = .ok (.getfield 31, 3) := by decide +kernel
theorem dX0_joinLink_19 : decode cX0_joinLink 19 = .ok (.iload_n 3, 1) := by decide +kernel
theorem dX0_joinLink_20 : decode cX0_joinLink 20 = .ok (.iload_n 1, 1) := by decide +kernel
theorem dX0_joinLink_21 : decode cX0_joinLink 21 = .ok (.iastore, 1) := by decide +kernel
theorem dX0_joinLink_22 : decode cX0_joinLink 22 = .ok (.aload_n 0, 1) := by decide +kernel
theorem dX0_joinLink_23 : decode cX0_joinLink 23 = .ok (.getfield 34, 3) := by decide +kernel
theorem dX0_joinLink_26 : decode cX0_joinLink 26 = .ok (.iload_n 3, 1) := by decide +kernel
theorem dX0_joinLink_27 : decode cX0_joinLink 27 = .ok (.iload_n 2, 1) := by decide +kernel
theorem dX0_joinLink_28 : decode cX0_joinLink 28 = .ok (.iastore, 1) := by decide +kernel
theorem dX0_joinLink_29 : decode cX0_joinLink 29 = .ok (.iinc 3 1, 3) := by decide +kernel
theorem dX0_joinLink_32 : decode cX0_joinLink 32 = .ok (.goto (-30), 3) := by decide +kernel
theorem dX0_joinLink_35 : decode cX0_joinLink 35 = .ok (.return_, 1) := by decide +kernel
theorem dX0_dropLink_0 : decode cX0_dropLink 0 = .ok (.aload_n 0, 1) := by decide +kernel
theorem dX0_dropLink_1 : decode cX0_dropLink 1 = .ok (.getfield 31, 3) := by decide +kernel
theorem dX0_dropLink_4 : decode cX0_dropLink 4 = .ok (.iload_n 1, 1) := by decide +kernel
theorem dX0_dropLink_5 : decode cX0_dropLink 5 = .ok (.iconst 0, 1) := by decide +kernel
theorem dX0_dropLink_6 : decode cX0_dropLink 6 = .ok (.iastore, 1) := by decide +kernel
theorem dX0_dropLink_7 : decode cX0_dropLink 7 = .ok (.aload_n 0, 1) := by decide +kernel
theorem dX0_dropLink_8 : decode cX0_dropLink 8 = .ok (.getfield 34, 3) := by decide +kernel
theorem dX0_dropLink_11 : decode cX0_dropLink 11 = .ok (.iload_n 1, 1) := by decide +kernel
theorem dX0_dropLink_12 : decode cX0_dropLink 12 = .ok (.iconst (-1), 1) := by decide +kernel
theorem dX0_dropLink_13 : decode cX0_dropLink 13 = .ok (.iastore, 1) := by decide +kernel
theorem dX0_dropLink_14 : decode cX0_dropLink 14 = .ok (.return_, 1) := by decide +kernel
set_option maxRecDepth 20000 in
theorem ggX0_leaveLink_J6_bitCount_0f7a4 : GoodIn wsX0_leaveLink wsJ6_bitCount_0f7a4 := goodIn_r _ [5, 6, 7, 8] (by decide +kernel) (by decide +kernel)
set_option maxRecDepth 20000 in
theorem gX0_leaveLink_J6_bitCount_0f7a4 : GoodIn wsX0_leaveLink (va_wsS RX0 73 yJ6_bitCount_0f7a4 wsJ6_bitCount_0f7a4) := goodIn_app (goodIn_of _ (by decide +kernel)) ggX0_leaveLink_J6_bitCount_0f7a4
set_option maxRecDepth 20000 in
theorem ggX0_leaveLink_X0_dropLink : GoodIn wsX0_leaveLink wsX0_dropLink := goodIn_r _ [13, 1, 14, 18, 19, 20, 21, 22, 23, 24, 25, 26, 27, 28, 29, 30, 31, 32, 33] (by decide +kernel) (by decide +kernel)
set_option maxRecDepth 20000 in
theorem gX0_leaveLink_X0_dropLink : GoodIn wsX0_leaveLink (wsV RX0 152 RX0 yX0_dropLink wsX0_dropLink) := goodIn_app (goodIn_of _ (by decide +kernel)) ggX0_leaveLink_X0_dropLink
set_option maxRecDepth 20000 in
theorem ggX0_leaveLink_X1_contains : GoodIn wsX0_leaveLink wsX1_contains := goodIn_r _ [17] (by decide +kernel) (by decide +kernel)
set_option maxRecDepth 20000 in
theorem gX0_leaveLink_X1_contains_n89 : GoodIn wsX0_leaveLink (wsX1_contains) := ggX0_leaveLink_X1_contains
theorem dX0_leaveLink_0 : decode cX0_leaveLink 0 = .ok (.aload_n 0, 1) := by decide +kernel
theorem dX0_leaveLink_1 : decode cX0_leaveLink 1 = .ok (.getfield 31, 3) := by decide +kernel
theorem dX0_leaveLink_4 : decode cX0_leaveLink 4 = .ok (.iload_n 1, 1) := by decide +kernel
theorem dX0_leaveLink_5 : decode cX0_leaveLink 5 = .ok (.iaload, 1) := by decide +kernel
theorem dX0_leaveLink_6 : decode cX0_leaveLink 6 = .ok (.iconst 1, 1) := by decide +kernel
theorem dX0_leaveLink_7 : decode cX0_leaveLink 7 = .ok (.iload_n 1, 1) := by decide +kernel
theorem dX0_leaveLink_8 : decode cX0_leaveLink 8 = .ok (.ishl, 1) := by decide +kernel
theorem dX0_leaveLink_9 : decode cX0_leaveLink 9 = .ok (.iconst (-1), 1) := by decide +kernel
theorem dX0_leaveLink_10 : decode cX0_leaveLink 10 = .ok (.ixor, 1) := by decide +kernel
theorem dX0_leaveLink_11 : decode cX0_leaveLink 11 = .ok (.iand, 1) := by decide +kernel
theorem dX0_leaveLink_12 : decode cX0_leaveLink 12 = .ok (.istore_n 2, 1) := by decide +kernel
theorem dX0_leaveLink_13 : decode cX0_leaveLink 13 = .ok (.iload_n 2, 1) := by decide +kernel
theorem dX0_leaveLink_14 : decode cX0_leaveLink 14 = .ok (.invokestatic 73, 3) := by decide +kernel
theorem dX0_leaveLink_17 : decode cX0_leaveLink 17 = .ok (.iconst 2, 1) := by decide +kernel
theorem dX0_leaveLink_18 : decode cX0_leaveLink 18 = .ok (.if_icmp .ge 7, 3) := by decide +kernel
theorem dX0_leaveLink_21 : decode cX0_leaveLink 21 = .ok (.iconst 1, 1) := by decide +kernel
theorem dX0_leaveLink_22 : decode cX0_leaveLink 22 = .ok (.goto 4, 3) := by decide +kernel
theorem dX0_leaveLink_25 : decode cX0_leaveLink 25 = .ok (.iconst 0, 1) := by decide +kernel
theorem dX0_leaveLink_26 : decode cX0_leaveLink 26 = .ok (.istore_n 3, 1) := by decide +kernel
theorem dX0_leaveLink_27 : decode cX0_leaveLink 27 = .ok (.aload_n 0, 1) := by decide +kernel
theorem dX0_leaveLink_28 : decode cX0_leaveLink 28 = .ok (.iload_n 1, 1) := by decide +kernel
theorem dX0_leaveLink_29 : decode cX0_leaveLink 29 = .ok (.invokevirtual 152, 3) := by decide +kernel
theorem dX0_leaveLink_32 : decode cX0_leaveLink 32 = .ok (.iconst 0, 1) := by decide +kernel
theorem dX0_leaveLink_33 : decode cX0_leaveLink 33 = .ok (.istore 4, 2) := by decide +kernel
theorem dX0_leaveLink_35 : decode cX0_leaveLink 35 = .ok (.iload 4, 2) := by decide +kernel
theorem dX0_leaveLink_37 : decode cX0_leaveLink 37 = .ok (.iconst 5, 1) := by decide +kernel
theorem dX0_leaveLink_38 : decode cX0_leaveLink 38 = .ok (.if_icmp .ge 39, 3) := by decide +kernel
theorem dX0_leaveLink_41 : decode cX0_leaveLink 41 = .ok (.iload_n 2, 1) := by decide +kernel
theorem dX0_leaveLink_42 : decode cX0_leaveLink 42 = .ok (.iload 4, 2) := by decide +kernel
theorem dX0_leaveLink_44 : decode cX0_leaveLink 44 = .ok (.invokestatic 89, 3) := by decide +kernel
theorem dX0_leaveLink_47 : decode cX0_leaveLink 47 = .ok (.ifCond .eq 24, 3) := by decide +kernel
theorem dX0_leaveLink_50 : decode cX0_leaveLink 50 = .ok (.iload_n 3, 1) := by decide +kernel
theorem dX0_leaveLink_51 : decode cX0_leaveLink 51 = .ok (.ifCond .eq 12, 3) := by decide +kernel
theorem dX0_leaveLink_54 : decode cX0_leaveLink 54 = .ok (.aload_n 0, 1) := by decide +kernel
theorem dX0_leaveLink_55 : decode cX0_leaveLink 55 = .ok (.iload 4, 2) := by decide +kernel
theorem dX0_leaveLink_57 : decode cX0_leaveLink 57 = .ok (.invokevirtual 152, 3) := by decide +kernel
theorem dX0_leaveLink_60 : decode cX0_leaveLink 60 = .ok (.goto 11, 3) := by decide +kernel
theorem dX0_leaveLink_63 : decode cX0_leaveLink 63 = .ok (.aload_n 0, 1) := by decide +kernel
theorem dX0_leaveLink_64 : decode cX0_leaveLink 64 = .ok (.getfield 31, 3) := by decide +kernel
theorem dX0_leaveLink_67 : decode cX0_leaveLink 67 = .ok (.iload 4, 2) := by decide +kernel
theorem dX0_leaveLink_69 : decode cX0_leaveLink 69 = .ok (.iload_n 2, 1) := by decide +kernel
theorem dX0_leaveLink_70 : decode cX0_leaveLink 70 = .ok (.iastore, 1) := by decide +kernel
theorem dX0_leaveLink_71 : decode cX0_leaveLink 71 = .ok (.iinc 4 1, 3) := by decide +kernel
theorem dX0_leaveLink_74 : decode cX0_leaveLink 74 = .ok (.goto (-39), 3) := by decide +kernel
theorem dX0_leaveLink_77 : decode cX0_leaveLink 77 = .ok (.iload_n 3, 1) := by decide +kernel
theorem dX0_leaveLink_78 : decode cX0_leaveLink 78 = .ok (.ifCond .eq 7, 3) := by decide +kernel
theorem dX0_leaveLink_81 : decode cX0_leaveLink 81 = .ok (.iconst 0, 1) := by decide +kernel
theorem dX0_leaveLink_82 : decode cX0_leaveLink 82 = .ok (.goto 4, 3) := by decide +kernel
theorem dX0_leaveLink_85 : decode cX0_leaveLink 85 = .ok (.iload_n 2, 1) := by decide +kernel
theorem dX0_leaveLink_86 : decode cX0_leaveLink 86 = .ok (.ireturn, 1) := by decide +kernel
set_option maxRecDepth 20000 in
theorem ggX0_mixCounters_X1_mix : GoodIn wsX0_mixCounters wsX1_mix := goodIn_r _ [12, 13] (by decide +kernel) (by decide +kernel)
set_option maxRecDepth 20000 in
theorem gX0_mixCounters_X1_mix_n156 : GoodIn wsX0_mixCounters (wsX1_mix) := ggX0_mixCounters_X1_mix
theorem dX0_mixCounters_0 : decode cX0_mixCounters 0 = .ok (.lload_n 1, 1) := by decide +kernel
theorem dX0_mixCounters_1 : decode cX0_mixCounters 1 = .ok (.aload_n 0, 1) := by decide +kernel
theorem dX0_mixCounters_2 : decode cX0_mixCounters 2 = .ok (.getfield 55, 3) := by decide +kernel
theorem dX0_mixCounters_5 : decode cX0_mixCounters 5 = .ok (.i2l, 1) := by decide +kernel
theorem dX0_mixCounters_6 : decode cX0_mixCounters 6 = .ok (.invokestatic 156, 3) := by decide +kernel
theorem dX0_mixCounters_9 : decode cX0_mixCounters 9 = .ok (.lstore_n 3, 1) := by decide +kernel
theorem dX0_mixCounters_10 : decode cX0_mixCounters 10 = .ok (.lload_n 3, 1) := by decide +kernel
theorem dX0_mixCounters_11 : decode cX0_mixCounters 11 = .ok (.aload_n 0, 1) := by decide +kernel
theorem dX0_mixCounters_12 : decode cX0_mixCounters 12 = .ok (.getfield 9, 3) := by decide +kernel
theorem dX0_mixCounters_15 : decode cX0_mixCounters 15 = .ok (.i2l, 1) := by decide +kernel
theorem dX0_mixCounters_16 : decode cX0_mixCounters 16 = .ok (.invokestatic 156, 3) := by decide +kernel
theorem dX0_mixCounters_19 : decode cX0_mixCounters 19 = .ok (.lstore_n 3, 1) := by decide +kernel
theorem dX0_mixCounters_20 : decode cX0_mixCounters 20 = .ok (.lload_n 3, 1) := by decide +kernel
theorem dX0_mixCounters_21 : decode cX0_mixCounters 21 = .ok (.aload_n 0, 1) := by decide +kernel
theorem dX0_mixCounters_22 : decode cX0_mixCounters 22 = .ok (.getfield 15, 3) := by decide +kernel
theorem dX0_mixCounters_25 : decode cX0_mixCounters 25 = .ok (.i2l, 1) := by decide +kernel
theorem dX0_mixCounters_26 : decode cX0_mixCounters 26 = .ok (.invokestatic 156, 3) := by decide +kernel
theorem dX0_mixCounters_29 : decode cX0_mixCounters 29 = .ok (.lstore_n 3, 1) := by decide +kernel
theorem dX0_mixCounters_30 : decode cX0_mixCounters 30 = .ok (.lload_n 3, 1) := by decide +kernel
theorem dX0_mixCounters_31 : decode cX0_mixCounters 31 = .ok (.aload_n 0, 1) := by decide +kernel
theorem dX0_mixCounters_32 : decode cX0_mixCounters 32 = .ok (.getfield 58, 3) := by decide +kernel
theorem dX0_mixCounters_35 : decode cX0_mixCounters 35 = .ok (.i2l, 1) := by decide +kernel
theorem dX0_mixCounters_36 : decode cX0_mixCounters 36 = .ok (.invokestatic 156, 3) := by decide +kernel
theorem dX0_mixCounters_39 : decode cX0_mixCounters 39 = .ok (.lstore_n 3, 1) := by decide +kernel
theorem dX0_mixCounters_40 : decode cX0_mixCounters 40 = .ok (.lload_n 3, 1) := by decide +kernel
theorem dX0_mixCounters_41 : decode cX0_mixCounters 41 = .ok (.aload_n 0, 1) := by decide +kernel
theorem dX0_mixCounters_42 : decode cX0_mixCounters 42 = .ok (.getfield 61, 3) := by decide +kernel
theorem dX0_mixCounters_45 : decode cX0_mixCounters 45 = .ok (.i2l, 1) := by decide +kernel
theorem dX0_mixCounters_46 : decode cX0_mixCounters 46 = .ok (.invokestatic 156, 3) := by decide +kernel
theorem dX0_mixCounters_49 : decode cX0_mixCounters 49 = .ok (.lstore_n 3, 1) := by decide +kernel
theorem dX0_mixCounters_50 : decode cX0_mixCounters 50 = .ok (.lload_n 3, 1) := by decide +kernel
theorem dX0_mixCounters_51 : decode cX0_mixCounters 51 = .ok (.aload_n 0, 1) := by decide +kernel
theorem dX0_mixCounters_52 : decode cX0_mixCounters 52 = .ok (.getfield 64, 3) := by decide +kernel
theorem dX0_mixCounters_55 : decode cX0_mixCounters 55 = .ok (.i2l, 1) := by decide +kernel
theorem dX0_mixCounters_56 : decode cX0_mixCounters 56 = .ok (.invokestatic 156, 3) := by decide +kernel
theorem dX0_mixCounters_59 : decode cX0_mixCounters 59 = .ok (.lstore_n 3, 1) := by decide +kernel
theorem dX0_mixCounters_60 : decode cX0_mixCounters 60 = .ok (.lload_n 3, 1) := by decide +kernel
theorem dX0_mixCounters_61 : decode cX0_mixCounters 61 = .ok (.aload_n 0, 1) := by decide +kernel
theorem dX0_mixCounters_62 : decode cX0_mixCounters 62 = .ok (.getfield 18, 3) := by decide +kernel
theorem dX0_mixCounters_65 : decode cX0_mixCounters 65 = .ok (.i2l, 1) := by decide +kernel
theorem dX0_mixCounters_66 : decode cX0_mixCounters 66 = .ok (.invokestatic 156, 3) := by decide +kernel
theorem dX0_mixCounters_69 : decode cX0_mixCounters 69 = .ok (.lstore_n 3, 1) := by decide +kernel
theorem dX0_mixCounters_70 : decode cX0_mixCounters 70 = .ok (.lload_n 3, 1) := by decide +kernel
theorem dX0_mixCounters_71 : decode cX0_mixCounters 71 = .ok (.aload_n 0, 1) := by decide +kernel
theorem dX0_mixCounters_72 : decode cX0_mixCounters 72 = .ok (.getfield 21, 3) := by decide +kernel
theorem dX0_mixCounters_75 : decode cX0_mixCounters 75 = .ok (.i2l, 1) := by decide +kernel
theorem dX0_mixCounters_76 : decode cX0_mixCounters 76 = .ok (.invokestatic 156, 3) := by decide +kernel
theorem dX0_mixCounters_79 : decode cX0_mixCounters 79 = .ok (.lstore_n 3, 1) := by decide +kernel
theorem dX0_mixCounters_80 : decode cX0_mixCounters 80 = .ok (.lload_n 3, 1) := by decide +kernel
theorem dX0_mixCounters_81 : decode cX0_mixCounters 81 = .ok (.aload_n 0, 1) := by decide +kernel
theorem dX0_mixCounters_82 : decode cX0_mixCounters 82 = .ok (.getfield 24, 3) := by decide +kernel
theorem dX0_mixCounters_85 : decode cX0_mixCounters 85 = .ok (.i2l, 1) := by decide +kernel
theorem dX0_mixCounters_86 : decode cX0_mixCounters 86 = .ok (.invokestatic 156, 3) := by decide +kernel
theorem dX0_mixCounters_89 : decode cX0_mixCounters 89 = .ok (.lreturn, 1) := by decide +kernel
set_option maxRecDepth 20000 in
theorem ggX0_mixStations_X1_mix : GoodIn wsX0_mixStations wsX1_mix := goodIn_r _ [6, 7] (by decide +kernel) (by decide +kernel)
set_option maxRecDepth 20000 in
theorem gX0_mixStations_X1_mix_n156 : GoodIn wsX0_mixStations (wsX1_mix) := ggX0_mixStations_X1_mix
theorem dX0_mixStations_0 : decode cX0_mixStations 0 = .ok (.lload_n 1, 1) := by decide +kernel
theorem dX0_mixStations_1 : decode cX0_mixStations 1 = .ok (.lstore_n 3, 1) := by decide +kernel
theorem dX0_mixStations_2 : decode cX0_mixStations 2 = .ok (.iconst 0, 1) := by decide +kernel
theorem dX0_mixStations_3 : decode cX0_mixStations 3 = .ok (.istore 5, 2) := by decide +kernel
theorem dX0_mixStations_5 : decode cX0_mixStations 5 = .ok (.iload 5, 2) := by decide +kernel
theorem dX0_mixStations_7 : decode cX0_mixStations 7 = .ok (.iconst 5, 1) := by decide +kernel
theorem dX0_mixStations_8 : decode cX0_mixStations 8 = .ok (.if_icmp .ge 48, 3) := by decide +kernel
theorem dX0_mixStations_11 : decode cX0_mixStations 11 = .ok (.lload_n 3, 1) := by decide +kernel
theorem dX0_mixStations_12 : decode cX0_mixStations 12 = .ok (.aload_n 0, 1) := by decide +kernel
theorem dX0_mixStations_13 : decode cX0_mixStations 13 = .ok (.getfield 27, 3) := by decide +kernel
theorem dX0_mixStations_16 : decode cX0_mixStations 16 = .ok (.iload 5, 2) := by decide +kernel
theorem dX0_mixStations_18 : decode cX0_mixStations 18 = .ok (.iaload, 1) := by decide +kernel
theorem dX0_mixStations_19 : decode cX0_mixStations 19 = .ok (.i2l, 1) := by decide +kernel
theorem dX0_mixStations_20 : decode cX0_mixStations 20 = .ok (.invokestatic 156, 3) := by decide +kernel
theorem dX0_mixStations_23 : decode cX0_mixStations 23 = .ok (.lstore_n 3, 1) := by decide +kernel
theorem dX0_mixStations_24 : decode cX0_mixStations 24 = .ok (.lload_n 3, 1) := by decide +kernel
theorem dX0_mixStations_25 : decode cX0_mixStations 25 = .ok (.aload_n 0, 1) := by decide +kernel
theorem dX0_mixStations_26 : decode cX0_mixStations 26 = .ok (.getfield 31, 3) := by decide +kernel
theorem dX0_mixStations_29 : decode cX0_mixStations 29 = .ok (.iload 5, 2) := by decide +kernel
theorem dX0_mixStations_31 : decode cX0_mixStations 31 = .ok (.iaload, 1) := by decide +kernel
theorem dX0_mixStations_32 : decode cX0_mixStations 32 = .ok (.i2l, 1) := by decide +kernel
theorem dX0_mixStations_33 : decode cX0_mixStations 33 = .ok (.invokestatic 156, 3) := by decide +kernel
theorem dX0_mixStations_36 : decode cX0_mixStations 36 = .ok (.lstore_n 3, 1) := by decide +kernel
theorem dX0_mixStations_37 : decode cX0_mixStations 37 = .ok (.lload_n 3, 1) := by decide +kernel
theorem dX0_mixStations_38 : decode cX0_mixStations 38 = .ok (.aload_n 0, 1) := by decide +kernel
theorem dX0_mixStations_39 : decode cX0_mixStations 39 = .ok (.getfield 34, 3) := by decide +kernel
theorem dX0_mixStations_42 : decode cX0_mixStations 42 = .ok (.iload 5, 2) := by decide +kernel
theorem dX0_mixStations_44 : decode cX0_mixStations 44 = .ok (.iaload, 1) := by decide +kernel
theorem dX0_mixStations_45 : decode cX0_mixStations 45 = .ok (.i2l, 1) := by decide +kernel
theorem dX0_mixStations_46 : decode cX0_mixStations 46 = .ok (.invokestatic 156, 3) := by decide +kernel
theorem dX0_mixStations_49 : decode cX0_mixStations 49 = .ok (.lstore_n 3, 1) := by decide +kernel
theorem dX0_mixStations_50 : decode cX0_mixStations 50 = .ok (.iinc 5 1, 3) := by decide +kernel
theorem dX0_mixStations_53 : decode cX0_mixStations 53 = .ok (.goto (-48), 3) := by decide +kernel
theorem dX0_mixStations_56 : decode cX0_mixStations 56 = .ok (.lload_n 3, 1) := by decide +kernel
theorem dX0_mixStations_57 : decode cX0_mixStations 57 = .ok (.lreturn, 1) := by decide +kernel
set_option maxRecDepth 20000 in
theorem ggX0_mixScores_X1_cell : GoodIn wsX0_mixScores wsX1_cell := goodIn_r _ [4] (by decide +kernel) (by decide +kernel)
set_option maxRecDepth 20000 in
theorem gX0_mixScores_X1_cell_n103 : GoodIn wsX0_mixScores (wsX1_cell) := ggX0_mixScores_X1_cell
set_option maxRecDepth 20000 in
theorem ggX0_mixScores_X1_mix : GoodIn wsX0_mixScores wsX1_mix := goodIn_r _ [6, 7] (by decide +kernel) (by decide +kernel)
set_option maxRecDepth 20000 in
theorem gX0_mixScores_X1_mix_n156 : GoodIn wsX0_mixScores (wsX1_mix) := ggX0_mixScores_X1_mix
set_option maxRecDepth 20000 in
theorem ggX0_mixScores_X0_agedScore : GoodIn wsX0_mixScores wsX0_agedScore := goodIn_r _ [12, 1, 13, 14, 15, 16, 17, 18, 19, 2, 3, 4, 20, 21, 22, 23, 24, 25, 26, 27, 28, 29, 30, 31, 32, 33, 34, 35] (by decide +kernel) (by decide +kernel)
set_option maxRecDepth 20000 in
theorem gX0_mixScores_X0_agedScore : GoodIn wsX0_mixScores (wsV RX0 113 RX0 yX0_agedScore wsX0_agedScore) := goodIn_app (goodIn_of _ (by decide +kernel)) ggX0_mixScores_X0_agedScore
theorem dX0_mixScores_0 : decode cX0_mixScores 0 = .ok (.lload_n 1, 1) := by decide +kernel
theorem dX0_mixScores_1 : decode cX0_mixScores 1 = .ok (.lstore_n 3, 1) := by decide +kernel
theorem dX0_mixScores_2 : decode cX0_mixScores 2 = .ok (.iconst 0, 1) := by decide +kernel
theorem dX0_mixScores_3 : decode cX0_mixScores 3 = .ok (.istore 5, 2) := by decide +kernel
theorem dX0_mixScores_5 : decode cX0_mixScores 5 = .ok (.iload 5, 2) := by decide +kernel
theorem dX0_mixScores_7 : decode cX0_mixScores 7 = .ok (.iconst 5, 1) := by decide +kernel
theorem dX0_mixScores_8 : decode cX0_mixScores 8 = .ok (.if_icmp .ge 83, 3) := by decide +kernel
theorem dX0_mixScores_11 : decode cX0_mixScores 11 = .ok (.iconst 0, 1) := by decide +kernel
theorem dX0_mixScores_12 : decode cX0_mixScores 12 = .ok (.istore 6, 2) := by decide +kernel
theorem dX0_mixScores_14 : decode cX0_mixScores 14 = .ok (.iload 6, 2) := by decide +kernel
theorem dX0_mixScores_16 : decode cX0_mixScores 16 = .ok (.iconst 5, 1) := by decide +kernel
theorem dX0_mixScores_17 : decode cX0_mixScores 17 = .ok (.if_icmp .ge 68, 3) := by decide +kernel
theorem dX0_mixScores_20 : decode cX0_mixScores 20 = .ok (.iconst 0, 1) := by decide +kernel
theorem dX0_mixScores_21 : decode cX0_mixScores 21 = .ok (.istore 7, 2) := by decide +kernel
theorem dX0_mixScores_23 : decode cX0_mixScores 23 = .ok (.iload 7, 2) := by decide +kernel
theorem dX0_mixScores_25 : decode cX0_mixScores 25 = .ok (.bipush 8, 2) := by decide +kernel
theorem dX0_mixScores_27 : decode cX0_mixScores 27 = .ok (.if_icmp .ge 52, 3) := by decide +kernel
theorem dX0_mixScores_30 : decode cX0_mixScores 30 = .ok (.iload 6, 2) := by decide +kernel
theorem dX0_mixScores_32 : decode cX0_mixScores 32 = .ok (.iload 5, 2) := by decide +kernel
theorem dX0_mixScores_34 : decode cX0_mixScores 34 = .ok (.if_icmp .eq 45, 3) := by decide +kernel
theorem dX0_mixScores_37 : decode cX0_mixScores 37 = .ok (.lload_n 3, 1) := by decide +kernel
theorem dX0_mixScores_38 : decode cX0_mixScores 38 = .ok (.aload_n 0, 1) := by decide +kernel
theorem dX0_mixScores_39 : decode cX0_mixScores 39 = .ok (.getfield 40, 3) := by decide +kernel
theorem dX0_mixScores_42 : decode cX0_mixScores 42 = .ok (.iload 5, 2) := by decide +kernel
theorem dX0_mixScores_44 : decode cX0_mixScores 44 = .ok (.iload 6, 2) := by decide +kernel
theorem dX0_mixScores_46 : decode cX0_mixScores 46 = .ok (.iload 7, 2) := by decide +kernel
theorem dX0_mixScores_48 : decode cX0_mixScores 48 = .ok (.invokestatic 103, 3) := by decide +kernel
theorem dX0_mixScores_51 : decode cX0_mixScores 51 = .ok (.iaload, 1) := by decide +kernel
theorem dX0_mixScores_52 : decode cX0_mixScores 52 = .ok (.i2l, 1) := by decide +kernel
theorem dX0_mixScores_53 : decode cX0_mixScores 53 = .ok (.invokestatic 156, 3) := by decide +kernel
theorem dX0_mixScores_56 : decode cX0_mixScores 56 = .ok (.lstore_n 3, 1) := by decide +kernel
theorem dX0_mixScores_57 : decode cX0_mixScores 57 = .ok (.lload_n 3, 1) := by decide +kernel
theorem dX0_mixScores_58 : decode cX0_mixScores 58 = .ok (.aload_n 0, 1) := by decide +kernel
theorem dX0_mixScores_59 : decode cX0_mixScores 59 = .ok (.iload 5, 2) := by decide +kernel
theorem dX0_mixScores_61 : decode cX0_mixScores 61 = .ok (.iload 6, 2) := by decide +kernel
theorem dX0_mixScores_63 : decode cX0_mixScores 63 = .ok (.iload 7, 2) := by decide +kernel
theorem dX0_mixScores_65 : decode cX0_mixScores 65 = .ok (.invokevirtual 113, 3) := by decide +kernel
theorem dX0_mixScores_68 : decode cX0_mixScores 68 = .ok (.i2l, 1) := by decide +kernel
theorem dX0_mixScores_69 : decode cX0_mixScores 69 = .ok (.invokestatic 156, 3) := by decide +kernel
theorem dX0_mixScores_72 : decode cX0_mixScores 72 = .ok (.lstore_n 3, 1) := by decide +kernel
theorem dX0_mixScores_73 : decode cX0_mixScores 73 = .ok (.iinc 7 1, 3) := by decide +kernel
theorem dX0_mixScores_76 : decode cX0_mixScores 76 = .ok (.goto (-53), 3) := by decide +kernel
theorem dX0_mixScores_79 : decode cX0_mixScores 79 = .ok (.iinc 6 1, 3) := by decide +kernel
theorem dX0_mixScores_82 : decode cX0_mixScores 82 = .ok (.goto (-68), 3) := by decide +kernel
theorem dX0_mixScores_85 : decode cX0_mixScores 85 = .ok (.iinc 5 1, 3) := by decide +kernel
theorem dX0_mixScores_88 : decode cX0_mixScores 88 = .ok (.goto (-83), 3) := by decide +kernel
theorem dX0_mixScores_91 : decode cX0_mixScores 91 = .ok (.lload_n 3, 1) := by decide +kernel
theorem dX0_mixScores_92 : decode cX0_mixScores 92 = .ok (.lreturn, 1) := by decide +kernel
set_option maxRecDepth 20000 in
theorem ggX1_init_X0_init : GoodIn wsX1_init wsX0_init := goodIn_r _ [11, 12, 2, 3, 13, 14, 15, 16, 17, 18, 19, 20, 21, 22, 23, 24, 25, 26, 27, 28, 29, 30, 31, 32, 33, 34, 35, 36, 37, 38, 39, 40, 41, 42, 43, 44, 45] (by decide +kernel) (by decide +kernel)
set_option maxRecDepth 20000 in
theorem gX1_init_X0_init : GoodIn wsX1_init (wsX0_init) := ggX1_init_X0_init
theorem dX1_init_0 : decode cX1_init 0 = .ok (.aload_n 0, 1) := by decide +kernel
theorem dX1_init_1 : decode cX1_init 1 = .ok (.invokespecial 3, 3) := by decide +kernel
theorem dX1_init_4 : decode cX1_init 4 = .ok (.aload_n 0, 1) := by decide +kernel
theorem dX1_init_5 : decode cX1_init 5 = .ok (.new 9, 3) := by decide +kernel
theorem dX1_init_8 : decode cX1_init 8 = .ok (.dup, 1) := by decide +kernel
theorem dX1_init_9 : decode cX1_init 9 = .ok (.invokespecial 11, 3) := by decide +kernel
theorem dX1_init_12 : decode cX1_init 12 = .ok (.putfield 12, 3) := by decide +kernel
theorem dX1_init_15 : decode cX1_init 15 = .ok (.aload_n 0, 1) := by decide +kernel
theorem dX1_init_16 : decode cX1_init 16 = .ok (.iconst 4, 1) := by decide +kernel
theorem dX1_init_17 : decode cX1_init 17 = .ok (.anewarray 9, 3) := by decide +kernel
theorem dX1_init_20 : decode cX1_init 20 = .ok (.putfield 16, 3) := by decide +kernel
theorem dX1_init_23 : decode cX1_init 23 = .ok (.iconst 0, 1) := by decide +kernel
theorem dX1_init_24 : decode cX1_init 24 = .ok (.istore_n 1, 1) := by decide +kernel
theorem dX1_init_25 : decode cX1_init 25 = .ok (.iload_n 1, 1) := by decide +kernel
theorem dX1_init_26 : decode cX1_init 26 = .ok (.iconst 4, 1) := by decide +kernel
theorem dX1_init_27 : decode cX1_init 27 = .ok (.if_icmp .ge 22, 3) := by decide +kernel
theorem dX1_init_30 : decode cX1_init 30 = .ok (.aload_n 0, 1) := by decide +kernel
theorem dX1_init_31 : decode cX1_init 31 = .ok (.getfield 16, 3) := by decide +kernel
theorem dX1_init_34 : decode cX1_init 34 = .ok (.iload_n 1, 1) := by decide +kernel
theorem dX1_init_35 : decode cX1_init 35 = .ok (.new 9, 3) := by decide +kernel
theorem dX1_init_38 : decode cX1_init 38 = .ok (.dup, 1) := by decide +kernel
theorem dX1_init_39 : decode cX1_init 39 = .ok (.invokespecial 11, 3) := by decide +kernel
theorem dX1_init_42 : decode cX1_init 42 = .ok (.aastore, 1) := by decide +kernel
theorem dX1_init_43 : decode cX1_init 43 = .ok (.iinc 1 1, 3) := by decide +kernel
theorem dX1_init_46 : decode cX1_init 46 = .ok (.goto (-21), 3) := by decide +kernel
theorem dX1_init_49 : decode cX1_init 49 = .ok (.return_, 1) := by decide +kernel
set_option maxRecDepth 20000 in
theorem ggX1_setScan_X1_isStation : GoodIn wsX1_setScan wsX1_isStation := goodIn_r _ [6] (by decide +kernel) (by decide +kernel)
set_option maxRecDepth 20000 in
theorem gX1_setScan_X1_isStation : GoodIn wsX1_setScan (va_wsS RX1 20 yX1_isStation wsX1_isStation) := goodIn_app (goodIn_of _ (by decide +kernel)) ggX1_setScan_X1_isStation
set_option maxRecDepth 20000 in
theorem ggX1_setScan_X1_countInvalid : GoodIn wsX1_setScan wsX1_countInvalid := goodIn_r _ [10, 11, 47, 48, 49, 50, 51, 52] (by decide +kernel) (by decide +kernel)
set_option maxRecDepth 20000 in
theorem gX1_setScan_X1_countInvalid : GoodIn wsX1_setScan (wsV RX1 24 RX1 yX1_countInvalid wsX1_countInvalid) := goodIn_app (goodIn_of _ (by decide +kernel)) ggX1_setScan_X1_countInvalid
set_option maxRecDepth 20000 in
theorem ggX1_setScan_X1_saveState : GoodIn wsX1_setScan wsX1_saveState := goodIn_r _ [15, 16, 17, 1, 18, 19, 20, 21, 22, 23, 24, 25, 26, 27, 28, 29, 30, 31, 32, 33, 34, 35, 36, 37, 38, 39, 40, 41, 42, 43, 44, 45, 46, 47, 48, 49, 50, 51, 52, 53, 54, 55, 56, 57, 58, 59, 60, 61, 62, 63, 64, 65, 66, 67, 68] (by decide +kernel) (by decide +kernel)
set_option maxRecDepth 20000 in
theorem gX1_setScan_X1_saveState : GoodIn wsX1_setScan (wsV RX1 28 RX1 yX1_saveState wsX1_saveState) := goodIn_app (goodIn_of _ (by decide +kernel)) ggX1_setScan_X1_saveState
theorem dX1_setScan_0 : decode cX1_setScan 0 = .ok (.iload_n 1, 1) := by decide +kernel
theorem dX1_setScan_1 : decode cX1_setScan 1 = .ok (.invokestatic 20, 3) := by decide +kernel
theorem dX1_setScan_4 : decode cX1_setScan 4 = .ok (.ifCond .eq 15, 3) := by decide +kernel
theorem dX1_setScan_7 : decode cX1_setScan 7 = .ok (.iload_n 2, 1) := by decide +kernel
theorem dX1_setScan_8 : decode cX1_setScan 8 = .ok (.iconst 1, 1) := by decide +kernel
theorem dX1_setScan_9 : decode cX1_setScan 9 = .ok (.if_icmp .lt 10, 3) := by decide +kernel
theorem dX1_setScan_12 : decode cX1_setScan 12 = .ok (.iload_n 2, 1) := by decide +kernel
theorem dX1_setScan_13 : decode cX1_setScan 13 = .ok (.sipush 255, 3) := by decide +kernel
theorem dX1_setScan_16 : decode cX1_setScan 16 = .ok (.if_icmp .le 8, 3) := by decide +kernel
theorem dX1_setScan_19 : decode cX1_setScan 19 = .ok (.aload_n 0, 1) := by decide +kernel
theorem dX1_setScan_20 : decode cX1_setScan 20 = .ok (.invokevirtual 24, 3) := by decide +kernel
theorem dX1_setScan_23 : decode cX1_setScan 23 = .ok (.ireturn, 1) := by decide +kernel
theorem dX1_setScan_24 : decode cX1_setScan 24 = .ok (.aload_n 0, 1) := by decide +kernel
theorem dX1_setScan_25 : decode cX1_setScan 25 = .ok (.invokevirtual 28, 3) := by decide +kernel
theorem dX1_setScan_28 : decode cX1_setScan 28 = .ok (.aload_n 0, 1) := by decide +kernel
theorem dX1_setScan_29 : decode cX1_setScan 29 = .ok (.getfield 12, 3) := by decide +kernel
theorem dX1_setScan_32 : decode cX1_setScan 32 = .ok (.getfield 31, 3) := by decide +kernel
theorem dX1_setScan_35 : decode cX1_setScan 35 = .ok (.iload_n 1, 1) := by decide +kernel
theorem dX1_setScan_36 : decode cX1_setScan 36 = .ok (.iaload, 1) := by decide +kernel
theorem dX1_setScan_37 : decode cX1_setScan 37 = .ok (.istore_n 3, 1) := by decide +kernel
theorem dX1_setScan_38 : decode cX1_setScan 38 = .ok (.aload_n 0, 1) := by decide +kernel
theorem dX1_setScan_39 : decode cX1_setScan 39 = .ok (.getfield 12, 3) := by decide +kernel
theorem dX1_setScan_42 : decode cX1_setScan 42 = .ok (.getfield 31, 3) := by decide +kernel
theorem dX1_setScan_45 : decode cX1_setScan 45 = .ok (.iload_n 1, 1) := by decide +kernel
theorem dX1_setScan_46 : decode cX1_setScan 46 = .ok (.iload_n 2, 1) := by decide +kernel
theorem dX1_setScan_47 : decode cX1_setScan 47 = .ok (.iastore, 1) := by decide +kernel
theorem dX1_setScan_48 : decode cX1_setScan 48 = .ok (.iload_n 3, 1) := by decide +kernel
theorem dX1_setScan_49 : decode cX1_setScan 49 = .ok (.ireturn, 1) := by decide +kernel
set_option maxRecDepth 20000 in
theorem ggX1_setQuality_X1_isCell : GoodIn wsX1_setQuality wsX1_isCell := goodIn_r _ [6, 7, 8, 5, 9, 10, 11, 12, 13, 14, 15] (by decide +kernel) (by decide +kernel)
set_option maxRecDepth 20000 in
theorem gX1_setQuality_X1_isCell : GoodIn wsX1_setQuality (va_wsS RX1 35 yX1_isCell wsX1_isCell) := goodIn_app (goodIn_of _ (by decide +kernel)) ggX1_setQuality_X1_isCell
set_option maxRecDepth 20000 in
theorem ggX1_setQuality_X1_countInvalid : GoodIn wsX1_setQuality wsX1_countInvalid := goodIn_r _ [19, 20, 59, 60, 61, 62, 63, 64] (by decide +kernel) (by decide +kernel)
set_option maxRecDepth 20000 in
theorem gX1_setQuality_X1_countInvalid : GoodIn wsX1_setQuality (wsV RX1 24 RX1 yX1_countInvalid wsX1_countInvalid) := goodIn_app (goodIn_of _ (by decide +kernel)) ggX1_setQuality_X1_countInvalid
set_option maxRecDepth 20000 in
theorem ggX1_setQuality_X1_saveState : GoodIn wsX1_setQuality wsX1_saveState := goodIn_r _ [24, 25, 26, 1, 27, 28, 29, 30, 31, 32, 33, 34, 35, 36, 37, 38, 39, 40, 41, 42, 43, 44, 45, 46, 47, 48, 49, 50, 51, 52, 53, 54, 55, 59, 60, 61, 62, 63, 64, 65, 66, 67, 68, 69, 70, 71, 72, 73, 74, 75, 76, 77, 78, 79, 80] (by decide +kernel) (by decide +kernel)
set_option maxRecDepth 20000 in
theorem gX1_setQuality_X1_saveState : GoodIn wsX1_setQuality (wsV RX1 28 RX1 yX1_saveState wsX1_saveState) := goodIn_app (goodIn_of _ (by decide +kernel)) ggX1_setQuality_X1_saveState
set_option maxRecDepth 20000 in
theorem ggX1_setQuality_X1_cell : GoodIn wsX1_setQuality wsX1_cell := goodIn_r _ [58] (by decide +kernel) (by decide +kernel)
set_option maxRecDepth 20000 in
theorem gX1_setQuality_X1_cell : GoodIn wsX1_setQuality (va_wsS RX1 42 yX1_cell wsX1_cell) := goodIn_app (goodIn_of _ (by decide +kernel)) ggX1_setQuality_X1_cell
theorem dX1_setQuality_0 : decode cX1_setQuality 0 = .ok (.iload_n 1, 1) := by decide +kernel
theorem dX1_setQuality_1 : decode cX1_setQuality 1 = .ok (.iload_n 2, 1) := by decide +kernel
theorem dX1_setQuality_2 : decode cX1_setQuality 2 = .ok (.iload_n 3, 1) := by decide +kernel
theorem dX1_setQuality_3 : decode cX1_setQuality 3 = .ok (.invokestatic 35, 3) := by decide +kernel
theorem dX1_setQuality_6 : decode cX1_setQuality 6 = .ok (.ifCond .eq 15, 3) := by decide +kernel
theorem dX1_setQuality_9 : decode cX1_setQuality 9 = .ok (.iload 4, 2) := by decide +kernel
theorem dX1_setQuality_11 : decode cX1_setQuality 11 = .ok (.ifCond .lt 10, 3) := by decide +kernel
theorem dX1_setQuality_14 : decode cX1_setQuality 14 = .ok (.iload 4, 2) := by decide +kernel
theorem dX1_setQuality_16 : decode cX1_setQuality 16 = .ok (.bipush 30, 2) := by decide +kernel
theorem dX1_setQuality_18 : decode cX1_setQuality 18 = .ok (.if_icmp .le 8, 3) := by decide +kernel
theorem dX1_setQuality_21 : decode cX1_setQuality 21 = .ok (.aload_n 0, 1) := by decide +kernel
theorem dX1_setQuality_22 : decode cX1_setQuality 22 = .ok (.invokevirtual 24, 3) := by decide +kernel
theorem dX1_setQuality_25 : decode cX1_setQuality 25 = .ok (.ireturn, 1) := by decide +kernel
theorem dX1_setQuality_26 : decode cX1_setQuality 26 = .ok (.aload_n 0, 1) := by decide +kernel
theorem dX1_setQuality_27 : decode cX1_setQuality 27 = .ok (.invokevirtual 28, 3) := by decide +kernel
theorem dX1_setQuality_30 : decode cX1_setQuality 30 = .ok (.aload_n 0, 1) := by decide +kernel
theorem dX1_setQuality_31 : decode cX1_setQuality 31 = .ok (.getfield 12, 3) := by decide +kernel
theorem dX1_setQuality_34 : decode cX1_setQuality 34 = .ok (.getfield 39, 3) := by decide +kernel
theorem dX1_setQuality_37 : decode cX1_setQuality 37 = .ok (.iload_n 1, 1) := by decide +kernel
theorem dX1_setQuality_38 : decode cX1_setQuality 38 = .ok (.iload_n 2, 1) := by decide +kernel
theorem dX1_setQuality_39 : decode cX1_setQuality 39 = .ok (.iload_n 3, 1) := by decide +kernel
theorem dX1_setQuality_40 : decode cX1_setQuality 40 = .ok (.invokestatic 42, 3) := by decide +kernel
theorem dX1_setQuality_43 : decode cX1_setQuality 43 = .ok (.iaload, 1) := by decide +kernel
theorem dX1_setQuality_44 : decode cX1_setQuality 44 = .ok (.istore 5, 2) := by decide +kernel
theorem dX1_setQuality_46 : decode cX1_setQuality 46 = .ok (.aload_n 0, 1) := by decide +kernel
theorem dX1_setQuality_47 : decode cX1_setQuality 47 = .ok (.getfield 12, 3) := by decide +kernel
theorem dX1_setQuality_50 : decode cX1_setQuality 50 = .ok (.getfield 39, 3) := by decide +kernel
theorem dX1_setQuality_53 : decode cX1_setQuality 53 = .ok (.iload_n 1, 1) := by decide +kernel
theorem dX1_setQuality_54 : decode cX1_setQuality 54 = .ok (.iload_n 2, 1) := by decide +kernel
theorem dX1_setQuality_55 : decode cX1_setQuality 55 = .ok (.iload_n 3, 1) := by decide +kernel
theorem dX1_setQuality_56 : decode cX1_setQuality 56 = .ok (.invokestatic 42, 3) := by decide +kernel
theorem dX1_setQuality_59 : decode cX1_setQuality 59 = .ok (.iload 4, 2) := by decide +kernel
theorem dX1_setQuality_61 : decode cX1_setQuality 61 = .ok (.iastore, 1) := by decide +kernel
theorem dX1_setQuality_62 : decode cX1_setQuality 62 = .ok (.aload_n 0, 1) := by decide +kernel
theorem dX1_setQuality_63 : decode cX1_setQuality 63 = .ok (.getfield 12, 3) := by decide +kernel
theorem dX1_setQuality_66 : decode cX1_setQuality 66 = .ok (.getfield 39, 3) := by decide +kernel
theorem dX1_setQuality_69 : decode cX1_setQuality 69 = .ok (.iload_n 2, 1) := by decide +kernel
theorem dX1_setQuality_70 : decode cX1_setQuality 70 = .ok (.iload_n 1, 1) := by decide +kernel
theorem dX1_setQuality_71 : decode cX1_setQuality 71 = .ok (.iload_n 3, 1) := by decide +kernel
theorem dX1_setQuality_72 : decode cX1_setQuality 72 = .ok (.invokestatic 42, 3) := by decide +kernel
theorem dX1_setQuality_75 : decode cX1_setQuality 75 = .ok (.iload 4, 2) := by decide +kernel
theorem dX1_setQuality_77 : decode cX1_setQuality 77 = .ok (.iastore, 1) := by decide +kernel
theorem dX1_setQuality_78 : decode cX1_setQuality 78 = .ok (.iload 5, 2) := by decide +kernel
theorem dX1_setQuality_80 : decode cX1_setQuality 80 = .ok (.ireturn, 1) := by decide +kernel
set_option maxRecDepth 20000 in
theorem ggX1_setAgeing_X1_countInvalid : GoodIn wsX1_setAgeing wsX1_countInvalid := goodIn_r _ [7, 8, 44, 45, 46, 47, 48, 49] (by decide +kernel) (by decide +kernel)
set_option maxRecDepth 20000 in
theorem gX1_setAgeing_X1_countInvalid : GoodIn wsX1_setAgeing (wsV RX1 24 RX1 yX1_countInvalid wsX1_countInvalid) := goodIn_app (goodIn_of _ (by decide +kernel)) ggX1_setAgeing_X1_countInvalid
set_option maxRecDepth 20000 in
theorem ggX1_setAgeing_X1_saveState : GoodIn wsX1_setAgeing wsX1_saveState := goodIn_r _ [12, 13, 14, 1, 15, 16, 17, 18, 19, 20, 21, 22, 23, 24, 25, 26, 27, 28, 29, 30, 31, 32, 33, 34, 35, 36, 37, 38, 39, 40, 41, 42, 43, 44, 45, 46, 47, 48, 49, 50, 51, 52, 53, 54, 55, 56, 57, 58, 59, 60, 61, 62, 63, 64, 65] (by decide +kernel) (by decide +kernel)
set_option maxRecDepth 20000 in
theorem gX1_setAgeing_X1_saveState : GoodIn wsX1_setAgeing (wsV RX1 28 RX1 yX1_saveState wsX1_saveState) := goodIn_app (goodIn_of _ (by decide +kernel)) ggX1_setAgeing_X1_saveState
theorem dX1_setAgeing_0 : decode cX1_setAgeing 0 = .ok (.iload_n 1, 1) := by decide +kernel
theorem dX1_setAgeing_1 : decode cX1_setAgeing 1 = .ok (.iconst 1, 1) := by decide +kernel
theorem dX1_setAgeing_2 : decode cX1_setAgeing 2 = .ok (.if_icmp .lt 9, 3) := by decide +kernel
theorem dX1_setAgeing_5 : decode cX1_setAgeing 5 = .ok (.iload_n 1, 1) := by decide +kernel
theorem dX1_setAgeing_6 : decode cX1_setAgeing 6 = .ok (.bipush 99, 2) := by decide +kernel
theorem dX1_setAgeing_8 : decode cX1_setAgeing 8 = .ok (.if_icmp .le 8, 3) := by decide +kernel
theorem dX1_setAgeing_11 : decode cX1_setAgeing 11 = .ok (.aload_n 0, 1) := by decide +kernel
theorem dX1_setAgeing_12 : decode cX1_setAgeing 12 = .ok (.invokevirtual 24, 3) := by decide +kernel
theorem dX1_setAgeing_15 : decode cX1_setAgeing 15 = .ok (.ireturn, 1) := by decide +kernel
theorem dX1_setAgeing_16 : decode cX1_setAgeing 16 = .ok (.aload_n 0, 1) := by decide +kernel
theorem dX1_setAgeing_17 : decode cX1_setAgeing 17 = .ok (.invokevirtual 28, 3) := by decide +kernel
theorem dX1_setAgeing_20 : decode cX1_setAgeing 20 = .ok (.aload_n 0, 1) := by decide +kernel
theorem dX1_setAgeing_21 : decode cX1_setAgeing 21 = .ok (.getfield 12, 3) := by decide +kernel
theorem dX1_setAgeing_24 : decode cX1_setAgeing 24 = .ok (.getfield 46, 3) := by decide +kernel
theorem dX1_setAgeing_27 : decode cX1_setAgeing 27 = .ok (.istore_n 2, 1) := by decide +kernel
theorem dX1_setAgeing_28 : decode cX1_setAgeing 28 = .ok (.aload_n 0, 1) := by decide +kernel
theorem dX1_setAgeing_29 : decode cX1_setAgeing 29 = .ok (.getfield 12, 3) := by decide +kernel
theorem dX1_setAgeing_32 : decode cX1_setAgeing 32 = .ok (.iload_n 1, 1) := by decide +kernel
theorem dX1_setAgeing_33 : decode cX1_setAgeing 33 = .ok (.putfield 46, 3) := by decide +kernel
theorem dX1_setAgeing_36 : decode cX1_setAgeing 36 = .ok (.iload_n 2, 1) := by decide +kernel
theorem dX1_setAgeing_37 : decode cX1_setAgeing 37 = .ok (.ireturn, 1) := by decide +kernel
set_option maxRecDepth 20000 in
theorem ggX1_setNoise_X1_countInvalid : GoodIn wsX1_setNoise wsX1_countInvalid := goodIn_r _ [8, 9, 45, 46, 47, 48, 49, 50] (by decide +kernel) (by decide +kernel)
set_option maxRecDepth 20000 in
theorem gX1_setNoise_X1_countInvalid : GoodIn wsX1_setNoise (wsV RX1 24 RX1 yX1_countInvalid wsX1_countInvalid) := goodIn_app (goodIn_of _ (by decide +kernel)) ggX1_setNoise_X1_countInvalid
set_option maxRecDepth 20000 in
theorem ggX1_setNoise_X1_saveState : GoodIn wsX1_setNoise wsX1_saveState := goodIn_r _ [13, 14, 15, 1, 16, 17, 18, 19, 20, 21, 22, 23, 24, 25, 26, 27, 28, 29, 30, 31, 32, 33, 34, 35, 36, 37, 38, 39, 40, 41, 42, 43, 44, 45, 46, 47, 48, 49, 50, 51, 52, 53, 54, 55, 56, 57, 58, 59, 60, 61, 62, 63, 64, 65, 66] (by decide +kernel) (by decide +kernel)
set_option maxRecDepth 20000 in
theorem gX1_setNoise_X1_saveState : GoodIn wsX1_setNoise (wsV RX1 28 RX1 yX1_saveState wsX1_saveState) := goodIn_app (goodIn_of _ (by decide +kernel)) ggX1_setNoise_X1_saveState
theorem dX1_setNoise_0 : decode cX1_setNoise 0 = .ok (.iload_n 1, 1) := by decide +kernel
theorem dX1_setNoise_1 : decode cX1_setNoise 1 = .ok (.ifCond .ge 8, 3) := by decide +kernel
theorem dX1_setNoise_4 : decode cX1_setNoise 4 = .ok (.aload_n 0, 1) := by decide +kernel
theorem dX1_setNoise_5 : decode cX1_setNoise 5 = .ok (.invokevirtual 24, 3) := by decide +kernel
theorem dX1_setNoise_8 : decode cX1_setNoise 8 = .ok (.ireturn, 1) := by decide +kernel
theorem dX1_setNoise_9 : decode cX1_setNoise 9 = .ok (.aload_n 0, 1) := by decide +kernel
theorem dX1_setNoise_10 : decode cX1_setNoise 10 = .ok (.invokevirtual 28, 3) := by decide +kernel
theorem dX1_setNoise_13 : decode cX1_setNoise 13 = .ok (.aload_n 0, 1) := by decide +kernel
theorem dX1_setNoise_14 : decode cX1_setNoise 14 = .ok (.getfield 12, 3) := by decide +kernel
theorem dX1_setNoise_17 : decode cX1_setNoise 17 = .ok (.iload_n 1, 1) := by decide +kernel
theorem dX1_setNoise_18 : decode cX1_setNoise 18 = .ok (.putfield 50, 3) := by decide +kernel
theorem dX1_setNoise_21 : decode cX1_setNoise 21 = .ok (.aload_n 0, 1) := by decide +kernel
theorem dX1_setNoise_22 : decode cX1_setNoise 22 = .ok (.getfield 12, 3) := by decide +kernel
theorem dX1_setNoise_25 : decode cX1_setNoise 25 = .ok (.getfield 53, 3) := by decide +kernel
theorem dX1_setNoise_28 : decode cX1_setNoise 28 = .ok (.ireturn, 1) := by decide +kernel
set_option maxRecDepth 20000 in
theorem ggX1_pass_X1_countInvalid : GoodIn wsX1_pass wsX1_countInvalid := goodIn_r _ [7, 8, 44, 45, 46, 47, 48, 49] (by decide +kernel) (by decide +kernel)
set_option maxRecDepth 20000 in
theorem gX1_pass_X1_countInvalid : GoodIn wsX1_pass (wsV RX1 24 RX1 yX1_countInvalid wsX1_countInvalid) := goodIn_app (goodIn_of _ (by decide +kernel)) ggX1_pass_X1_countInvalid
set_option maxRecDepth 20000 in
theorem ggX1_pass_X1_saveState : GoodIn wsX1_pass wsX1_saveState := goodIn_r _ [12, 13, 14, 1, 15, 16, 17, 18, 19, 20, 21, 22, 23, 24, 25, 26, 27, 28, 29, 30, 31, 32, 33, 34, 35, 36, 37, 38, 39, 40, 41, 42, 43, 44, 45, 46, 47, 48, 49, 50, 51, 52, 53, 54, 55, 56, 57, 58, 59, 60, 61, 62, 63, 64, 65] (by decide +kernel) (by decide +kernel)
set_option maxRecDepth 20000 in
theorem gX1_pass_X1_saveState : GoodIn wsX1_pass (wsV RX1 28 RX1 yX1_saveState wsX1_saveState) := goodIn_app (goodIn_of _ (by decide +kernel)) ggX1_pass_X1_saveState
theorem dX1_pass_0 : decode cX1_pass 0 = .ok (.iload_n 1, 1) := by decide +kernel
theorem dX1_pass_1 : decode cX1_pass 1 = .ok (.iconst 1, 1) := by decide +kernel
theorem dX1_pass_2 : decode cX1_pass 2 = .ok (.if_icmp .lt 10, 3) := by decide +kernel
theorem dX1_pass_5 : decode cX1_pass 5 = .ok (.iload_n 1, 1) := by decide +kernel
theorem dX1_pass_6 : decode cX1_pass 6 = .ok (.sipush 1000, 3) := by decide +kernel
theorem dX1_pass_9 : decode cX1_pass 9 = .ok (.if_icmp .le 8, 3) := by decide +kernel
theorem dX1_pass_12 : decode cX1_pass 12 = .ok (.aload_n 0, 1) := by decide +kernel
theorem dX1_pass_13 : decode cX1_pass 13 = .ok (.invokevirtual 24, 3) := by decide +kernel
theorem dX1_pass_16 : decode cX1_pass 16 = .ok (.ireturn, 1) := by decide +kernel
theorem dX1_pass_17 : decode cX1_pass 17 = .ok (.aload_n 0, 1) := by decide +kernel
theorem dX1_pass_18 : decode cX1_pass 18 = .ok (.invokevirtual 28, 3) := by decide +kernel
theorem dX1_pass_21 : decode cX1_pass 21 = .ok (.aload_n 0, 1) := by decide +kernel
theorem dX1_pass_22 : decode cX1_pass 22 = .ok (.getfield 12, 3) := by decide +kernel
theorem dX1_pass_25 : decode cX1_pass 25 = .ok (.dup, 1) := by decide +kernel
theorem dX1_pass_26 : decode cX1_pass 26 = .ok (.getfield 53, 3) := by decide +kernel
theorem dX1_pass_29 : decode cX1_pass 29 = .ok (.iload_n 1, 1) := by decide +kernel
theorem dX1_pass_30 : decode cX1_pass 30 = .ok (.iadd, 1) := by decide +kernel
theorem dX1_pass_31 : decode cX1_pass 31 = .ok (.putfield 53, 3) := by decide +kernel
theorem dX1_pass_34 : decode cX1_pass 34 = .ok (.aload_n 0, 1) := by decide +kernel
theorem dX1_pass_35 : decode cX1_pass 35 = .ok (.getfield 12, 3) := by decide +kernel
theorem dX1_pass_38 : decode cX1_pass 38 = .ok (.getfield 53, 3) := by decide +kernel
theorem dX1_pass_41 : decode cX1_pass 41 = .ok (.ireturn, 1) := by decide +kernel
set_option maxRecDepth 20000 in
theorem ggX1_sound_X1_isStation : GoodIn wsX1_sound wsX1_isStation := goodIn_r _ [5] (by decide +kernel) (by decide +kernel)
set_option maxRecDepth 20000 in
theorem gX1_sound_X1_isStation : GoodIn wsX1_sound (va_wsS RX1 20 yX1_isStation wsX1_isStation) := goodIn_app (goodIn_of _ (by decide +kernel)) ggX1_sound_X1_isStation
set_option maxRecDepth 20000 in
theorem ggX1_sound_X1_isChannel : GoodIn wsX1_sound wsX1_isChannel := goodIn_r _ [8] (by decide +kernel) (by decide +kernel)
set_option maxRecDepth 20000 in
theorem gX1_sound_X1_isChannel : GoodIn wsX1_sound (va_wsS RX1 56 yX1_isChannel wsX1_isChannel) := goodIn_app (goodIn_of _ (by decide +kernel)) ggX1_sound_X1_isChannel
set_option maxRecDepth 20000 in
theorem ggX1_sound_X1_countInvalid : GoodIn wsX1_sound wsX1_countInvalid := goodIn_r _ [12, 13, 102, 103, 104, 105, 106, 107] (by decide +kernel) (by decide +kernel)
set_option maxRecDepth 20000 in
theorem gX1_sound_X1_countInvalid : GoodIn wsX1_sound (wsV RX1 24 RX1 yX1_countInvalid wsX1_countInvalid) := goodIn_app (goodIn_of _ (by decide +kernel)) ggX1_sound_X1_countInvalid
set_option maxRecDepth 20000 in
theorem ggX1_sound_X0_isLinked : GoodIn wsX1_sound wsX0_isLinked := goodIn_r _ [18, 19, 108, 109, 110, 111, 112, 113, 114, 115, 116, 117, 118, 119, 120, 121, 122, 123] (by decide +kernel) (by decide +kernel)
set_option maxRecDepth 20000 in
theorem gX1_sound_X0_isLinked : GoodIn wsX1_sound (wsV RX1 59 RX0 yX0_isLinked wsX0_isLinked) := goodIn_app (goodIn_of _ (by decide +kernel)) ggX1_sound_X0_isLinked
set_option maxRecDepth 20000 in
theorem ggX1_sound_X1_countRejected : GoodIn wsX1_sound wsX1_countRejected := goodIn_r _ [23, 24, 102, 103, 104, 105, 106, 107] (by decide +kernel) (by decide +kernel)
set_option maxRecDepth 20000 in
theorem gX1_sound_X1_countRejected : GoodIn wsX1_sound (wsV RX1 62 RX1 yX1_countRejected wsX1_countRejected) := goodIn_app (goodIn_of _ (by decide +kernel)) ggX1_sound_X1_countRejected
set_option maxRecDepth 20000 in
theorem ggX1_sound_X1_saveState : GoodIn wsX1_sound wsX1_saveState := goodIn_r _ [28, 29, 30, 1, 31, 32, 33, 34, 35, 36, 37, 38, 17, 39, 40, 41, 42, 43, 44, 45, 46, 47, 48, 49, 50, 51, 52, 53, 19, 54, 55, 56, 57, 102, 103, 104, 105, 106, 107, 108, 109, 110, 111, 112, 113, 114, 115, 116, 117, 118, 119, 120, 121, 122, 123] (by decide +kernel) (by decide +kernel)
set_option maxRecDepth 20000 in
theorem gX1_sound_X1_saveState : GoodIn wsX1_sound (wsV RX1 28 RX1 yX1_saveState wsX1_saveState) := goodIn_app (goodIn_of _ (by decide +kernel)) ggX1_sound_X1_saveState
set_option maxRecDepth 20000 in
theorem ggX1_sound_X0_emitSounding : GoodIn wsX1_sound wsX0_emitSounding := goodIn_r _ [61, 40, 62, 63, 64, 17, 65, 49, 66, 67, 34, 68, 69, 4, 70, 71, 72, 73, 74, 75, 76, 77, 78, 79, 80, 81, 82, 15, 16, 18, 19, 83, 84, 85, 86, 87, 55, 48, 47, 43, 44, 56, 57, 88, 89, 90, 91, 92, 93, 94, 95, 96, 97, 42, 98, 99, 100, 101, 108, 109, 110, 111, 112, 113, 114, 115, 116, 117, 118, 119, 120, 121, 122, 123] (by decide +kernel) (by decide +kernel)
set_option maxRecDepth 20000 in
theorem gX1_sound_X0_emitSounding : GoodIn wsX1_sound (wsV RX1 65 RX0 yX0_emitSounding wsX0_emitSounding) := goodIn_app (goodIn_of _ (by decide +kernel)) ggX1_sound_X0_emitSounding
theorem dX1_sound_0 : decode cX1_sound 0 = .ok (.iload_n 1, 1) := by decide +kernel
theorem dX1_sound_1 : decode cX1_sound 1 = .ok (.invokestatic 20, 3) := by decide +kernel
theorem dX1_sound_4 : decode cX1_sound 4 = .ok (.ifCond .eq 10, 3) := by decide +kernel
theorem dX1_sound_7 : decode cX1_sound 7 = .ok (.iload_n 2, 1) := by decide +kernel
theorem dX1_sound_8 : decode cX1_sound 8 = .ok (.invokestatic 56, 3) := by decide +kernel
theorem dX1_sound_11 : decode cX1_sound 11 = .ok (.ifCond .ne 8, 3) := by decide +kernel
theorem dX1_sound_14 : decode cX1_sound 14 = .ok (.aload_n 0, 1) := by decide +kernel
theorem dX1_sound_15 : decode cX1_sound 15 = .ok (.invokevirtual 24, 3) := by decide +kernel
theorem dX1_sound_18 : decode cX1_sound 18 = .ok (.ireturn, 1) := by decide +kernel
theorem dX1_sound_19 : decode cX1_sound 19 = .ok (.aload_n 0, 1) := by decide +kernel
theorem dX1_sound_20 : decode cX1_sound 20 = .ok (.getfield 12, 3) := by decide +kernel
theorem dX1_sound_23 : decode cX1_sound 23 = .ok (.iload_n 1, 1) := by decide +kernel
theorem dX1_sound_24 : decode cX1_sound 24 = .ok (.invokevirtual 59, 3) := by decide +kernel
theorem dX1_sound_27 : decode cX1_sound 27 = .ok (.ifCond .eq 8, 3) := by decide +kernel
theorem dX1_sound_30 : decode cX1_sound 30 = .ok (.aload_n 0, 1) := by decide +kernel
theorem dX1_sound_31 : decode cX1_sound 31 = .ok (.invokevirtual 62, 3) := by decide +kernel
theorem dX1_sound_34 : decode cX1_sound 34 = .ok (.ireturn, 1) := by decide +kernel
theorem dX1_sound_35 : decode cX1_sound 35 = .ok (.aload_n 0, 1) := by decide +kernel
theorem dX1_sound_36 : decode cX1_sound 36 = .ok (.invokevirtual 28, 3) := by decide +kernel
theorem dX1_sound_39 : decode cX1_sound 39 = .ok (.aload_n 0, 1) := by decide +kernel
theorem dX1_sound_40 : decode cX1_sound 40 = .ok (.getfield 12, 3) := by decide +kernel
theorem dX1_sound_43 : decode cX1_sound 43 = .ok (.iload_n 1, 1) := by decide +kernel
theorem dX1_sound_44 : decode cX1_sound 44 = .ok (.iload_n 2, 1) := by decide +kernel
theorem dX1_sound_45 : decode cX1_sound 45 = .ok (.invokevirtual 65, 3) := by decide +kernel
theorem dX1_sound_48 : decode cX1_sound 48 = .ok (.ireturn, 1) := by decide +kernel
set_option maxRecDepth 20000 in
theorem ggX1_call_X1_isPair : GoodIn wsX1_call wsX1_isPair := goodIn_r _ [5, 6, 7, 4, 8] (by decide +kernel) (by decide +kernel)
set_option maxRecDepth 20000 in
theorem gX1_call_X1_isPair : GoodIn wsX1_call (va_wsS RX1 69 yX1_isPair wsX1_isPair) := goodIn_app (goodIn_of _ (by decide +kernel)) ggX1_call_X1_isPair
set_option maxRecDepth 20000 in
theorem ggX1_call_X1_countInvalid : GoodIn wsX1_call wsX1_countInvalid := goodIn_r _ [12, 13, 124, 125, 126, 127, 128, 129] (by decide +kernel) (by decide +kernel)
set_option maxRecDepth 20000 in
theorem gX1_call_X1_countInvalid : GoodIn wsX1_call (wsV RX1 24 RX1 yX1_countInvalid wsX1_countInvalid) := goodIn_app (goodIn_of _ (by decide +kernel)) ggX1_call_X1_countInvalid
set_option maxRecDepth 20000 in
theorem ggX1_call_X0_isLinked : GoodIn wsX1_call wsX0_isLinked := goodIn_r _ [18, 19, 130, 131, 132, 133, 134, 135, 136, 137, 138, 139, 140, 141, 142, 143, 144, 145] (by decide +kernel) (by decide +kernel)
set_option maxRecDepth 20000 in
theorem gX1_call_X0_isLinked : GoodIn wsX1_call (wsV RX1 59 RX0 yX0_isLinked wsX0_isLinked) := goodIn_app (goodIn_of _ (by decide +kernel)) ggX1_call_X0_isLinked
set_option maxRecDepth 20000 in
theorem ggX1_call_X1_countRejected : GoodIn wsX1_call wsX1_countRejected := goodIn_r _ [23, 24, 124, 125, 126, 127, 128, 129] (by decide +kernel) (by decide +kernel)
set_option maxRecDepth 20000 in
theorem gX1_call_X1_countRejected : GoodIn wsX1_call (wsV RX1 62 RX1 yX1_countRejected wsX1_countRejected) := goodIn_app (goodIn_of _ (by decide +kernel)) ggX1_call_X1_countRejected
set_option maxRecDepth 20000 in
theorem ggX1_call_X1_saveState : GoodIn wsX1_call wsX1_saveState := goodIn_r _ [28, 29, 30, 1, 31, 32, 33, 34, 35, 36, 37, 38, 17, 39, 40, 41, 42, 43, 44, 45, 46, 47, 48, 49, 50, 51, 52, 53, 19, 54, 55, 56, 57, 124, 125, 126, 127, 128, 129, 130, 131, 132, 133, 134, 135, 136, 137, 138, 139, 140, 141, 142, 143, 144, 145] (by decide +kernel) (by decide +kernel)
set_option maxRecDepth 20000 in
theorem gX1_call_X1_saveState : GoodIn wsX1_call (wsV RX1 28 RX1 yX1_saveState wsX1_saveState) := goodIn_app (goodIn_of _ (by decide +kernel)) ggX1_call_X1_saveState
set_option maxRecDepth 20000 in
theorem ggX1_call_X0_callOne : GoodIn wsX1_call wsX0_callOne := goodIn_r _ [61, 45, 49, 46, 62, 63, 64, 17, 65, 66, 67, 68, 69, 70, 71, 33, 34, 35, 72, 4, 73, 74, 75, 76, 77, 56, 41, 40, 57, 78, 79, 80, 81, 82, 83, 84, 85, 86, 87, 88, 89, 90, 91, 92, 93, 94, 95, 96, 97, 98, 99, 100, 101, 102, 15, 16, 18, 19, 103, 104, 105, 106, 107, 55, 48, 47, 43, 44, 108, 109, 110, 111, 112, 113, 114, 115, 42, 116, 117, 118, 119, 120, 121, 122, 123, 54, 130, 131, 132, 133, 134, 135, 136, 137, 138, 139, 140, 141, 142, 143, 144, 145] (by decide +kernel) (by decide +kernel)
set_option maxRecDepth 20000 in
theorem gX1_call_X0_callOne : GoodIn wsX1_call (wsV RX1 73 RX0 yX0_callOne wsX0_callOne) := goodIn_app (goodIn_of _ (by decide +kernel)) ggX1_call_X0_callOne
theorem dX1_call_0 : decode cX1_call 0 = .ok (.iload_n 1, 1) := by decide +kernel
theorem dX1_call_1 : decode cX1_call 1 = .ok (.iload_n 2, 1) := by decide +kernel
theorem dX1_call_2 : decode cX1_call 2 = .ok (.invokestatic 69, 3) := by decide +kernel
theorem dX1_call_5 : decode cX1_call 5 = .ok (.ifCond .ne 8, 3) := by decide +kernel
theorem dX1_call_8 : decode cX1_call 8 = .ok (.aload_n 0, 1) := by decide +kernel
theorem dX1_call_9 : decode cX1_call 9 = .ok (.invokevirtual 24, 3) := by decide +kernel
theorem dX1_call_12 : decode cX1_call 12 = .ok (.ireturn, 1) := by decide +kernel
theorem dX1_call_13 : decode cX1_call 13 = .ok (.aload_n 0, 1) := by decide +kernel
theorem dX1_call_14 : decode cX1_call 14 = .ok (.getfield 12, 3) := by decide +kernel
theorem dX1_call_17 : decode cX1_call 17 = .ok (.iload_n 1, 1) := by decide +kernel
theorem dX1_call_18 : decode cX1_call 18 = .ok (.invokevirtual 59, 3) := by decide +kernel
theorem dX1_call_21 : decode cX1_call 21 = .ok (.ifCond .ne 14, 3) := by decide +kernel
theorem dX1_call_24 : decode cX1_call 24 = .ok (.aload_n 0, 1) := by decide +kernel
theorem dX1_call_25 : decode cX1_call 25 = .ok (.getfield 12, 3) := by decide +kernel
theorem dX1_call_28 : decode cX1_call 28 = .ok (.iload_n 2, 1) := by decide +kernel
theorem dX1_call_29 : decode cX1_call 29 = .ok (.invokevirtual 59, 3) := by decide +kernel
theorem dX1_call_32 : decode cX1_call 32 = .ok (.ifCond .eq 8, 3) := by decide +kernel
theorem dX1_call_35 : decode cX1_call 35 = .ok (.aload_n 0, 1) := by decide +kernel
theorem dX1_call_36 : decode cX1_call 36 = .ok (.invokevirtual 62, 3) := by decide +kernel
theorem dX1_call_39 : decode cX1_call 39 = .ok (.ireturn, 1) := by decide +kernel
theorem dX1_call_40 : decode cX1_call 40 = .ok (.aload_n 0, 1) := by decide +kernel
theorem dX1_call_41 : decode cX1_call 41 = .ok (.invokevirtual 28, 3) := by decide +kernel
theorem dX1_call_44 : decode cX1_call 44 = .ok (.aload_n 0, 1) := by decide +kernel
theorem dX1_call_45 : decode cX1_call 45 = .ok (.getfield 12, 3) := by decide +kernel
theorem dX1_call_48 : decode cX1_call 48 = .ok (.iload_n 1, 1) := by decide +kernel
theorem dX1_call_49 : decode cX1_call 49 = .ok (.iload_n 2, 1) := by decide +kernel
theorem dX1_call_50 : decode cX1_call 50 = .ok (.invokevirtual 73, 3) := by decide +kernel
theorem dX1_call_53 : decode cX1_call 53 = .ok (.ireturn, 1) := by decide +kernel
set_option maxRecDepth 20000 in
theorem ggX1_netCall_X1_isNet : GoodIn wsX1_netCall wsX1_isNet := goodIn_r _ [5, 6, 7, 4, 8, 9, 10, 11] (by decide +kernel) (by decide +kernel)
set_option maxRecDepth 20000 in
theorem gX1_netCall_X1_isNet : GoodIn wsX1_netCall (va_wsS RX1 76 yX1_isNet wsX1_isNet) := goodIn_app (goodIn_of _ (by decide +kernel)) ggX1_netCall_X1_isNet
set_option maxRecDepth 20000 in
theorem ggX1_netCall_X1_countInvalid : GoodIn wsX1_netCall wsX1_countInvalid := goodIn_r _ [15, 16, 133, 134, 135, 136, 137, 138] (by decide +kernel) (by decide +kernel)
set_option maxRecDepth 20000 in
theorem gX1_netCall_X1_countInvalid : GoodIn wsX1_netCall (wsV RX1 24 RX1 yX1_countInvalid wsX1_countInvalid) := goodIn_app (goodIn_of _ (by decide +kernel)) ggX1_netCall_X1_countInvalid
set_option maxRecDepth 20000 in
theorem ggX1_netCall_X0_isLinked : GoodIn wsX1_netCall wsX0_isLinked := goodIn_r _ [21, 22, 139, 140, 141, 142, 143, 144, 145, 146, 147, 148, 149, 150, 151, 152, 153, 154] (by decide +kernel) (by decide +kernel)
set_option maxRecDepth 20000 in
theorem gX1_netCall_X0_isLinked : GoodIn wsX1_netCall (wsV RX1 59 RX0 yX0_isLinked wsX0_isLinked) := goodIn_app (goodIn_of _ (by decide +kernel)) ggX1_netCall_X0_isLinked
set_option maxRecDepth 20000 in
theorem ggX1_netCall_X1_countRejected : GoodIn wsX1_netCall wsX1_countRejected := goodIn_r _ [26, 27, 133, 134, 135, 136, 137, 138] (by decide +kernel) (by decide +kernel)
set_option maxRecDepth 20000 in
theorem gX1_netCall_X1_countRejected : GoodIn wsX1_netCall (wsV RX1 62 RX1 yX1_countRejected wsX1_countRejected) := goodIn_app (goodIn_of _ (by decide +kernel)) ggX1_netCall_X1_countRejected
set_option maxRecDepth 20000 in
theorem ggX1_netCall_X1_saveState : GoodIn wsX1_netCall wsX1_saveState := goodIn_r _ [31, 32, 33, 1, 34, 35, 36, 37, 38, 39, 40, 41, 20, 42, 43, 44, 45, 46, 47, 48, 49, 50, 51, 52, 53, 54, 55, 56, 22, 57, 58, 59, 60, 133, 134, 135, 136, 137, 138, 139, 140, 141, 142, 143, 144, 145, 146, 147, 148, 149, 150, 151, 152, 153, 154] (by decide +kernel) (by decide +kernel)
set_option maxRecDepth 20000 in
theorem gX1_netCall_X1_saveState : GoodIn wsX1_netCall (wsV RX1 28 RX1 yX1_saveState wsX1_saveState) := goodIn_app (goodIn_of _ (by decide +kernel)) ggX1_netCall_X1_saveState
set_option maxRecDepth 20000 in
theorem ggX1_netCall_X0_callMany : GoodIn wsX1_netCall wsX0_callMany := goodIn_r _ [64, 48, 49, 43, 65, 66, 67, 20, 68, 52, 69, 70, 71, 72, 73, 74, 75, 76, 77, 78, 36, 37, 38, 10, 4, 11, 79, 80, 81, 82, 59, 44, 60, 83, 84, 85, 86, 87, 88, 89, 90, 91, 92, 93, 94, 95, 96, 97, 98, 99, 100, 101, 102, 103, 104, 105, 106, 107, 108, 109, 110, 111, 18, 19, 21, 22, 112, 113, 114, 115, 116, 58, 51, 50, 46, 47, 117, 118, 119, 120, 121, 122, 123, 124, 45, 125, 126, 127, 128, 129, 130, 131, 132, 57, 139, 140, 141, 142, 143, 144, 145, 146, 147, 148, 149, 150, 151, 152, 153, 154] (by decide +kernel) (by decide +kernel)
set_option maxRecDepth 20000 in
theorem gX1_netCall_X0_callMany : GoodIn wsX1_netCall (wsV RX1 79 RX0 yX0_callMany wsX0_callMany) := goodIn_app (goodIn_of _ (by decide +kernel)) ggX1_netCall_X0_callMany
theorem dX1_netCall_0 : decode cX1_netCall 0 = .ok (.iload_n 1, 1) := by decide +kernel
theorem dX1_netCall_1 : decode cX1_netCall 1 = .ok (.iload_n 2, 1) := by decide +kernel
theorem dX1_netCall_2 : decode cX1_netCall 2 = .ok (.invokestatic 76, 3) := by decide +kernel
theorem dX1_netCall_5 : decode cX1_netCall 5 = .ok (.ifCond .ne 8, 3) := by decide +kernel
theorem dX1_netCall_8 : decode cX1_netCall 8 = .ok (.aload_n 0, 1) := by decide +kernel
theorem dX1_netCall_9 : decode cX1_netCall 9 = .ok (.invokevirtual 24, 3) := by decide +kernel
theorem dX1_netCall_12 : decode cX1_netCall 12 = .ok (.ireturn, 1) := by decide +kernel
theorem dX1_netCall_13 : decode cX1_netCall 13 = .ok (.aload_n 0, 1) := by decide +kernel
theorem dX1_netCall_14 : decode cX1_netCall 14 = .ok (.getfield 12, 3) := by decide +kernel
theorem dX1_netCall_17 : decode cX1_netCall 17 = .ok (.iload_n 1, 1) := by decide +kernel
theorem dX1_netCall_18 : decode cX1_netCall 18 = .ok (.invokevirtual 59, 3) := by decide +kernel
theorem dX1_netCall_21 : decode cX1_netCall 21 = .ok (.ifCond .eq 8, 3) := by decide +kernel
theorem dX1_netCall_24 : decode cX1_netCall 24 = .ok (.aload_n 0, 1) := by decide +kernel
theorem dX1_netCall_25 : decode cX1_netCall 25 = .ok (.invokevirtual 62, 3) := by decide +kernel
theorem dX1_netCall_28 : decode cX1_netCall 28 = .ok (.ireturn, 1) := by decide +kernel
theorem dX1_netCall_29 : decode cX1_netCall 29 = .ok (.aload_n 0, 1) := by decide +kernel
theorem dX1_netCall_30 : decode cX1_netCall 30 = .ok (.invokevirtual 28, 3) := by decide +kernel
theorem dX1_netCall_33 : decode cX1_netCall 33 = .ok (.aload_n 0, 1) := by decide +kernel
theorem dX1_netCall_34 : decode cX1_netCall 34 = .ok (.getfield 12, 3) := by decide +kernel
theorem dX1_netCall_37 : decode cX1_netCall 37 = .ok (.iload_n 1, 1) := by decide +kernel
theorem dX1_netCall_38 : decode cX1_netCall 38 = .ok (.iload_n 2, 1) := by decide +kernel
theorem dX1_netCall_39 : decode cX1_netCall 39 = .ok (.invokevirtual 79, 3) := by decide +kernel
theorem dX1_netCall_42 : decode cX1_netCall 42 = .ok (.ireturn, 1) := by decide +kernel
set_option maxRecDepth 20000 in
theorem ggX1_hangUp_X1_isStation : GoodIn wsX1_hangUp wsX1_isStation := goodIn_r _ [5] (by decide +kernel) (by decide +kernel)
set_option maxRecDepth 20000 in
theorem gX1_hangUp_X1_isStation : GoodIn wsX1_hangUp (va_wsS RX1 20 yX1_isStation wsX1_isStation) := goodIn_app (goodIn_of _ (by decide +kernel)) ggX1_hangUp_X1_isStation
set_option maxRecDepth 20000 in
theorem ggX1_hangUp_X1_countInvalid : GoodIn wsX1_hangUp wsX1_countInvalid := goodIn_r _ [9, 10, 72, 73, 74, 75, 76, 77] (by decide +kernel) (by decide +kernel)
set_option maxRecDepth 20000 in
theorem gX1_hangUp_X1_countInvalid : GoodIn wsX1_hangUp (wsV RX1 24 RX1 yX1_countInvalid wsX1_countInvalid) := goodIn_app (goodIn_of _ (by decide +kernel)) ggX1_hangUp_X1_countInvalid
set_option maxRecDepth 20000 in
theorem ggX1_hangUp_X0_isLinked : GoodIn wsX1_hangUp wsX0_isLinked := goodIn_r _ [15, 16, 78, 79, 80, 81, 82, 83, 84, 85, 86, 87, 88, 89, 90, 91, 92, 93] (by decide +kernel) (by decide +kernel)
set_option maxRecDepth 20000 in
theorem gX1_hangUp_X0_isLinked : GoodIn wsX1_hangUp (wsV RX1 59 RX0 yX0_isLinked wsX0_isLinked) := goodIn_app (goodIn_of _ (by decide +kernel)) ggX1_hangUp_X0_isLinked
set_option maxRecDepth 20000 in
theorem ggX1_hangUp_X1_countRejected : GoodIn wsX1_hangUp wsX1_countRejected := goodIn_r _ [20, 21, 72, 73, 74, 75, 76, 77] (by decide +kernel) (by decide +kernel)
set_option maxRecDepth 20000 in
theorem gX1_hangUp_X1_countRejected : GoodIn wsX1_hangUp (wsV RX1 62 RX1 yX1_countRejected wsX1_countRejected) := goodIn_app (goodIn_of _ (by decide +kernel)) ggX1_hangUp_X1_countRejected
set_option maxRecDepth 20000 in
theorem ggX1_hangUp_X1_saveState : GoodIn wsX1_hangUp wsX1_saveState := goodIn_r _ [25, 26, 27, 1, 28, 29, 30, 31, 32, 33, 34, 35, 14, 36, 37, 38, 39, 40, 41, 42, 43, 44, 45, 46, 47, 48, 49, 50, 16, 51, 52, 53, 54, 72, 73, 74, 75, 76, 77, 78, 79, 80, 81, 82, 83, 84, 85, 86, 87, 88, 89, 90, 91, 92, 93] (by decide +kernel) (by decide +kernel)
set_option maxRecDepth 20000 in
theorem gX1_hangUp_X1_saveState : GoodIn wsX1_hangUp (wsV RX1 28 RX1 yX1_saveState wsX1_saveState) := goodIn_app (goodIn_of _ (by decide +kernel)) ggX1_hangUp_X1_saveState
set_option maxRecDepth 20000 in
theorem ggX1_hangUp_X0_leaveLink : GoodIn wsX1_hangUp wsX0_leaveLink := goodIn_r _ [58, 16, 59, 60, 61, 62, 63, 64, 65, 66, 67, 68, 14, 69, 51, 70, 4, 71, 78, 79, 80, 81, 82, 83, 84, 85, 86, 87, 88, 89, 90, 91, 92, 93] (by decide +kernel) (by decide +kernel)
set_option maxRecDepth 20000 in
theorem gX1_hangUp_X0_leaveLink : GoodIn wsX1_hangUp (wsV RX1 82 RX0 yX0_leaveLink wsX0_leaveLink) := goodIn_app (goodIn_of _ (by decide +kernel)) ggX1_hangUp_X0_leaveLink
theorem dX1_hangUp_0 : decode cX1_hangUp 0 = .ok (.iload_n 1, 1) := by decide +kernel
theorem dX1_hangUp_1 : decode cX1_hangUp 1 = .ok (.invokestatic 20, 3) := by decide +kernel
theorem dX1_hangUp_4 : decode cX1_hangUp 4 = .ok (.ifCond .ne 8, 3) := by decide +kernel
theorem dX1_hangUp_7 : decode cX1_hangUp 7 = .ok (.aload_n 0, 1) := by decide +kernel
theorem dX1_hangUp_8 : decode cX1_hangUp 8 = .ok (.invokevirtual 24, 3) := by decide +kernel
theorem dX1_hangUp_11 : decode cX1_hangUp 11 = .ok (.ireturn, 1) := by decide +kernel
theorem dX1_hangUp_12 : decode cX1_hangUp 12 = .ok (.aload_n 0, 1) := by decide +kernel
theorem dX1_hangUp_13 : decode cX1_hangUp 13 = .ok (.getfield 12, 3) := by decide +kernel
theorem dX1_hangUp_16 : decode cX1_hangUp 16 = .ok (.iload_n 1, 1) := by decide +kernel
theorem dX1_hangUp_17 : decode cX1_hangUp 17 = .ok (.invokevirtual 59, 3) := by decide +kernel
theorem dX1_hangUp_20 : decode cX1_hangUp 20 = .ok (.ifCond .ne 8, 3) := by decide +kernel
theorem dX1_hangUp_23 : decode cX1_hangUp 23 = .ok (.aload_n 0, 1) := by decide +kernel
theorem dX1_hangUp_24 : decode cX1_hangUp 24 = .ok (.invokevirtual 62, 3) := by decide +kernel
theorem dX1_hangUp_27 : decode cX1_hangUp 27 = .ok (.ireturn, 1) := by decide +kernel
theorem dX1_hangUp_28 : decode cX1_hangUp 28 = .ok (.aload_n 0, 1) := by decide +kernel
theorem dX1_hangUp_29 : decode cX1_hangUp 29 = .ok (.invokevirtual 28, 3) := by decide +kernel
theorem dX1_hangUp_32 : decode cX1_hangUp 32 = .ok (.aload_n 0, 1) := by decide +kernel
theorem dX1_hangUp_33 : decode cX1_hangUp 33 = .ok (.getfield 12, 3) := by decide +kernel
theorem dX1_hangUp_36 : decode cX1_hangUp 36 = .ok (.iload_n 1, 1) := by decide +kernel
theorem dX1_hangUp_37 : decode cX1_hangUp 37 = .ok (.invokevirtual 82, 3) := by decide +kernel
theorem dX1_hangUp_40 : decode cX1_hangUp 40 = .ok (.ireturn, 1) := by decide +kernel
theorem dX1_attempts_0 : decode cX1_attempts 0 = .ok (.aload_n 0, 1) := by decide +kernel
theorem dX1_attempts_1 : decode cX1_attempts 1 = .ok (.getfield 12, 3) := by decide +kernel
theorem dX1_attempts_4 : decode cX1_attempts 4 = .ok (.getfield 86, 3) := by decide +kernel
theorem dX1_attempts_7 : decode cX1_attempts 7 = .ok (.ireturn, 1) := by decide +kernel
theorem dX1_lastChannel_0 : decode cX1_lastChannel 0 = .ok (.aload_n 0, 1) := by decide +kernel
theorem dX1_lastChannel_1 : decode cX1_lastChannel 1 = .ok (.getfield 12, 3) := by decide +kernel
theorem dX1_lastChannel_4 : decode cX1_lastChannel 4 = .ok (.getfield 89, 3) := by decide +kernel
theorem dX1_lastChannel_7 : decode cX1_lastChannel 7 = .ok (.ireturn, 1) := by decide +kernel
theorem dX1_lastUnanimous_0 : decode cX1_lastUnanimous 0 = .ok (.aload_n 0, 1) := by decide +kernel
theorem dX1_lastUnanimous_1 : decode cX1_lastUnanimous 1 = .ok (.getfield 12, 3) := by decide +kernel
theorem dX1_lastUnanimous_4 : decode cX1_lastUnanimous 4 = .ok (.getfield 92, 3) := by decide +kernel
theorem dX1_lastUnanimous_7 : decode cX1_lastUnanimous 7 = .ok (.ireturn, 1) := by decide +kernel
theorem dX1_lastVoted_0 : decode cX1_lastVoted 0 = .ok (.aload_n 0, 1) := by decide +kernel
theorem dX1_lastVoted_1 : decode cX1_lastVoted 1 = .ok (.getfield 12, 3) := by decide +kernel
theorem dX1_lastVoted_4 : decode cX1_lastVoted 4 = .ok (.getfield 95, 3) := by decide +kernel
theorem dX1_lastVoted_7 : decode cX1_lastVoted 7 = .ok (.ireturn, 1) := by decide +kernel
set_option maxRecDepth 20000 in
theorem ggX1_scan_X1_isStation : GoodIn wsX1_scan wsX1_isStation := goodIn_r _ [6] (by decide +kernel) (by decide +kernel)
set_option maxRecDepth 20000 in
theorem gX1_scan_X1_isStation : GoodIn wsX1_scan (va_wsS RX1 20 yX1_isStation wsX1_isStation) := goodIn_app (goodIn_of _ (by decide +kernel)) ggX1_scan_X1_isStation
set_option maxRecDepth 20000 in
theorem ggX1_scan_X1_countInvalid : GoodIn wsX1_scan wsX1_countInvalid := goodIn_r _ [10, 11, 12, 13, 14, 15, 16, 17] (by decide +kernel) (by decide +kernel)
set_option maxRecDepth 20000 in
theorem gX1_scan_X1_countInvalid : GoodIn wsX1_scan (wsV RX1 24 RX1 yX1_countInvalid wsX1_countInvalid) := goodIn_app (goodIn_of _ (by decide +kernel)) ggX1_scan_X1_countInvalid
theorem dX1_scan_0 : decode cX1_scan 0 = .ok (.iload_n 1, 1) := by decide +kernel
theorem dX1_scan_1 : decode cX1_scan 1 = .ok (.invokestatic 20, 3) := by decide +kernel
theorem dX1_scan_4 : decode cX1_scan 4 = .ok (.ifCond .ne 8, 3) := by decide +kernel
theorem dX1_scan_7 : decode cX1_scan 7 = .ok (.aload_n 0, 1) := by decide +kernel
theorem dX1_scan_8 : decode cX1_scan 8 = .ok (.invokevirtual 24, 3) := by decide +kernel
theorem dX1_scan_11 : decode cX1_scan 11 = .ok (.ireturn, 1) := by decide +kernel
theorem dX1_scan_12 : decode cX1_scan 12 = .ok (.aload_n 0, 1) := by decide +kernel
theorem dX1_scan_13 : decode cX1_scan 13 = .ok (.getfield 12, 3) := by decide +kernel
theorem dX1_scan_16 : decode cX1_scan 16 = .ok (.getfield 31, 3) := by decide +kernel
theorem dX1_scan_19 : decode cX1_scan 19 = .ok (.iload_n 1, 1) := by decide +kernel
theorem dX1_scan_20 : decode cX1_scan 20 = .ok (.iaload, 1) := by decide +kernel
theorem dX1_scan_21 : decode cX1_scan 21 = .ok (.ireturn, 1) := by decide +kernel
set_option maxRecDepth 20000 in
theorem ggX1_listening_X1_isStation : GoodIn wsX1_listening wsX1_isStation := goodIn_r _ [5] (by decide +kernel) (by decide +kernel)
set_option maxRecDepth 20000 in
theorem gX1_listening_X1_isStation : GoodIn wsX1_listening (va_wsS RX1 20 yX1_isStation wsX1_isStation) := goodIn_app (goodIn_of _ (by decide +kernel)) ggX1_listening_X1_isStation
set_option maxRecDepth 20000 in
theorem ggX1_listening_X1_countInvalid : GoodIn wsX1_listening wsX1_countInvalid := goodIn_r _ [9, 10, 36, 37, 38, 39, 40, 41] (by decide +kernel) (by decide +kernel)
set_option maxRecDepth 20000 in
theorem gX1_listening_X1_countInvalid : GoodIn wsX1_listening (wsV RX1 24 RX1 yX1_countInvalid wsX1_countInvalid) := goodIn_app (goodIn_of _ (by decide +kernel)) ggX1_listening_X1_countInvalid
set_option maxRecDepth 20000 in
theorem ggX1_listening_X0_scannedChannel : GoodIn wsX1_listening wsX0_scannedChannel := goodIn_r _ [15, 16, 17, 18, 19, 20, 21, 22, 23, 24, 25, 26, 27, 14, 28, 29, 30, 31, 32, 33, 34, 4, 35, 42, 43, 44, 45, 46, 47, 48, 49, 50, 51, 52, 53, 54, 55, 56, 57] (by decide +kernel) (by decide +kernel)
set_option maxRecDepth 20000 in
theorem gX1_listening_X0_scannedChannel : GoodIn wsX1_listening (wsV RX1 98 RX0 yX0_scannedChannel wsX0_scannedChannel) := goodIn_app (goodIn_of _ (by decide +kernel)) ggX1_listening_X0_scannedChannel
theorem dX1_listening_0 : decode cX1_listening 0 = .ok (.iload_n 1, 1) := by decide +kernel
theorem dX1_listening_1 : decode cX1_listening 1 = .ok (.invokestatic 20, 3) := by decide +kernel
theorem dX1_listening_4 : decode cX1_listening 4 = .ok (.ifCond .ne 8, 3) := by decide +kernel
theorem dX1_listening_7 : decode cX1_listening 7 = .ok (.aload_n 0, 1) := by decide +kernel
theorem dX1_listening_8 : decode cX1_listening 8 = .ok (.invokevirtual 24, 3) := by decide +kernel
theorem dX1_listening_11 : decode cX1_listening 11 = .ok (.ireturn, 1) := by decide +kernel
theorem dX1_listening_12 : decode cX1_listening 12 = .ok (.aload_n 0, 1) := by decide +kernel
theorem dX1_listening_13 : decode cX1_listening 13 = .ok (.getfield 12, 3) := by decide +kernel
theorem dX1_listening_16 : decode cX1_listening 16 = .ok (.iload_n 1, 1) := by decide +kernel
theorem dX1_listening_17 : decode cX1_listening 17 = .ok (.invokevirtual 98, 3) := by decide +kernel
theorem dX1_listening_20 : decode cX1_listening 20 = .ok (.ireturn, 1) := by decide +kernel
set_option maxRecDepth 20000 in
theorem ggX1_quality_X1_isCell : GoodIn wsX1_quality wsX1_isCell := goodIn_r _ [6, 7, 8, 5, 9, 10, 11, 12, 13, 14, 15] (by decide +kernel) (by decide +kernel)
set_option maxRecDepth 20000 in
theorem gX1_quality_X1_isCell : GoodIn wsX1_quality (va_wsS RX1 35 yX1_isCell wsX1_isCell) := goodIn_app (goodIn_of _ (by decide +kernel)) ggX1_quality_X1_isCell
set_option maxRecDepth 20000 in
theorem ggX1_quality_X1_countInvalid : GoodIn wsX1_quality wsX1_countInvalid := goodIn_r _ [19, 20, 24, 25, 26, 27, 28, 29] (by decide +kernel) (by decide +kernel)
set_option maxRecDepth 20000 in
theorem gX1_quality_X1_countInvalid : GoodIn wsX1_quality (wsV RX1 24 RX1 yX1_countInvalid wsX1_countInvalid) := goodIn_app (goodIn_of _ (by decide +kernel)) ggX1_quality_X1_countInvalid
set_option maxRecDepth 20000 in
theorem ggX1_quality_X1_cell : GoodIn wsX1_quality wsX1_cell := goodIn_r _ [23] (by decide +kernel) (by decide +kernel)
set_option maxRecDepth 20000 in
theorem gX1_quality_X1_cell : GoodIn wsX1_quality (va_wsS RX1 42 yX1_cell wsX1_cell) := goodIn_app (goodIn_of _ (by decide +kernel)) ggX1_quality_X1_cell
theorem dX1_quality_0 : decode cX1_quality 0 = .ok (.iload_n 1, 1) := by decide +kernel
theorem dX1_quality_1 : decode cX1_quality 1 = .ok (.iload_n 2, 1) := by decide +kernel
theorem dX1_quality_2 : decode cX1_quality 2 = .ok (.iload_n 3, 1) := by decide +kernel
theorem dX1_quality_3 : decode cX1_quality 3 = .ok (.invokestatic 35, 3) := by decide +kernel
theorem dX1_quality_6 : decode cX1_quality 6 = .ok (.ifCond .ne 8, 3) := by decide +kernel
theorem dX1_quality_9 : decode cX1_quality 9 = .ok (.aload_n 0, 1) := by decide +kernel
theorem dX1_quality_10 : decode cX1_quality 10 = .ok (.invokevirtual 24, 3) := by decide +kernel
theorem dX1_quality_13 : decode cX1_quality 13 = .ok (.ireturn, 1) := by decide +kernel
theorem dX1_quality_14 : decode cX1_quality 14 = .ok (.aload_n 0, 1) := by decide +kernel
theorem dX1_quality_15 : decode cX1_quality 15 = .ok (.getfield 12, 3) := by decide +kernel
theorem dX1_quality_18 : decode cX1_quality 18 = .ok (.getfield 39, 3) := by decide +kernel
theorem dX1_quality_21 : decode cX1_quality 21 = .ok (.iload_n 1, 1) := by decide +kernel
theorem dX1_quality_22 : decode cX1_quality 22 = .ok (.iload_n 2, 1) := by decide +kernel
theorem dX1_quality_23 : decode cX1_quality 23 = .ok (.iload_n 3, 1) := by decide +kernel
theorem dX1_quality_24 : decode cX1_quality 24 = .ok (.invokestatic 42, 3) := by decide +kernel
theorem dX1_quality_27 : decode cX1_quality 27 = .ok (.iaload, 1) := by decide +kernel
theorem dX1_quality_28 : decode cX1_quality 28 = .ok (.ireturn, 1) := by decide +kernel
set_option maxRecDepth 20000 in
theorem ggX1_score_X1_isCell : GoodIn wsX1_score wsX1_isCell := goodIn_r _ [6, 7, 8, 5, 9, 10, 11, 12, 13, 14, 15] (by decide +kernel) (by decide +kernel)
set_option maxRecDepth 20000 in
theorem gX1_score_X1_isCell : GoodIn wsX1_score (va_wsS RX1 35 yX1_isCell wsX1_isCell) := goodIn_app (goodIn_of _ (by decide +kernel)) ggX1_score_X1_isCell
set_option maxRecDepth 20000 in
theorem ggX1_score_X1_countInvalid : GoodIn wsX1_score wsX1_countInvalid := goodIn_r _ [19, 20, 24, 25, 26, 27, 28, 29] (by decide +kernel) (by decide +kernel)
set_option maxRecDepth 20000 in
theorem gX1_score_X1_countInvalid : GoodIn wsX1_score (wsV RX1 24 RX1 yX1_countInvalid wsX1_countInvalid) := goodIn_app (goodIn_of _ (by decide +kernel)) ggX1_score_X1_countInvalid
set_option maxRecDepth 20000 in
theorem ggX1_score_X1_cell : GoodIn wsX1_score wsX1_cell := goodIn_r _ [23] (by decide +kernel) (by decide +kernel)
set_option maxRecDepth 20000 in
theorem gX1_score_X1_cell : GoodIn wsX1_score (va_wsS RX1 42 yX1_cell wsX1_cell) := goodIn_app (goodIn_of _ (by decide +kernel)) ggX1_score_X1_cell
theorem dX1_score_0 : decode cX1_score 0 = .ok (.iload_n 1, 1) := by decide +kernel
theorem dX1_score_1 : decode cX1_score 1 = .ok (.iload_n 2, 1) := by decide +kernel
theorem dX1_score_2 : decode cX1_score 2 = .ok (.iload_n 3, 1) := by decide +kernel
theorem dX1_score_3 : decode cX1_score 3 = .ok (.invokestatic 35, 3) := by decide +kernel
theorem dX1_score_6 : decode cX1_score 6 = .ok (.ifCond .ne 8, 3) := by decide +kernel
theorem dX1_score_9 : decode cX1_score 9 = .ok (.aload_n 0, 1) := by decide +kernel
theorem dX1_score_10 : decode cX1_score 10 = .ok (.invokevirtual 24, 3) := by decide +kernel
theorem dX1_score_13 : decode cX1_score 13 = .ok (.ireturn, 1) := by decide +kernel
theorem dX1_score_14 : decode cX1_score 14 = .ok (.aload_n 0, 1) := by decide +kernel
theorem dX1_score_15 : decode cX1_score 15 = .ok (.getfield 12, 3) := by decide +kernel
theorem dX1_score_18 : decode cX1_score 18 = .ok (.getfield 101, 3) := by decide +kernel
theorem dX1_score_21 : decode cX1_score 21 = .ok (.iload_n 1, 1) := by decide +kernel
theorem dX1_score_22 : decode cX1_score 22 = .ok (.iload_n 2, 1) := by decide +kernel
theorem dX1_score_23 : decode cX1_score 23 = .ok (.iload_n 3, 1) := by decide +kernel
theorem dX1_score_24 : decode cX1_score 24 = .ok (.invokestatic 42, 3) := by decide +kernel
theorem dX1_score_27 : decode cX1_score 27 = .ok (.iaload, 1) := by decide +kernel
theorem dX1_score_28 : decode cX1_score 28 = .ok (.ireturn, 1) := by decide +kernel
set_option maxRecDepth 20000 in
theorem ggX1_effective_X1_isCell : GoodIn wsX1_effective wsX1_isCell := goodIn_r _ [5, 6, 7, 4, 8, 9, 10, 11, 12, 13, 14] (by decide +kernel) (by decide +kernel)
set_option maxRecDepth 20000 in
theorem gX1_effective_X1_isCell : GoodIn wsX1_effective (va_wsS RX1 35 yX1_isCell wsX1_isCell) := goodIn_app (goodIn_of _ (by decide +kernel)) ggX1_effective_X1_isCell
set_option maxRecDepth 20000 in
theorem ggX1_effective_X1_countInvalid : GoodIn wsX1_effective wsX1_countInvalid := goodIn_r _ [18, 19, 35, 36, 37, 38, 39, 40] (by decide +kernel) (by decide +kernel)
set_option maxRecDepth 20000 in
theorem gX1_effective_X1_countInvalid : GoodIn wsX1_effective (wsV RX1 24 RX1 yX1_countInvalid wsX1_countInvalid) := goodIn_app (goodIn_of _ (by decide +kernel)) ggX1_effective_X1_countInvalid
set_option maxRecDepth 20000 in
theorem ggX1_effective_X0_agedScore : GoodIn wsX1_effective wsX0_agedScore := goodIn_r _ [24, 25, 26, 27, 28, 29, 30, 31, 32, 33, 4, 34, 41, 42, 43, 44, 45, 46, 47, 48, 49, 50, 51, 52, 53, 54, 55, 56] (by decide +kernel) (by decide +kernel)
set_option maxRecDepth 20000 in
theorem gX1_effective_X0_agedScore : GoodIn wsX1_effective (wsV RX1 104 RX0 yX0_agedScore wsX0_agedScore) := goodIn_app (goodIn_of _ (by decide +kernel)) ggX1_effective_X0_agedScore
theorem dX1_effective_0 : decode cX1_effective 0 = .ok (.iload_n 1, 1) := by decide +kernel
theorem dX1_effective_1 : decode cX1_effective 1 = .ok (.iload_n 2, 1) := by decide +kernel
theorem dX1_effective_2 : decode cX1_effective 2 = .ok (.iload_n 3, 1) := by decide +kernel
theorem dX1_effective_3 : decode cX1_effective 3 = .ok (.invokestatic 35, 3) := by decide +kernel
theorem dX1_effective_6 : decode cX1_effective 6 = .ok (.ifCond .ne 8, 3) := by decide +kernel
theorem dX1_effective_9 : decode cX1_effective 9 = .ok (.aload_n 0, 1) := by decide +kernel
theorem dX1_effective_10 : decode cX1_effective 10 = .ok (.invokevirtual 24, 3) := by decide +kernel
theorem dX1_effective_13 : decode cX1_effective 13 = .ok (.ireturn, 1) := by decide +kernel
theorem dX1_effective_14 : decode cX1_effective 14 = .ok (.aload_n 0, 1) := by decide +kernel
theorem dX1_effective_15 : decode cX1_effective 15 = .ok (.getfield 12, 3) := by decide +kernel
theorem dX1_effective_18 : decode cX1_effective 18 = .ok (.iload_n 1, 1) := by decide +kernel
theorem dX1_effective_19 : decode cX1_effective 19 = .ok (.iload_n 2, 1) := by decide +kernel
theorem dX1_effective_20 : decode cX1_effective 20 = .ok (.iload_n 3, 1) := by decide +kernel
theorem dX1_effective_21 : decode cX1_effective 21 = .ok (.invokevirtual 104, 3) := by decide +kernel
theorem dX1_effective_24 : decode cX1_effective 24 = .ok (.ireturn, 1) := by decide +kernel
set_option maxRecDepth 20000 in
theorem ggX1_bestChannel_X1_isPair : GoodIn wsX1_bestChannel wsX1_isPair := goodIn_r _ [5, 6, 7, 4, 8] (by decide +kernel) (by decide +kernel)
set_option maxRecDepth 20000 in
theorem gX1_bestChannel_X1_isPair : GoodIn wsX1_bestChannel (va_wsS RX1 69 yX1_isPair wsX1_isPair) := goodIn_app (goodIn_of _ (by decide +kernel)) ggX1_bestChannel_X1_isPair
set_option maxRecDepth 20000 in
theorem ggX1_bestChannel_X1_countInvalid : GoodIn wsX1_bestChannel wsX1_countInvalid := goodIn_r _ [12, 13, 52, 53, 54, 55, 56, 57] (by decide +kernel) (by decide +kernel)
set_option maxRecDepth 20000 in
theorem gX1_bestChannel_X1_countInvalid : GoodIn wsX1_bestChannel (wsV RX1 24 RX1 yX1_countInvalid wsX1_countInvalid) := goodIn_app (goodIn_of _ (by decide +kernel)) ggX1_bestChannel_X1_countInvalid
set_option maxRecDepth 20000 in
theorem ggX1_bestChannel_X0_preferredChannel : GoodIn wsX1_bestChannel wsX0_preferredChannel := goodIn_r _ [18, 19, 20, 21, 22, 17, 23, 24, 25, 26, 27, 28, 29, 30, 31, 32, 33, 4, 34, 35, 36, 37, 38, 39, 40, 41, 42, 43, 44, 45, 46, 47, 48, 49, 50, 51, 58, 59, 60, 61, 62, 63, 64, 65, 66, 67, 68, 69, 70, 71, 72, 73] (by decide +kernel) (by decide +kernel)
set_option maxRecDepth 20000 in
theorem gX1_bestChannel_X0_preferredChannel : GoodIn wsX1_bestChannel (wsV RX1 107 RX0 yX0_preferredChannel wsX0_preferredChannel) := goodIn_app (goodIn_of _ (by decide +kernel)) ggX1_bestChannel_X0_preferredChannel
theorem dX1_bestChannel_0 : decode cX1_bestChannel 0 = .ok (.iload_n 1, 1) := by decide +kernel
theorem dX1_bestChannel_1 : decode cX1_bestChannel 1 = .ok (.iload_n 2, 1) := by decide +kernel
theorem dX1_bestChannel_2 : decode cX1_bestChannel 2 = .ok (.invokestatic 69, 3) := by decide +kernel
theorem dX1_bestChannel_5 : decode cX1_bestChannel 5 = .ok (.ifCond .ne 8, 3) := by decide +kernel
theorem dX1_bestChannel_8 : decode cX1_bestChannel 8 = .ok (.aload_n 0, 1) := by decide +kernel
theorem dX1_bestChannel_9 : decode cX1_bestChannel 9 = .ok (.invokevirtual 24, 3) := by decide +kernel
theorem dX1_bestChannel_12 : decode cX1_bestChannel 12 = .ok (.ireturn, 1) := by decide +kernel
theorem dX1_bestChannel_13 : decode cX1_bestChannel 13 = .ok (.aload_n 0, 1) := by decide +kernel
theorem dX1_bestChannel_14 : decode cX1_bestChannel 14 = .ok (.getfield 12, 3) := by decide +kernel
theorem dX1_bestChannel_17 : decode cX1_bestChannel 17 = .ok (.iload_n 1, 1) := by decide +kernel
theorem dX1_bestChannel_18 : decode cX1_bestChannel 18 = .ok (.iconst 1, 1) := by decide +kernel
theorem dX1_bestChannel_19 : decode cX1_bestChannel 19 = .ok (.iload_n 2, 1) := by decide +kernel
theorem dX1_bestChannel_20 : decode cX1_bestChannel 20 = .ok (.ishl, 1) := by decide +kernel
theorem dX1_bestChannel_21 : decode cX1_bestChannel 21 = .ok (.invokevirtual 107, 3) := by decide +kernel
theorem dX1_bestChannel_24 : decode cX1_bestChannel 24 = .ok (.ireturn, 1) := by decide +kernel
set_option maxRecDepth 20000 in
theorem ggX1_netChannel_X1_isNet : GoodIn wsX1_netChannel wsX1_isNet := goodIn_r _ [5, 6, 7, 4, 8, 9, 10, 11] (by decide +kernel) (by decide +kernel)
set_option maxRecDepth 20000 in
theorem gX1_netChannel_X1_isNet : GoodIn wsX1_netChannel (va_wsS RX1 76 yX1_isNet wsX1_isNet) := goodIn_app (goodIn_of _ (by decide +kernel)) ggX1_netChannel_X1_isNet
set_option maxRecDepth 20000 in
theorem ggX1_netChannel_X1_countInvalid : GoodIn wsX1_netChannel wsX1_countInvalid := goodIn_r _ [15, 16, 53, 54, 55, 56, 57, 58] (by decide +kernel) (by decide +kernel)
set_option maxRecDepth 20000 in
theorem gX1_netChannel_X1_countInvalid : GoodIn wsX1_netChannel (wsV RX1 24 RX1 yX1_countInvalid wsX1_countInvalid) := goodIn_app (goodIn_of _ (by decide +kernel)) ggX1_netChannel_X1_countInvalid
set_option maxRecDepth 20000 in
theorem ggX1_netChannel_X0_preferredChannel : GoodIn wsX1_netChannel wsX0_preferredChannel := goodIn_r _ [21, 22, 23, 24, 25, 20, 26, 27, 28, 29, 30, 31, 32, 33, 34, 35, 10, 4, 11, 36, 37, 38, 39, 40, 41, 42, 43, 44, 45, 46, 47, 48, 49, 50, 51, 52, 59, 60, 61, 62, 63, 64, 65, 66, 67, 68, 69, 70, 71, 72, 73, 74] (by decide +kernel) (by decide +kernel)
set_option maxRecDepth 20000 in
theorem gX1_netChannel_X0_preferredChannel : GoodIn wsX1_netChannel (wsV RX1 107 RX0 yX0_preferredChannel wsX0_preferredChannel) := goodIn_app (goodIn_of _ (by decide +kernel)) ggX1_netChannel_X0_preferredChannel
theorem dX1_netChannel_0 : decode cX1_netChannel 0 = .ok (.iload_n 1, 1) := by decide +kernel
theorem dX1_netChannel_1 : decode cX1_netChannel 1 = .ok (.iload_n 2, 1) := by decide +kernel
theorem dX1_netChannel_2 : decode cX1_netChannel 2 = .ok (.invokestatic 76, 3) := by decide +kernel
theorem dX1_netChannel_5 : decode cX1_netChannel 5 = .ok (.ifCond .ne 8, 3) := by decide +kernel
theorem dX1_netChannel_8 : decode cX1_netChannel 8 = .ok (.aload_n 0, 1) := by decide +kernel
theorem dX1_netChannel_9 : decode cX1_netChannel 9 = .ok (.invokevirtual 24, 3) := by decide +kernel
theorem dX1_netChannel_12 : decode cX1_netChannel 12 = .ok (.ireturn, 1) := by decide +kernel
theorem dX1_netChannel_13 : decode cX1_netChannel 13 = .ok (.aload_n 0, 1) := by decide +kernel
theorem dX1_netChannel_14 : decode cX1_netChannel 14 = .ok (.getfield 12, 3) := by decide +kernel
theorem dX1_netChannel_17 : decode cX1_netChannel 17 = .ok (.iload_n 1, 1) := by decide +kernel
theorem dX1_netChannel_18 : decode cX1_netChannel 18 = .ok (.iload_n 2, 1) := by decide +kernel
theorem dX1_netChannel_19 : decode cX1_netChannel 19 = .ok (.invokevirtual 107, 3) := by decide +kernel
theorem dX1_netChannel_22 : decode cX1_netChannel 22 = .ok (.ireturn, 1) := by decide +kernel
set_option maxRecDepth 20000 in
theorem ggX1_link_X1_isStation : GoodIn wsX1_link wsX1_isStation := goodIn_r _ [6] (by decide +kernel) (by decide +kernel)
set_option maxRecDepth 20000 in
theorem gX1_link_X1_isStation : GoodIn wsX1_link (va_wsS RX1 20 yX1_isStation wsX1_isStation) := goodIn_app (goodIn_of _ (by decide +kernel)) ggX1_link_X1_isStation
set_option maxRecDepth 20000 in
theorem ggX1_link_X1_countInvalid : GoodIn wsX1_link wsX1_countInvalid := goodIn_r _ [10, 11, 12, 13, 14, 15, 16, 17] (by decide +kernel) (by decide +kernel)
set_option maxRecDepth 20000 in
theorem gX1_link_X1_countInvalid : GoodIn wsX1_link (wsV RX1 24 RX1 yX1_countInvalid wsX1_countInvalid) := goodIn_app (goodIn_of _ (by decide +kernel)) ggX1_link_X1_countInvalid
theorem dX1_link_0 : decode cX1_link 0 = .ok (.iload_n 1, 1) := by decide +kernel
theorem dX1_link_1 : decode cX1_link 1 = .ok (.invokestatic 20, 3) := by decide +kernel
theorem dX1_link_4 : decode cX1_link 4 = .ok (.ifCond .ne 8, 3) := by decide +kernel
theorem dX1_link_7 : decode cX1_link 7 = .ok (.aload_n 0, 1) := by decide +kernel
theorem dX1_link_8 : decode cX1_link 8 = .ok (.invokevirtual 24, 3) := by decide +kernel
theorem dX1_link_11 : decode cX1_link 11 = .ok (.ireturn, 1) := by decide +kernel
theorem dX1_link_12 : decode cX1_link 12 = .ok (.aload_n 0, 1) := by decide +kernel
theorem dX1_link_13 : decode cX1_link 13 = .ok (.getfield 12, 3) := by decide +kernel
theorem dX1_link_16 : decode cX1_link 16 = .ok (.getfield 110, 3) := by decide +kernel
theorem dX1_link_19 : decode cX1_link 19 = .ok (.iload_n 1, 1) := by decide +kernel
theorem dX1_link_20 : decode cX1_link 20 = .ok (.iaload, 1) := by decide +kernel
theorem dX1_link_21 : decode cX1_link 21 = .ok (.ireturn, 1) := by decide +kernel
set_option maxRecDepth 20000 in
theorem ggX1_linkChannel_X1_isStation : GoodIn wsX1_linkChannel wsX1_isStation := goodIn_r _ [6] (by decide +kernel) (by decide +kernel)
set_option maxRecDepth 20000 in
theorem gX1_linkChannel_X1_isStation : GoodIn wsX1_linkChannel (va_wsS RX1 20 yX1_isStation wsX1_isStation) := goodIn_app (goodIn_of _ (by decide +kernel)) ggX1_linkChannel_X1_isStation
set_option maxRecDepth 20000 in
theorem ggX1_linkChannel_X1_countInvalid : GoodIn wsX1_linkChannel wsX1_countInvalid := goodIn_r _ [10, 11, 12, 13, 14, 15, 16, 17] (by decide +kernel) (by decide +kernel)
set_option maxRecDepth 20000 in
theorem gX1_linkChannel_X1_countInvalid : GoodIn wsX1_linkChannel (wsV RX1 24 RX1 yX1_countInvalid wsX1_countInvalid) := goodIn_app (goodIn_of _ (by decide +kernel)) ggX1_linkChannel_X1_countInvalid
theorem dX1_linkChannel_0 : decode cX1_linkChannel 0 = .ok (.iload_n 1, 1) := by decide +kernel
theorem dX1_linkChannel_1 : decode cX1_linkChannel 1 = .ok (.invokestatic 20, 3) := by decide +kernel
theorem dX1_linkChannel_4 : decode cX1_linkChannel 4 = .ok (.ifCond .ne 8, 3) := by decide +kernel
theorem dX1_linkChannel_7 : decode cX1_linkChannel 7 = .ok (.aload_n 0, 1) := by decide +kernel
theorem dX1_linkChannel_8 : decode cX1_linkChannel 8 = .ok (.invokevirtual 24, 3) := by decide +kernel
theorem dX1_linkChannel_11 : decode cX1_linkChannel 11 = .ok (.ireturn, 1) := by decide +kernel
theorem dX1_linkChannel_12 : decode cX1_linkChannel 12 = .ok (.aload_n 0, 1) := by decide +kernel
theorem dX1_linkChannel_13 : decode cX1_linkChannel 13 = .ok (.getfield 12, 3) := by decide +kernel
theorem dX1_linkChannel_16 : decode cX1_linkChannel 16 = .ok (.getfield 113, 3) := by decide +kernel
theorem dX1_linkChannel_19 : decode cX1_linkChannel 19 = .ok (.iload_n 1, 1) := by decide +kernel
theorem dX1_linkChannel_20 : decode cX1_linkChannel 20 = .ok (.iaload, 1) := by decide +kernel
theorem dX1_linkChannel_21 : decode cX1_linkChannel 21 = .ok (.ireturn, 1) := by decide +kernel
theorem dX1_time_0 : decode cX1_time 0 = .ok (.aload_n 0, 1) := by decide +kernel
theorem dX1_time_1 : decode cX1_time 1 = .ok (.getfield 12, 3) := by decide +kernel
theorem dX1_time_4 : decode cX1_time 4 = .ok (.getfield 53, 3) := by decide +kernel
theorem dX1_time_7 : decode cX1_time 7 = .ok (.ireturn, 1) := by decide +kernel
theorem dX1_transmitted_0 : decode cX1_transmitted 0 = .ok (.aload_n 0, 1) := by decide +kernel
theorem dX1_transmitted_1 : decode cX1_transmitted 1 = .ok (.getfield 12, 3) := by decide +kernel
theorem dX1_transmitted_4 : decode cX1_transmitted 4 = .ok (.getfield 116, 3) := by decide +kernel
theorem dX1_transmitted_7 : decode cX1_transmitted 7 = .ok (.ireturn, 1) := by decide +kernel
theorem dX1_decoded_0 : decode cX1_decoded 0 = .ok (.aload_n 0, 1) := by decide +kernel
theorem dX1_decoded_1 : decode cX1_decoded 1 = .ok (.getfield 12, 3) := by decide +kernel
theorem dX1_decoded_4 : decode cX1_decoded 4 = .ok (.getfield 119, 3) := by decide +kernel
theorem dX1_decoded_7 : decode cX1_decoded 7 = .ok (.ireturn, 1) := by decide +kernel
set_option maxRecDepth 20000 in
theorem ggX1_vote_X1_isWord : GoodIn wsX1_vote wsX1_isWord := goodIn_r _ [4, 5] (by decide +kernel) (by decide +kernel)
set_option maxRecDepth 20000 in
theorem gX1_vote_X1_isWord : GoodIn wsX1_vote (va_wsS RX1 122 yX1_isWord wsX1_isWord) := goodIn_app (goodIn_of _ (by decide +kernel)) ggX1_vote_X1_isWord
set_option maxRecDepth 20000 in
theorem ggX1_vote_X1_countInvalid : GoodIn wsX1_vote wsX1_countInvalid := goodIn_r _ [9, 10, 14, 15, 16, 17, 18, 19] (by decide +kernel) (by decide +kernel)
set_option maxRecDepth 20000 in
theorem gX1_vote_X1_countInvalid : GoodIn wsX1_vote (wsV RX1 24 RX1 yX1_countInvalid wsX1_countInvalid) := goodIn_app (goodIn_of _ (by decide +kernel)) ggX1_vote_X1_countInvalid
set_option maxRecDepth 20000 in
theorem ggX1_vote_X1_majority : GoodIn wsX1_vote wsX1_majority := goodIn_r _ [13] (by decide +kernel) (by decide +kernel)
set_option maxRecDepth 20000 in
theorem gX1_vote_X1_majority : GoodIn wsX1_vote (va_wsS RX1 125 yX1_majority wsX1_majority) := goodIn_app (goodIn_of _ (by decide +kernel)) ggX1_vote_X1_majority
theorem dX1_vote_0 : decode cX1_vote 0 = .ok (.iload_n 1, 1) := by decide +kernel
theorem dX1_vote_1 : decode cX1_vote 1 = .ok (.invokestatic 122, 3) := by decide +kernel
theorem dX1_vote_4 : decode cX1_vote 4 = .ok (.ifCond .eq 17, 3) := by decide +kernel
theorem dX1_vote_7 : decode cX1_vote 7 = .ok (.iload_n 2, 1) := by decide +kernel
theorem dX1_vote_8 : decode cX1_vote 8 = .ok (.invokestatic 122, 3) := by decide +kernel
theorem dX1_vote_11 : decode cX1_vote 11 = .ok (.ifCond .eq 10, 3) := by decide +kernel
theorem dX1_vote_14 : decode cX1_vote 14 = .ok (.iload_n 3, 1) := by decide +kernel
theorem dX1_vote_15 : decode cX1_vote 15 = .ok (.invokestatic 122, 3) := by decide +kernel
theorem dX1_vote_18 : decode cX1_vote 18 = .ok (.ifCond .ne 8, 3) := by decide +kernel
theorem dX1_vote_21 : decode cX1_vote 21 = .ok (.aload_n 0, 1) := by decide +kernel
theorem dX1_vote_22 : decode cX1_vote 22 = .ok (.invokevirtual 24, 3) := by decide +kernel
theorem dX1_vote_25 : decode cX1_vote 25 = .ok (.ireturn, 1) := by decide +kernel
theorem dX1_vote_26 : decode cX1_vote 26 = .ok (.iload_n 1, 1) := by decide +kernel
theorem dX1_vote_27 : decode cX1_vote 27 = .ok (.iload_n 2, 1) := by decide +kernel
theorem dX1_vote_28 : decode cX1_vote 28 = .ok (.iload_n 3, 1) := by decide +kernel
theorem dX1_vote_29 : decode cX1_vote 29 = .ok (.invokestatic 125, 3) := by decide +kernel
theorem dX1_vote_32 : decode cX1_vote 32 = .ok (.ireturn, 1) := by decide +kernel
set_option maxRecDepth 20000 in
theorem ggX1_undo_X1_countRejected : GoodIn wsX1_undo wsX1_countRejected := goodIn_r _ [9, 10, 35, 36, 37, 38, 39, 40] (by decide +kernel) (by decide +kernel)
set_option maxRecDepth 20000 in
theorem gX1_undo_X1_countRejected : GoodIn wsX1_undo (wsV RX1 62 RX1 yX1_countRejected wsX1_countRejected) := goodIn_app (goodIn_of _ (by decide +kernel)) ggX1_undo_X1_countRejected
set_option maxRecDepth 20000 in
theorem ggX1_undo_X0_copyFrom : GoodIn wsX1_undo wsX0_copyFrom := goodIn_r _ [15, 16, 17, 18, 19, 20, 21, 22, 23, 24, 25, 26, 27, 28, 29, 30, 31, 32, 33, 34, 41, 42, 43, 44, 45, 46, 47, 48, 49, 50, 51, 52, 53, 54, 55, 56] (by decide +kernel) (by decide +kernel)
set_option maxRecDepth 20000 in
theorem gX1_undo_X0_copyFrom : GoodIn wsX1_undo (wsV RX1 134 RX0 yX0_copyFrom wsX0_copyFrom) := goodIn_app (goodIn_of _ (by decide +kernel)) ggX1_undo_X0_copyFrom
theorem dX1_undo_0 : decode cX1_undo 0 = .ok (.aload_n 0, 1) := by decide +kernel
theorem dX1_undo_1 : decode cX1_undo 1 = .ok (.getfield 128, 3) := by decide +kernel
theorem dX1_undo_4 : decode cX1_undo 4 = .ok (.ifCond .ne 8, 3) := by decide +kernel
theorem dX1_undo_7 : decode cX1_undo 7 = .ok (.aload_n 0, 1) := by decide +kernel
theorem dX1_undo_8 : decode cX1_undo 8 = .ok (.invokevirtual 62, 3) := by decide +kernel
theorem dX1_undo_11 : decode cX1_undo 11 = .ok (.ireturn, 1) := by decide +kernel
theorem dX1_undo_12 : decode cX1_undo 12 = .ok (.aload_n 0, 1) := by decide +kernel
theorem dX1_undo_13 : decode cX1_undo 13 = .ok (.aload_n 0, 1) := by decide +kernel
theorem dX1_undo_14 : decode cX1_undo 14 = .ok (.getfield 131, 3) := by decide +kernel
theorem dX1_undo_17 : decode cX1_undo 17 = .ok (.iconst 4, 1) := by decide +kernel
theorem dX1_undo_18 : decode cX1_undo 18 = .ok (.iadd, 1) := by decide +kernel
theorem dX1_undo_19 : decode cX1_undo 19 = .ok (.iconst 1, 1) := by decide +kernel
theorem dX1_undo_20 : decode cX1_undo 20 = .ok (.isub, 1) := by decide +kernel
theorem dX1_undo_21 : decode cX1_undo 21 = .ok (.iconst 4, 1) := by decide +kernel
theorem dX1_undo_22 : decode cX1_undo 22 = .ok (.irem, 1) := by decide +kernel
theorem dX1_undo_23 : decode cX1_undo 23 = .ok (.putfield 131, 3) := by decide +kernel
theorem dX1_undo_26 : decode cX1_undo 26 = .ok (.aload_n 0, 1) := by decide +kernel
theorem dX1_undo_27 : decode cX1_undo 27 = .ok (.dup, 1) := by decide +kernel
theorem dX1_undo_28 : decode cX1_undo 28 = .ok (.getfield 128, 3) := by decide +kernel
theorem dX1_undo_31 : decode cX1_undo 31 = .ok (.iconst 1, 1) := by decide +kernel
theorem dX1_undo_32 : decode cX1_undo 32 = .ok (.isub, 1) := by decide +kernel
theorem dX1_undo_33 : decode cX1_undo 33 = .ok (.putfield 128, 3) := by decide +kernel
theorem dX1_undo_36 : decode cX1_undo 36 = .ok (.aload_n 0, 1) := by decide +kernel
theorem dX1_undo_37 : decode cX1_undo 37 = .ok (.getfield 12, 3) := by decide +kernel
theorem dX1_undo_40 : decode cX1_undo 40 = .ok (.aload_n 0, 1) := by decide +kernel
theorem dX1_undo_41 : decode cX1_undo 41 = .ok (.getfield 16, 3) := by decide +kernel
theorem dX1_undo_44 : decode cX1_undo 44 = .ok (.aload_n 0, 1) := by decide +kernel
theorem dX1_undo_45 : decode cX1_undo 45 = .ok (.getfield 131, 3) := by decide +kernel
theorem dX1_undo_48 : decode cX1_undo 48 = .ok (.aaload, 1) := by decide +kernel
theorem dX1_undo_49 : decode cX1_undo 49 = .ok (.invokevirtual 134, 3) := by decide +kernel
theorem dX1_undo_52 : decode cX1_undo 52 = .ok (.aload_n 0, 1) := by decide +kernel
theorem dX1_undo_53 : decode cX1_undo 53 = .ok (.getfield 128, 3) := by decide +kernel
theorem dX1_undo_56 : decode cX1_undo 56 = .ok (.ireturn, 1) := by decide +kernel
set_option maxRecDepth 20000 in
theorem ggX1_errorCount_X1_countInvalid : GoodIn wsX1_errorCount wsX1_countInvalid := goodIn_r _ [7, 1, 8, 9, 10, 11, 12, 13] (by decide +kernel) (by decide +kernel)
set_option maxRecDepth 20000 in
theorem gX1_errorCount_X1_countInvalid : GoodIn wsX1_errorCount (wsV RX1 24 RX1 yX1_countInvalid wsX1_countInvalid) := goodIn_app (goodIn_of _ (by decide +kernel)) ggX1_errorCount_X1_countInvalid
theorem dX1_errorCount_0 : decode cX1_errorCount 0 = .ok (.iload_n 1, 1) := by decide +kernel
theorem dX1_errorCount_1 : decode cX1_errorCount 1 = .ok (.ifCond .ne 8, 3) := by decide +kernel
theorem dX1_errorCount_4 : decode cX1_errorCount 4 = .ok (.aload_n 0, 1) := by decide +kernel
theorem dX1_errorCount_5 : decode cX1_errorCount 5 = .ok (.getfield 138, 3) := by decide +kernel
theorem dX1_errorCount_8 : decode cX1_errorCount 8 = .ok (.ireturn, 1) := by decide +kernel
theorem dX1_errorCount_9 : decode cX1_errorCount 9 = .ok (.iload_n 1, 1) := by decide +kernel
theorem dX1_errorCount_10 : decode cX1_errorCount 10 = .ok (.iconst 1, 1) := by decide +kernel
theorem dX1_errorCount_11 : decode cX1_errorCount 11 = .ok (.if_icmp .ne 8, 3) := by decide +kernel
theorem dX1_errorCount_14 : decode cX1_errorCount 14 = .ok (.aload_n 0, 1) := by decide +kernel
theorem dX1_errorCount_15 : decode cX1_errorCount 15 = .ok (.getfield 141, 3) := by decide +kernel
theorem dX1_errorCount_18 : decode cX1_errorCount 18 = .ok (.ireturn, 1) := by decide +kernel
theorem dX1_errorCount_19 : decode cX1_errorCount 19 = .ok (.aload_n 0, 1) := by decide +kernel
theorem dX1_errorCount_20 : decode cX1_errorCount 20 = .ok (.invokevirtual 24, 3) := by decide +kernel
theorem dX1_errorCount_23 : decode cX1_errorCount 23 = .ok (.ireturn, 1) := by decide +kernel
set_option maxRecDepth 20000 in
theorem ggX1_digest_X1_mix : GoodIn wsX1_digest wsX1_mix := goodIn_r _ [9, 10] (by decide +kernel) (by decide +kernel)
set_option maxRecDepth 20000 in
theorem gX1_digest_X1_mix : GoodIn wsX1_digest (va_wsS RX1 146 yX1_mix wsX1_mix) := goodIn_app (goodIn_of _ (by decide +kernel)) ggX1_digest_X1_mix
set_option maxRecDepth 20000 in
theorem ggX1_digest_X0_mixCounters : GoodIn wsX1_digest wsX0_mixCounters := goodIn_r _ [15, 16, 17, 18, 19, 20, 21, 22, 23, 24, 7, 8, 9, 10, 54, 55, 56, 57, 58, 59, 60, 61, 62, 63, 64, 65, 66, 67, 68, 69] (by decide +kernel) (by decide +kernel)
set_option maxRecDepth 20000 in
theorem gX1_digest_X0_mixCounters : GoodIn wsX1_digest (wsV RX1 150 RX0 yX0_mixCounters wsX0_mixCounters) := goodIn_app (goodIn_of _ (by decide +kernel)) ggX1_digest_X0_mixCounters
set_option maxRecDepth 20000 in
theorem ggX1_digest_X0_mixStations : GoodIn wsX1_digest wsX0_mixStations := goodIn_r _ [28, 29, 30, 31, 7, 8, 9, 10, 54, 55, 56, 57, 58, 59, 60, 61, 62, 63, 64, 65, 66, 67, 68, 69] (by decide +kernel) (by decide +kernel)
set_option maxRecDepth 20000 in
theorem gX1_digest_X0_mixStations : GoodIn wsX1_digest (wsV RX1 154 RX0 yX0_mixStations wsX0_mixStations) := goodIn_app (goodIn_of _ (by decide +kernel)) ggX1_digest_X0_mixStations
set_option maxRecDepth 20000 in
theorem ggX1_digest_X0_mixScores : GoodIn wsX1_digest wsX0_mixScores := goodIn_r _ [35, 36, 37, 8, 38, 7, 9, 10, 39, 40, 41, 14, 42, 17, 16, 43, 44, 45, 46, 47, 54, 55, 56, 57, 58, 59, 60, 61, 62, 63, 64, 65, 66, 67, 68, 69] (by decide +kernel) (by decide +kernel)
set_option maxRecDepth 20000 in
theorem gX1_digest_X0_mixScores : GoodIn wsX1_digest (wsV RX1 157 RX0 yX0_mixScores wsX0_mixScores) := goodIn_app (goodIn_of _ (by decide +kernel)) ggX1_digest_X0_mixScores
theorem dX1_digest_0 : decode cX1_digest 0 = .ok (.ldc2_w 144, 3) := by decide +kernel
theorem dX1_digest_3 : decode cX1_digest 3 = .ok (.lstore_n 1, 1) := by decide +kernel
theorem dX1_digest_4 : decode cX1_digest 4 = .ok (.lload_n 1, 1) := by decide +kernel
theorem dX1_digest_5 : decode cX1_digest 5 = .ok (.aload_n 0, 1) := by decide +kernel
theorem dX1_digest_6 : decode cX1_digest 6 = .ok (.getfield 138, 3) := by decide +kernel
theorem dX1_digest_9 : decode cX1_digest 9 = .ok (.i2l, 1) := by decide +kernel
theorem dX1_digest_10 : decode cX1_digest 10 = .ok (.invokestatic 146, 3) := by decide +kernel
theorem dX1_digest_13 : decode cX1_digest 13 = .ok (.lstore_n 1, 1) := by decide +kernel
theorem dX1_digest_14 : decode cX1_digest 14 = .ok (.lload_n 1, 1) := by decide +kernel
theorem dX1_digest_15 : decode cX1_digest 15 = .ok (.aload_n 0, 1) := by decide +kernel
theorem dX1_digest_16 : decode cX1_digest 16 = .ok (.getfield 141, 3) := by decide +kernel
theorem dX1_digest_19 : decode cX1_digest 19 = .ok (.i2l, 1) := by decide +kernel
theorem dX1_digest_20 : decode cX1_digest 20 = .ok (.invokestatic 146, 3) := by decide +kernel
theorem dX1_digest_23 : decode cX1_digest 23 = .ok (.lstore_n 1, 1) := by decide +kernel
theorem dX1_digest_24 : decode cX1_digest 24 = .ok (.lload_n 1, 1) := by decide +kernel
theorem dX1_digest_25 : decode cX1_digest 25 = .ok (.aload_n 0, 1) := by decide +kernel
theorem dX1_digest_26 : decode cX1_digest 26 = .ok (.getfield 128, 3) := by decide +kernel
theorem dX1_digest_29 : decode cX1_digest 29 = .ok (.i2l, 1) := by decide +kernel
theorem dX1_digest_30 : decode cX1_digest 30 = .ok (.invokestatic 146, 3) := by decide +kernel
theorem dX1_digest_33 : decode cX1_digest 33 = .ok (.lstore_n 1, 1) := by decide +kernel
theorem dX1_digest_34 : decode cX1_digest 34 = .ok (.aload_n 0, 1) := by decide +kernel
theorem dX1_digest_35 : decode cX1_digest 35 = .ok (.getfield 12, 3) := by decide +kernel
theorem dX1_digest_38 : decode cX1_digest 38 = .ok (.lload_n 1, 1) := by decide +kernel
theorem dX1_digest_39 : decode cX1_digest 39 = .ok (.invokevirtual 150, 3) := by decide +kernel
theorem dX1_digest_42 : decode cX1_digest 42 = .ok (.lstore_n 1, 1) := by decide +kernel
theorem dX1_digest_43 : decode cX1_digest 43 = .ok (.aload_n 0, 1) := by decide +kernel
theorem dX1_digest_44 : decode cX1_digest 44 = .ok (.getfield 12, 3) := by decide +kernel
theorem dX1_digest_47 : decode cX1_digest 47 = .ok (.lload_n 1, 1) := by decide +kernel
theorem dX1_digest_48 : decode cX1_digest 48 = .ok (.invokevirtual 154, 3) := by decide +kernel
theorem dX1_digest_51 : decode cX1_digest 51 = .ok (.lstore_n 1, 1) := by decide +kernel
theorem dX1_digest_52 : decode cX1_digest 52 = .ok (.aload_n 0, 1) := by decide +kernel
theorem dX1_digest_53 : decode cX1_digest 53 = .ok (.getfield 12, 3) := by decide +kernel
theorem dX1_digest_56 : decode cX1_digest 56 = .ok (.lload_n 1, 1) := by decide +kernel
theorem dX1_digest_57 : decode cX1_digest 57 = .ok (.invokevirtual 157, 3) := by decide +kernel
theorem dX1_digest_60 : decode cX1_digest 60 = .ok (.lreturn, 1) := by decide +kernel
theorem dX1_countInvalid_0 : decode cX1_countInvalid 0 = .ok (.aload_n 0, 1) := by decide +kernel
theorem dX1_countInvalid_1 : decode cX1_countInvalid 1 = .ok (.dup, 1) := by decide +kernel
theorem dX1_countInvalid_2 : decode cX1_countInvalid 2 = .ok (.getfield 138, 3) := by decide +kernel
theorem dX1_countInvalid_5 : decode cX1_countInvalid 5 = .ok (.iconst 1, 1) := by decide +kernel
theorem dX1_countInvalid_6 : decode cX1_countInvalid 6 = .ok (.iadd, 1) := by decide +kernel
theorem dX1_countInvalid_7 : decode cX1_countInvalid 7 = .ok (.putfield 138, 3) := by decide +kernel
theorem dX1_countInvalid_10 : decode cX1_countInvalid 10 = .ok (.bipush (-2), 2) := by decide +kernel
theorem dX1_countInvalid_12 : decode cX1_countInvalid 12 = .ok (.ireturn, 1) := by decide +kernel
theorem dX1_countRejected_0 : decode cX1_countRejected 0 = .ok (.aload_n 0, 1) := by decide +kernel
theorem dX1_countRejected_1 : decode cX1_countRejected 1 = .ok (.dup, 1) := by decide +kernel
theorem dX1_countRejected_2 : decode cX1_countRejected 2 = .ok (.getfield 141, 3) := by decide +kernel
theorem dX1_countRejected_5 : decode cX1_countRejected 5 = .ok (.iconst 1, 1) := by decide +kernel
theorem dX1_countRejected_6 : decode cX1_countRejected 6 = .ok (.iadd, 1) := by decide +kernel
theorem dX1_countRejected_7 : decode cX1_countRejected 7 = .ok (.putfield 141, 3) := by decide +kernel
theorem dX1_countRejected_10 : decode cX1_countRejected 10 = .ok (.bipush (-3), 2) := by decide +kernel
theorem dX1_countRejected_12 : decode cX1_countRejected 12 = .ok (.ireturn, 1) := by decide +kernel
set_option maxRecDepth 20000 in
theorem ggX1_saveState_X0_copyFrom : GoodIn wsX1_saveState wsX0_copyFrom := goodIn_r _ [13, 14, 15, 16, 17, 18, 19, 20, 21, 22, 23, 24, 25, 26, 27, 28, 29, 30, 31, 32, 39, 40, 41, 42, 43, 44, 45, 46, 47, 48, 49, 50, 51, 52, 53, 54] (by decide +kernel) (by decide +kernel)
set_option maxRecDepth 20000 in
theorem gX1_saveState_X0_copyFrom : GoodIn wsX1_saveState (wsV RX1 134 RX0 yX0_copyFrom wsX0_copyFrom) := goodIn_app (goodIn_of _ (by decide +kernel)) ggX1_saveState_X0_copyFrom
theorem dX1_saveState_0 : decode cX1_saveState 0 = .ok (.aload_n 0, 1) := by decide +kernel
theorem dX1_saveState_1 : decode cX1_saveState 1 = .ok (.getfield 16, 3) := by decide +kernel
theorem dX1_saveState_4 : decode cX1_saveState 4 = .ok (.aload_n 0, 1) := by decide +kernel
theorem dX1_saveState_5 : decode cX1_saveState 5 = .ok (.getfield 131, 3) := by decide +kernel
theorem dX1_saveState_8 : decode cX1_saveState 8 = .ok (.aaload, 1) := by decide +kernel
theorem dX1_saveState_9 : decode cX1_saveState 9 = .ok (.aload_n 0, 1) := by decide +kernel
theorem dX1_saveState_10 : decode cX1_saveState 10 = .ok (.getfield 12, 3) := by decide +kernel
theorem dX1_saveState_13 : decode cX1_saveState 13 = .ok (.invokevirtual 134, 3) := by decide +kernel
theorem dX1_saveState_16 : decode cX1_saveState 16 = .ok (.aload_n 0, 1) := by decide +kernel
theorem dX1_saveState_17 : decode cX1_saveState 17 = .ok (.aload_n 0, 1) := by decide +kernel
theorem dX1_saveState_18 : decode cX1_saveState 18 = .ok (.getfield 131, 3) := by decide +kernel
theorem dX1_saveState_21 : decode cX1_saveState 21 = .ok (.iconst 1, 1) := by decide +kernel
theorem dX1_saveState_22 : decode cX1_saveState 22 = .ok (.iadd, 1) := by decide +kernel
theorem dX1_saveState_23 : decode cX1_saveState 23 = .ok (.iconst 4, 1) := by decide +kernel
theorem dX1_saveState_24 : decode cX1_saveState 24 = .ok (.irem, 1) := by decide +kernel
theorem dX1_saveState_25 : decode cX1_saveState 25 = .ok (.putfield 131, 3) := by decide +kernel
theorem dX1_saveState_28 : decode cX1_saveState 28 = .ok (.aload_n 0, 1) := by decide +kernel
theorem dX1_saveState_29 : decode cX1_saveState 29 = .ok (.aload_n 0, 1) := by decide +kernel
theorem dX1_saveState_30 : decode cX1_saveState 30 = .ok (.getfield 128, 3) := by decide +kernel
theorem dX1_saveState_33 : decode cX1_saveState 33 = .ok (.iconst 1, 1) := by decide +kernel
theorem dX1_saveState_34 : decode cX1_saveState 34 = .ok (.iadd, 1) := by decide +kernel
theorem dX1_saveState_35 : decode cX1_saveState 35 = .ok (.iconst 4, 1) := by decide +kernel
theorem dX1_saveState_36 : decode cX1_saveState 36 = .ok (.invokestatic 160, 3) := by decide +kernel
theorem dX1_saveState_39 : decode cX1_saveState 39 = .ok (.putfield 128, 3) := by decide +kernel
theorem dX1_saveState_42 : decode cX1_saveState 42 = .ok (.return_, 1) := by decide +kernel
theorem dX1_isStation_0 : decode cX1_isStation 0 = .ok (.iload_n 0, 1) := by decide +kernel
theorem dX1_isStation_1 : decode cX1_isStation 1 = .ok (.ifCond .lt 12, 3) := by decide +kernel
theorem dX1_isStation_4 : decode cX1_isStation 4 = .ok (.iload_n 0, 1) := by decide +kernel
theorem dX1_isStation_5 : decode cX1_isStation 5 = .ok (.iconst 5, 1) := by decide +kernel
theorem dX1_isStation_6 : decode cX1_isStation 6 = .ok (.if_icmp .ge 7, 3) := by decide +kernel
theorem dX1_isStation_9 : decode cX1_isStation 9 = .ok (.iconst 1, 1) := by decide +kernel
theorem dX1_isStation_10 : decode cX1_isStation 10 = .ok (.goto 4, 3) := by decide +kernel
theorem dX1_isStation_13 : decode cX1_isStation 13 = .ok (.iconst 0, 1) := by decide +kernel
theorem dX1_isStation_14 : decode cX1_isStation 14 = .ok (.ireturn, 1) := by decide +kernel
theorem dX1_isChannel_0 : decode cX1_isChannel 0 = .ok (.iload_n 0, 1) := by decide +kernel
theorem dX1_isChannel_1 : decode cX1_isChannel 1 = .ok (.ifCond .lt 13, 3) := by decide +kernel
theorem dX1_isChannel_4 : decode cX1_isChannel 4 = .ok (.iload_n 0, 1) := by decide +kernel
theorem dX1_isChannel_5 : decode cX1_isChannel 5 = .ok (.bipush 8, 2) := by decide +kernel
theorem dX1_isChannel_7 : decode cX1_isChannel 7 = .ok (.if_icmp .ge 7, 3) := by decide +kernel
theorem dX1_isChannel_10 : decode cX1_isChannel 10 = .ok (.iconst 1, 1) := by decide +kernel
theorem dX1_isChannel_11 : decode cX1_isChannel 11 = .ok (.goto 4, 3) := by decide +kernel
theorem dX1_isChannel_14 : decode cX1_isChannel 14 = .ok (.iconst 0, 1) := by decide +kernel
theorem dX1_isChannel_15 : decode cX1_isChannel 15 = .ok (.ireturn, 1) := by decide +kernel
theorem dX1_isWord_0 : decode cX1_isWord 0 = .ok (.iload_n 0, 1) := by decide +kernel
theorem dX1_isWord_1 : decode cX1_isWord 1 = .ok (.ifCond .lt 13, 3) := by decide +kernel
theorem dX1_isWord_4 : decode cX1_isWord 4 = .ok (.iload_n 0, 1) := by decide +kernel
theorem dX1_isWord_5 : decode cX1_isWord 5 = .ok (.ldc 165, 2) := by decide +kernel
theorem dX1_isWord_7 : decode cX1_isWord 7 = .ok (.if_icmp .gt 7, 3) := by decide +kernel
theorem dX1_isWord_10 : decode cX1_isWord 10 = .ok (.iconst 1, 1) := by decide +kernel
theorem dX1_isWord_11 : decode cX1_isWord 11 = .ok (.goto 4, 3) := by decide +kernel
theorem dX1_isWord_14 : decode cX1_isWord 14 = .ok (.iconst 0, 1) := by decide +kernel
theorem dX1_isWord_15 : decode cX1_isWord 15 = .ok (.ireturn, 1) := by decide +kernel
set_option maxRecDepth 20000 in
theorem ggX1_isPair_X1_isStation : GoodIn wsX1_isPair wsX1_isStation := goodIn_r _ [4] (by decide +kernel) (by decide +kernel)
set_option maxRecDepth 20000 in
theorem gX1_isPair_X1_isStation : GoodIn wsX1_isPair (va_wsS RX1 20 yX1_isStation wsX1_isStation) := goodIn_app (goodIn_of _ (by decide +kernel)) ggX1_isPair_X1_isStation
theorem dX1_isPair_0 : decode cX1_isPair 0 = .ok (.iload_n 0, 1) := by decide +kernel
theorem dX1_isPair_1 : decode cX1_isPair 1 = .ok (.invokestatic 20, 3) := by decide +kernel
theorem dX1_isPair_4 : decode cX1_isPair 4 = .ok (.ifCond .eq 19, 3) := by decide +kernel
theorem dX1_isPair_7 : decode cX1_isPair 7 = .ok (.iload_n 1, 1) := by decide +kernel
theorem dX1_isPair_8 : decode cX1_isPair 8 = .ok (.invokestatic 20, 3) := by decide +kernel
theorem dX1_isPair_11 : decode cX1_isPair 11 = .ok (.ifCond .eq 12, 3) := by decide +kernel
theorem dX1_isPair_14 : decode cX1_isPair 14 = .ok (.iload_n 0, 1) := by decide +kernel
theorem dX1_isPair_15 : decode cX1_isPair 15 = .ok (.iload_n 1, 1) := by decide +kernel
theorem dX1_isPair_16 : decode cX1_isPair 16 = .ok (.if_icmp .eq 7, 3) := by decide +kernel
theorem dX1_isPair_19 : decode cX1_isPair 19 = .ok (.iconst 1, 1) := by decide +kernel
theorem dX1_isPair_20 : decode cX1_isPair 20 = .ok (.goto 4, 3) := by decide +kernel
theorem dX1_isPair_23 : decode cX1_isPair 23 = .ok (.iconst 0, 1) := by decide +kernel
theorem dX1_isPair_24 : decode cX1_isPair 24 = .ok (.ireturn, 1) := by decide +kernel
set_option maxRecDepth 20000 in
theorem ggX1_isCell_X1_isPair : GoodIn wsX1_isCell wsX1_isPair := goodIn_r _ [4, 5, 6, 3, 7] (by decide +kernel) (by decide +kernel)
set_option maxRecDepth 20000 in
theorem gX1_isCell_X1_isPair : GoodIn wsX1_isCell (va_wsS RX1 69 yX1_isPair wsX1_isPair) := goodIn_app (goodIn_of _ (by decide +kernel)) ggX1_isCell_X1_isPair
set_option maxRecDepth 20000 in
theorem ggX1_isCell_X1_isChannel : GoodIn wsX1_isCell wsX1_isChannel := goodIn_r _ [10] (by decide +kernel) (by decide +kernel)
set_option maxRecDepth 20000 in
theorem gX1_isCell_X1_isChannel : GoodIn wsX1_isCell (va_wsS RX1 56 yX1_isChannel wsX1_isChannel) := goodIn_app (goodIn_of _ (by decide +kernel)) ggX1_isCell_X1_isChannel
theorem dX1_isCell_0 : decode cX1_isCell 0 = .ok (.iload_n 0, 1) := by decide +kernel
theorem dX1_isCell_1 : decode cX1_isCell 1 = .ok (.iload_n 1, 1) := by decide +kernel
theorem dX1_isCell_2 : decode cX1_isCell 2 = .ok (.invokestatic 69, 3) := by decide +kernel
theorem dX1_isCell_5 : decode cX1_isCell 5 = .ok (.ifCond .eq 14, 3) := by decide +kernel
theorem dX1_isCell_8 : decode cX1_isCell 8 = .ok (.iload_n 2, 1) := by decide +kernel
theorem dX1_isCell_9 : decode cX1_isCell 9 = .ok (.invokestatic 56, 3) := by decide +kernel
theorem dX1_isCell_12 : decode cX1_isCell 12 = .ok (.ifCond .eq 7, 3) := by decide +kernel
theorem dX1_isCell_15 : decode cX1_isCell 15 = .ok (.iconst 1, 1) := by decide +kernel
theorem dX1_isCell_16 : decode cX1_isCell 16 = .ok (.goto 4, 3) := by decide +kernel
theorem dX1_isCell_19 : decode cX1_isCell 19 = .ok (.iconst 0, 1) := by decide +kernel
theorem dX1_isCell_20 : decode cX1_isCell 20 = .ok (.ireturn, 1) := by decide +kernel
set_option maxRecDepth 20000 in
theorem ggX1_isNet_X1_isStation : GoodIn wsX1_isNet wsX1_isStation := goodIn_r _ [4] (by decide +kernel) (by decide +kernel)
set_option maxRecDepth 20000 in
theorem gX1_isNet_X1_isStation : GoodIn wsX1_isNet (va_wsS RX1 20 yX1_isStation wsX1_isStation) := goodIn_app (goodIn_of _ (by decide +kernel)) ggX1_isNet_X1_isStation
set_option maxRecDepth 20000 in
theorem ggX1_isNet_X1_contains : GoodIn wsX1_isNet wsX1_contains := goodIn_r _ [7] (by decide +kernel) (by decide +kernel)
set_option maxRecDepth 20000 in
theorem gX1_isNet_X1_contains : GoodIn wsX1_isNet (va_wsS RX1 166 yX1_contains wsX1_contains) := goodIn_app (goodIn_of _ (by decide +kernel)) ggX1_isNet_X1_contains
theorem dX1_isNet_0 : decode cX1_isNet 0 = .ok (.iload_n 0, 1) := by decide +kernel
theorem dX1_isNet_1 : decode cX1_isNet 1 = .ok (.invokestatic 20, 3) := by decide +kernel
theorem dX1_isNet_4 : decode cX1_isNet 4 = .ok (.ifCond .eq 26, 3) := by decide +kernel
theorem dX1_isNet_7 : decode cX1_isNet 7 = .ok (.iload_n 1, 1) := by decide +kernel
theorem dX1_isNet_8 : decode cX1_isNet 8 = .ok (.iconst 1, 1) := by decide +kernel
theorem dX1_isNet_9 : decode cX1_isNet 9 = .ok (.if_icmp .lt 21, 3) := by decide +kernel
theorem dX1_isNet_12 : decode cX1_isNet 12 = .ok (.iload_n 1, 1) := by decide +kernel
theorem dX1_isNet_13 : decode cX1_isNet 13 = .ok (.bipush 31, 2) := by decide +kernel
theorem dX1_isNet_15 : decode cX1_isNet 15 = .ok (.if_icmp .gt 15, 3) := by decide +kernel
theorem dX1_isNet_18 : decode cX1_isNet 18 = .ok (.iload_n 1, 1) := by decide +kernel
theorem dX1_isNet_19 : decode cX1_isNet 19 = .ok (.iload_n 0, 1) := by decide +kernel
theorem dX1_isNet_20 : decode cX1_isNet 20 = .ok (.invokestatic 166, 3) := by decide +kernel
theorem dX1_isNet_23 : decode cX1_isNet 23 = .ok (.ifCond .ne 7, 3) := by decide +kernel
theorem dX1_isNet_26 : decode cX1_isNet 26 = .ok (.iconst 1, 1) := by decide +kernel
theorem dX1_isNet_27 : decode cX1_isNet 27 = .ok (.goto 4, 3) := by decide +kernel
theorem dX1_isNet_30 : decode cX1_isNet 30 = .ok (.iconst 0, 1) := by decide +kernel
theorem dX1_isNet_31 : decode cX1_isNet 31 = .ok (.ireturn, 1) := by decide +kernel
theorem dX1_contains_0 : decode cX1_contains 0 = .ok (.iload_n 0, 1) := by decide +kernel
theorem dX1_contains_1 : decode cX1_contains 1 = .ok (.iconst 1, 1) := by decide +kernel
theorem dX1_contains_2 : decode cX1_contains 2 = .ok (.iload_n 1, 1) := by decide +kernel
theorem dX1_contains_3 : decode cX1_contains 3 = .ok (.ishl, 1) := by decide +kernel
theorem dX1_contains_4 : decode cX1_contains 4 = .ok (.iand, 1) := by decide +kernel
theorem dX1_contains_5 : decode cX1_contains 5 = .ok (.ifCond .eq 7, 3) := by decide +kernel
theorem dX1_contains_8 : decode cX1_contains 8 = .ok (.iconst 1, 1) := by decide +kernel
theorem dX1_contains_9 : decode cX1_contains 9 = .ok (.goto 4, 3) := by decide +kernel
theorem dX1_contains_12 : decode cX1_contains 12 = .ok (.iconst 0, 1) := by decide +kernel
theorem dX1_contains_13 : decode cX1_contains 13 = .ok (.ireturn, 1) := by decide +kernel
theorem dX1_cell_0 : decode cX1_cell 0 = .ok (.iload_n 0, 1) := by decide +kernel
theorem dX1_cell_1 : decode cX1_cell 1 = .ok (.iconst 5, 1) := by decide +kernel
theorem dX1_cell_2 : decode cX1_cell 2 = .ok (.imul, 1) := by decide +kernel
theorem dX1_cell_3 : decode cX1_cell 3 = .ok (.iload_n 1, 1) := by decide +kernel
theorem dX1_cell_4 : decode cX1_cell 4 = .ok (.iadd, 1) := by decide +kernel
theorem dX1_cell_5 : decode cX1_cell 5 = .ok (.bipush 8, 2) := by decide +kernel
theorem dX1_cell_7 : decode cX1_cell 7 = .ok (.imul, 1) := by decide +kernel
theorem dX1_cell_8 : decode cX1_cell 8 = .ok (.iload_n 2, 1) := by decide +kernel
theorem dX1_cell_9 : decode cX1_cell 9 = .ok (.iadd, 1) := by decide +kernel
theorem dX1_cell_10 : decode cX1_cell 10 = .ok (.ireturn, 1) := by decide +kernel
theorem dX1_majority_0 : decode cX1_majority 0 = .ok (.iload_n 0, 1) := by decide +kernel
theorem dX1_majority_1 : decode cX1_majority 1 = .ok (.iload_n 1, 1) := by decide +kernel
theorem dX1_majority_2 : decode cX1_majority 2 = .ok (.iand, 1) := by decide +kernel
theorem dX1_majority_3 : decode cX1_majority 3 = .ok (.iload_n 0, 1) := by decide +kernel
theorem dX1_majority_4 : decode cX1_majority 4 = .ok (.iload_n 2, 1) := by decide +kernel
theorem dX1_majority_5 : decode cX1_majority 5 = .ok (.iand, 1) := by decide +kernel
theorem dX1_majority_6 : decode cX1_majority 6 = .ok (.ior, 1) := by decide +kernel
theorem dX1_majority_7 : decode cX1_majority 7 = .ok (.iload_n 1, 1) := by decide +kernel
theorem dX1_majority_8 : decode cX1_majority 8 = .ok (.iload_n 2, 1) := by decide +kernel
theorem dX1_majority_9 : decode cX1_majority 9 = .ok (.iand, 1) := by decide +kernel
theorem dX1_majority_10 : decode cX1_majority 10 = .ok (.ior, 1) := by decide +kernel
theorem dX1_majority_11 : decode cX1_majority 11 = .ok (.ireturn, 1) := by decide +kernel
theorem dX1_mix_0 : decode cX1_mix 0 = .ok (.ldc2_w 169, 3) := by decide +kernel
theorem dX1_mix_3 : decode cX1_mix 3 = .ok (.lload_n 0, 1) := by decide +kernel
theorem dX1_mix_4 : decode cX1_mix 4 = .ok (.lmul, 1) := by decide +kernel
theorem dX1_mix_5 : decode cX1_mix 5 = .ok (.lload_n 2, 1) := by decide +kernel
theorem dX1_mix_6 : decode cX1_mix 6 = .ok (.ladd, 1) := by decide +kernel
theorem dX1_mix_7 : decode cX1_mix 7 = .ok (.lreturn, 1) := by decide +kernel
