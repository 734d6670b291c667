theorem dX2_init_0 : decode cX2_init 0 = .ok (.aload_n 0, 1) := by decide +kernel
theorem dX2_init_1 : decode cX2_init 1 = .ok (.invokespecial 1, 3) := by decide +kernel
theorem dX2_init_4 : decode cX2_init 4 = .ok (.aload_n 0, 1) := by decide +kernel
theorem dX2_init_5 : decode cX2_init 5 = .ok (.sipush 624, 3) := by decide +kernel
theorem dX2_init_8 : decode cX2_init 8 = .ok (.newarray .int, 2) := by decide +kernel
theorem dX2_init_10 : decode cX2_init 10 = .ok (.putfield 7, 3) := by decide +kernel
theorem dX2_init_13 : decode cX2_init 13 = .ok (.aload_n 0, 1) := by decide +kernel
theorem dX2_init_14 : decode cX2_init 14 = .ok (.sipush 2496, 3) := by decide +kernel
theorem dX2_init_17 : decode cX2_init 17 = .ok (.newarray .int, 2) := by decide +kernel
theorem dX2_init_19 : decode cX2_init 19 = .ok (.putfield 13, 3) := by decide +kernel
theorem dX2_init_22 : decode cX2_init 22 = .ok (.aload_n 0, 1) := by decide +kernel
theorem dX2_init_23 : decode cX2_init 23 = .ok (.iconst 2, 1) := by decide +kernel
theorem dX2_init_24 : decode cX2_init 24 = .ok (.newarray .int, 2) := by decide +kernel
theorem dX2_init_26 : decode cX2_init 26 = .ok (.putfield 16, 3) := by decide +kernel
theorem dX2_init_29 : decode cX2_init 29 = .ok (.aload_n 0, 1) := by decide +kernel
theorem dX2_init_30 : decode cX2_init 30 = .ok (.bipush 8, 2) := by decide +kernel
theorem dX2_init_32 : decode cX2_init 32 = .ok (.newarray .int, 2) := by decide +kernel
theorem dX2_init_34 : decode cX2_init 34 = .ok (.putfield 19, 3) := by decide +kernel
theorem dX2_init_37 : decode cX2_init 37 = .ok (.aload_n 0, 1) := by decide +kernel
theorem dX2_init_38 : decode cX2_init 38 = .ok (.bipush 8, 2) := by decide +kernel
theorem dX2_init_40 : decode cX2_init 40 = .ok (.newarray .int, 2) := by decide +kernel
theorem dX2_init_42 : decode cX2_init 42 = .ok (.putfield 22, 3) := by decide +kernel
theorem dX2_init_45 : decode cX2_init 45 = .ok (.aload_n 0, 1) := by decide +kernel
theorem dX2_init_46 : decode cX2_init 46 = .ok (.getfield 7, 3) := by decide +kernel
theorem dX2_init_49 : decode cX2_init 49 = .ok (.iconst 1, 1) := by decide +kernel
theorem dX2_init_50 : decode cX2_init 50 = .ok (.iconst 1, 1) := by decide +kernel
theorem dX2_init_51 : decode cX2_init 51 = .ok (.iastore, 1) := by decide +kernel
theorem dX2_init_52 : decode cX2_init 52 = .ok (.aload_n 0, 1) := by decide +kernel
theorem dX2_init_53 : decode cX2_init 53 = .ok (.getfield 7, 3) := by decide +kernel
theorem dX2_init_56 : decode cX2_init 56 = .ok (.iconst 2, 1) := by decide +kernel
theorem dX2_init_57 : decode cX2_init 57 = .ok (.bipush 10, 2) := by decide +kernel
theorem dX2_init_59 : decode cX2_init 59 = .ok (.iastore, 1) := by decide +kernel
theorem dX2_init_60 : decode cX2_init 60 = .ok (.aload_n 0, 1) := by decide +kernel
theorem dX2_init_61 : decode cX2_init 61 = .ok (.getfield 7, 3) := by decide +kernel
theorem dX2_init_64 : decode cX2_init 64 = .ok (.bipush 6, 2) := by decide +kernel
theorem dX2_init_66 : decode cX2_init 66 = .ok (.iconst (-1), 1) := by decide +kernel
theorem dX2_init_67 : decode cX2_init 67 = .ok (.iastore, 1) := by decide +kernel
theorem dX2_init_68 : decode cX2_init 68 = .ok (.aload_n 0, 1) := by decide +kernel
theorem dX2_init_69 : decode cX2_init 69 = .ok (.getfield 7, 3) := by decide +kernel
theorem dX2_init_72 : decode cX2_init 72 = .ok (.bipush 7, 2) := by decide +kernel
theorem dX2_init_74 : decode cX2_init 74 = .ok (.iconst (-1), 1) := by decide +kernel
theorem dX2_init_75 : decode cX2_init 75 = .ok (.iastore, 1) := by decide +kernel
theorem dX2_init_76 : decode cX2_init 76 = .ok (.aload_n 0, 1) := by decide +kernel
theorem dX2_init_77 : decode cX2_init 77 = .ok (.getfield 7, 3) := by decide +kernel
theorem dX2_init_80 : decode cX2_init 80 = .ok (.bipush 8, 2) := by decide +kernel
theorem dX2_init_82 : decode cX2_init 82 = .ok (.iconst (-1), 1) := by decide +kernel
theorem dX2_init_83 : decode cX2_init 83 = .ok (.iastore, 1) := by decide +kernel
theorem dX2_init_84 : decode cX2_init 84 = .ok (.iconst 0, 1) := by decide +kernel
theorem dX2_init_85 : decode cX2_init 85 = .ok (.istore_n 1, 1) := by decide +kernel
theorem dX2_init_86 : decode cX2_init 86 = .ok (.iload_n 1, 1) := by decide +kernel
theorem dX2_init_87 : decode cX2_init 87 = .ok (.iconst 5, 1) := by decide +kernel
theorem dX2_init_88 : decode cX2_init 88 = .ok (.if_icmp .ge 31, 3) := by decide +kernel
theorem dX2_init_91 : decode cX2_init 91 = .ok (.aload_n 0, 1) := by decide +kernel
theorem dX2_init_92 : decode cX2_init 92 = .ok (.getfield 7, 3) := by decide +kernel
theorem dX2_init_95 : decode cX2_init 95 = .ok (.bipush 9, 2) := by decide +kernel
theorem dX2_init_97 : decode cX2_init 97 = .ok (.iload_n 1, 1) := by decide +kernel
theorem dX2_init_98 : decode cX2_init 98 = .ok (.iadd, 1) := by decide +kernel
theorem dX2_init_99 : decode cX2_init 99 = .ok (.sipush 255, 3) := by decide +kernel
theorem dX2_init_102 : decode cX2_init 102 = .ok (.iastore, 1) := by decide +kernel
theorem dX2_init_103 : decode cX2_init 103 = .ok (.aload_n 0, 1) := by decide +kernel
theorem dX2_init_104 : decode cX2_init 104 = .ok (.getfield 7, 3) := by decide +kernel
theorem dX2_init_107 : decode cX2_init 107 = .ok (.bipush 19, 2) := by decide +kernel
theorem dX2_init_109 : decode cX2_init 109 = .ok (.iload_n 1, 1) := by decide +kernel
theorem dX2_init_110 : decode cX2_init 110 = .ok (.iadd, 1) := by decide +kernel
theorem dX2_init_111 : decode cX2_init 111 = .ok (.iconst (-1), 1) := by decide +kernel
theorem dX2_init_112 : decode cX2_init 112 = .ok (.iastore, 1) := by decide +kernel
theorem dX2_init_113 : decode cX2_init 113 = .ok (.iinc 1 1, 3) := by decide +kernel
theorem dX2_init_116 : decode cX2_init 116 = .ok (.goto (-30), 3) := by decide +kernel
theorem dX2_init_119 : decode cX2_init 119 = .ok (.iconst 0, 1) := by decide +kernel
theorem dX2_init_120 : decode cX2_init 120 = .ok (.istore_n 1, 1) := by decide +kernel
theorem dX2_init_121 : decode cX2_init 121 = .ok (.iload_n 1, 1) := by decide +kernel
theorem dX2_init_122 : decode cX2_init 122 = .ok (.sipush 200, 3) := by decide +kernel
theorem dX2_init_125 : decode cX2_init 125 = .ok (.if_icmp .ge 31, 3) := by decide +kernel
theorem dX2_init_128 : decode cX2_init 128 = .ok (.aload_n 0, 1) := by decide +kernel
theorem dX2_init_129 : decode cX2_init 129 = .ok (.getfield 7, 3) := by decide +kernel
theorem dX2_init_132 : decode cX2_init 132 = .ok (.bipush 24, 2) := by decide +kernel
theorem dX2_init_134 : decode cX2_init 134 = .ok (.iload_n 1, 1) := by decide +kernel
theorem dX2_init_135 : decode cX2_init 135 = .ok (.iadd, 1) := by decide +kernel
theorem dX2_init_136 : decode cX2_init 136 = .ok (.bipush 15, 2) := by decide +kernel
theorem dX2_init_138 : decode cX2_init 138 = .ok (.iastore, 1) := by decide +kernel
theorem dX2_init_139 : decode cX2_init 139 = .ok (.aload_n 0, 1) := by decide +kernel
theorem dX2_init_140 : decode cX2_init 140 = .ok (.getfield 7, 3) := by decide +kernel
theorem dX2_init_143 : decode cX2_init 143 = .ok (.sipush 224, 3) := by decide +kernel
theorem dX2_init_146 : decode cX2_init 146 = .ok (.iload_n 1, 1) := by decide +kernel
theorem dX2_init_147 : decode cX2_init 147 = .ok (.iadd, 1) := by decide +kernel
theorem dX2_init_148 : decode cX2_init 148 = .ok (.iconst (-1), 1) := by decide +kernel
theorem dX2_init_149 : decode cX2_init 149 = .ok (.iastore, 1) := by decide +kernel
theorem dX2_init_150 : decode cX2_init 150 = .ok (.iinc 1 1, 3) := by decide +kernel
theorem dX2_init_153 : decode cX2_init 153 = .ok (.goto (-32), 3) := by decide +kernel
theorem dX2_init_156 : decode cX2_init 156 = .ok (.return_, 1) := by decide +kernel
theorem dX2_in_0 : decode cX2_in 0 = .ok (.iload_n 0, 1) := by decide +kernel
theorem dX2_in_1 : decode cX2_in 1 = .ok (.iload_n 1, 1) := by decide +kernel
theorem dX2_in_2 : decode cX2_in 2 = .ok (.if_icmp .lt 12, 3) := by decide +kernel
theorem dX2_in_5 : decode cX2_in 5 = .ok (.iload_n 0, 1) := by decide +kernel
theorem dX2_in_6 : decode cX2_in 6 = .ok (.iload_n 2, 1) := by decide +kernel
theorem dX2_in_7 : decode cX2_in 7 = .ok (.if_icmp .gt 7, 3) := by decide +kernel
theorem dX2_in_10 : decode cX2_in 10 = .ok (.iconst 1, 1) := by decide +kernel
theorem dX2_in_11 : decode cX2_in 11 = .ok (.goto 4, 3) := by decide +kernel
theorem dX2_in_14 : decode cX2_in 14 = .ok (.iconst 0, 1) := by decide +kernel
theorem dX2_in_15 : decode cX2_in 15 = .ok (.ireturn, 1) := by decide +kernel
theorem dX2_has_0 : decode cX2_has 0 = .ok (.iload_n 0, 1) := by decide +kernel
theorem dX2_has_1 : decode cX2_has 1 = .ok (.iload_n 1, 1) := by decide +kernel
theorem dX2_has_2 : decode cX2_has 2 = .ok (.ishr, 1) := by decide +kernel
theorem dX2_has_3 : decode cX2_has 3 = .ok (.iconst 1, 1) := by decide +kernel
theorem dX2_has_4 : decode cX2_has 4 = .ok (.iand, 1) := by decide +kernel
theorem dX2_has_5 : decode cX2_has 5 = .ok (.iconst 1, 1) := by decide +kernel
theorem dX2_has_6 : decode cX2_has 6 = .ok (.if_icmp .ne 7, 3) := by decide +kernel
theorem dX2_has_9 : decode cX2_has 9 = .ok (.iconst 1, 1) := by decide +kernel
theorem dX2_has_10 : decode cX2_has 10 = .ok (.goto 4, 3) := by decide +kernel
theorem dX2_has_13 : decode cX2_has 13 = .ok (.iconst 0, 1) := by decide +kernel
theorem dX2_has_14 : decode cX2_has 14 = .ok (.ireturn, 1) := by decide +kernel
theorem dX2_fail_0 : decode cX2_fail 0 = .ok (.aload_n 0, 1) := by decide +kernel
theorem dX2_fail_1 : decode cX2_fail 1 = .ok (.getfield 16, 3) := by decide +kernel
theorem dX2_fail_4 : decode cX2_fail 4 = .ok (.bipush (-2), 2) := by decide +kernel
theorem dX2_fail_6 : decode cX2_fail 6 = .ok (.iload_n 1, 1) := by decide +kernel
theorem dX2_fail_7 : decode cX2_fail 7 = .ok (.isub, 1) := by decide +kernel
theorem dX2_fail_8 : decode cX2_fail 8 = .ok (.dup2, 1) := by decide +kernel
theorem dX2_fail_9 : decode cX2_fail 9 = .ok (.iaload, 1) := by decide +kernel
theorem dX2_fail_10 : decode cX2_fail 10 = .ok (.iconst 1, 1) := by decide +kernel
theorem dX2_fail_11 : decode cX2_fail 11 = .ok (.iadd, 1) := by decide +kernel
theorem dX2_fail_12 : decode cX2_fail 12 = .ok (.iastore, 1) := by decide +kernel
theorem dX2_fail_13 : decode cX2_fail 13 = .ok (.iload_n 1, 1) := by decide +kernel
theorem dX2_fail_14 : decode cX2_fail 14 = .ok (.ireturn, 1) := by decide +kernel
theorem dX2_note_0 : decode cX2_note 0 = .ok (.aload_n 0, 1) := by decide +kernel
theorem dX2_note_1 : decode cX2_note 1 = .ok (.getfield 25, 3) := by decide +kernel
theorem dX2_note_4 : decode cX2_note 4 = .ok (.iconst 4, 1) := by decide +kernel
theorem dX2_note_5 : decode cX2_note 5 = .ok (.if_icmp .ne 44, 3) := by decide +kernel
theorem dX2_note_8 : decode cX2_note 8 = .ok (.iconst 0, 1) := by decide +kernel
theorem dX2_note_9 : decode cX2_note 9 = .ok (.istore_n 1, 1) := by decide +kernel
theorem dX2_note_10 : decode cX2_note 10 = .ok (.iload_n 1, 1) := by decide +kernel
theorem dX2_note_11 : decode cX2_note 11 = .ok (.sipush 1872, 3) := by decide +kernel
theorem dX2_note_14 : decode cX2_note 14 = .ok (.if_icmp .ge 25, 3) := by decide +kernel
theorem dX2_note_17 : decode cX2_note 17 = .ok (.aload_n 0, 1) := by decide +kernel
theorem dX2_note_18 : decode cX2_note 18 = .ok (.getfield 13, 3) := by decide +kernel
theorem dX2_note_21 : decode cX2_note 21 = .ok (.iload_n 1, 1) := by decide +kernel
theorem dX2_note_22 : decode cX2_note 22 = .ok (.aload_n 0, 1) := by decide +kernel
theorem dX2_note_23 : decode cX2_note 23 = .ok (.getfield 13, 3) := by decide +kernel
theorem dX2_note_26 : decode cX2_note 26 = .ok (.iload_n 1, 1) := by decide +kernel
theorem dX2_note_27 : decode cX2_note 27 = .ok (.sipush 624, 3) := by decide +kernel
theorem dX2_note_30 : decode cX2_note 30 = .ok (.iadd, 1) := by decide +kernel
theorem dX2_note_31 : decode cX2_note 31 = .ok (.iaload, 1) := by decide +kernel
theorem dX2_note_32 : decode cX2_note 32 = .ok (.iastore, 1) := by decide +kernel
theorem dX2_note_33 : decode cX2_note 33 = .ok (.iinc 1 1, 3) := by decide +kernel
theorem dX2_note_36 : decode cX2_note 36 = .ok (.goto (-26), 3) := by decide +kernel
theorem dX2_note_39 : decode cX2_note 39 = .ok (.aload_n 0, 1) := by decide +kernel
theorem dX2_note_40 : decode cX2_note 40 = .ok (.dup, 1) := by decide +kernel
theorem dX2_note_41 : decode cX2_note 41 = .ok (.getfield 25, 3) := by decide +kernel
theorem dX2_note_44 : decode cX2_note 44 = .ok (.iconst 1, 1) := by decide +kernel
theorem dX2_note_45 : decode cX2_note 45 = .ok (.isub, 1) := by decide +kernel
theorem dX2_note_46 : decode cX2_note 46 = .ok (.putfield 25, 3) := by decide +kernel
theorem dX2_note_49 : decode cX2_note 49 = .ok (.iconst 0, 1) := by decide +kernel
theorem dX2_note_50 : decode cX2_note 50 = .ok (.istore_n 1, 1) := by decide +kernel
theorem dX2_note_51 : decode cX2_note 51 = .ok (.iload_n 1, 1) := by decide +kernel
theorem dX2_note_52 : decode cX2_note 52 = .ok (.sipush 624, 3) := by decide +kernel
theorem dX2_note_55 : decode cX2_note 55 = .ok (.if_icmp .ge 30, 3) := by decide +kernel
theorem dX2_note_58 : decode cX2_note 58 = .ok (.aload_n 0, 1) := by decide +kernel
theorem dX2_note_59 : decode cX2_note 59 = .ok (.getfield 13, 3) := by decide +kernel
theorem dX2_note_62 : decode cX2_note 62 = .ok (.sipush 624, 3) := by decide +kernel
theorem dX2_note_65 : decode cX2_note 65 = .ok (.aload_n 0, 1) := by decide +kernel
theorem dX2_note_66 : decode cX2_note 66 = .ok (.getfield 25, 3) := by decide +kernel
theorem dX2_note_69 : decode cX2_note 69 = .ok (.imul, 1) := by decide +kernel
theorem dX2_note_70 : decode cX2_note 70 = .ok (.iload_n 1, 1) := by decide +kernel
theorem dX2_note_71 : decode cX2_note 71 = .ok (.iadd, 1) := by decide +kernel
theorem dX2_note_72 : decode cX2_note 72 = .ok (.aload_n 0, 1) := by decide +kernel
theorem dX2_note_73 : decode cX2_note 73 = .ok (.getfield 7, 3) := by decide +kernel
theorem dX2_note_76 : decode cX2_note 76 = .ok (.iload_n 1, 1) := by decide +kernel
theorem dX2_note_77 : decode cX2_note 77 = .ok (.iaload, 1) := by decide +kernel
theorem dX2_note_78 : decode cX2_note 78 = .ok (.iastore, 1) := by decide +kernel
theorem dX2_note_79 : decode cX2_note 79 = .ok (.iinc 1 1, 3) := by decide +kernel
theorem dX2_note_82 : decode cX2_note 82 = .ok (.goto (-31), 3) := by decide +kernel
theorem dX2_note_85 : decode cX2_note 85 = .ok (.aload_n 0, 1) := by decide +kernel
theorem dX2_note_86 : decode cX2_note 86 = .ok (.dup, 1) := by decide +kernel
theorem dX2_note_87 : decode cX2_note 87 = .ok (.getfield 25, 3) := by decide +kernel
theorem dX2_note_90 : decode cX2_note 90 = .ok (.iconst 1, 1) := by decide +kernel
theorem dX2_note_91 : decode cX2_note 91 = .ok (.iadd, 1) := by decide +kernel
theorem dX2_note_92 : decode cX2_note 92 = .ok (.putfield 25, 3) := by decide +kernel
theorem dX2_note_95 : decode cX2_note 95 = .ok (.return_, 1) := by decide +kernel
set_option maxRecDepth 20000 in
theorem ggX2_undo_X2_fail : GoodIn wsX2_undo wsX2_fail := goodIn_r _ [8, 9, 10, 11, 12, 13, 14, 15, 16] (by decide +kernel) (by decide +kernel)
set_option maxRecDepth 20000 in
theorem gX2_undo_X2_fail : GoodIn wsX2_undo (wsV RX2 29 RX2 yX2_fail wsX2_fail) := goodIn_app (goodIn_of _ (by decide +kernel)) ggX2_undo_X2_fail
theorem dX2_undo_0 : decode cX2_undo 0 = .ok (.aload_n 0, 1) := by decide +kernel
theorem dX2_undo_1 : decode cX2_undo 1 = .ok (.getfield 25, 3) := by decide +kernel
theorem dX2_undo_4 : decode cX2_undo 4 = .ok (.ifCond .ne 10, 3) := by decide +kernel
theorem dX2_undo_7 : decode cX2_undo 7 = .ok (.aload_n 0, 1) := by decide +kernel
theorem dX2_undo_8 : decode cX2_undo 8 = .ok (.bipush (-3), 2) := by decide +kernel
theorem dX2_undo_10 : decode cX2_undo 10 = .ok (.invokevirtual 29, 3) := by decide +kernel
theorem dX2_undo_13 : decode cX2_undo 13 = .ok (.ireturn, 1) := by decide +kernel
theorem dX2_undo_14 : decode cX2_undo 14 = .ok (.aload_n 0, 1) := by decide +kernel
theorem dX2_undo_15 : decode cX2_undo 15 = .ok (.dup, 1) := by decide +kernel
theorem dX2_undo_16 : decode cX2_undo 16 = .ok (.getfield 25, 3) := by decide +kernel
theorem dX2_undo_19 : decode cX2_undo 19 = .ok (.iconst 1, 1) := by decide +kernel
theorem dX2_undo_20 : decode cX2_undo 20 = .ok (.isub, 1) := by decide +kernel
theorem dX2_undo_21 : decode cX2_undo 21 = .ok (.putfield 25, 3) := by decide +kernel
theorem dX2_undo_24 : decode cX2_undo 24 = .ok (.iconst 0, 1) := by decide +kernel
theorem dX2_undo_25 : decode cX2_undo 25 = .ok (.istore_n 1, 1) := by decide +kernel
theorem dX2_undo_26 : decode cX2_undo 26 = .ok (.iload_n 1, 1) := by decide +kernel
theorem dX2_undo_27 : decode cX2_undo 27 = .ok (.sipush 624, 3) := by decide +kernel
theorem dX2_undo_30 : decode cX2_undo 30 = .ok (.if_icmp .ge 30, 3) := by decide +kernel
theorem dX2_undo_33 : decode cX2_undo 33 = .ok (.aload_n 0, 1) := by decide +kernel
theorem dX2_undo_34 : decode cX2_undo 34 = .ok (.getfield 7, 3) := by decide +kernel
theorem dX2_undo_37 : decode cX2_undo 37 = .ok (.iload_n 1, 1) := by decide +kernel
theorem dX2_undo_38 : decode cX2_undo 38 = .ok (.aload_n 0, 1) := by decide +kernel
theorem dX2_undo_39 : decode cX2_undo 39 = .ok (.getfield 13, 3) := by decide +kernel
theorem dX2_undo_42 : decode cX2_undo 42 = .ok (.sipush 624, 3) := by decide +kernel
theorem dX2_undo_45 : decode cX2_undo 45 = .ok (.aload_n 0, 1) := by decide +kernel
theorem dX2_undo_46 : decode cX2_undo 46 = .ok (.getfield 25, 3) := by decide +kernel
theorem dX2_undo_49 : decode cX2_undo 49 = .ok (.imul, 1) := by decide +kernel
theorem dX2_undo_50 : decode cX2_undo 50 = .ok (.iload_n 1, 1) := by decide +kernel
theorem dX2_undo_51 : decode cX2_undo 51 = .ok (.iadd, 1) := by decide +kernel
theorem dX2_undo_52 : decode cX2_undo 52 = .ok (.iaload, 1) := by decide +kernel
theorem dX2_undo_53 : decode cX2_undo 53 = .ok (.iastore, 1) := by decide +kernel
theorem dX2_undo_54 : decode cX2_undo 54 = .ok (.iinc 1 1, 3) := by decide +kernel
theorem dX2_undo_57 : decode cX2_undo 57 = .ok (.goto (-31), 3) := by decide +kernel
theorem dX2_undo_60 : decode cX2_undo 60 = .ok (.aload_n 0, 1) := by decide +kernel
theorem dX2_undo_61 : decode cX2_undo 61 = .ok (.getfield 25, 3) := by decide +kernel
theorem dX2_undo_64 : decode cX2_undo 64 = .ok (.ireturn, 1) := by decide +kernel
set_option maxRecDepth 20000 in
theorem ggX2_isStation_X2_in : GoodIn wsX2_isStation wsX2_in := goodIn_r _ [4] (by decide +kernel) (by decide +kernel)
set_option maxRecDepth 20000 in
theorem gX2_isStation_X2_in : GoodIn wsX2_isStation (va_wsS RX2 33 yX2_in wsX2_in) := goodIn_app (goodIn_of _ (by decide +kernel)) ggX2_isStation_X2_in
theorem dX2_isStation_0 : decode cX2_isStation 0 = .ok (.iload_n 0, 1) := by decide +kernel
theorem dX2_isStation_1 : decode cX2_isStation 1 = .ok (.iconst 0, 1) := by decide +kernel
theorem dX2_isStation_2 : decode cX2_isStation 2 = .ok (.iconst 4, 1) := by decide +kernel
theorem dX2_isStation_3 : decode cX2_isStation 3 = .ok (.invokestatic 33, 3) := by decide +kernel
theorem dX2_isStation_6 : decode cX2_isStation 6 = .ok (.ireturn, 1) := by decide +kernel
set_option maxRecDepth 20000 in
theorem ggX2_isChannel_X2_in : GoodIn wsX2_isChannel wsX2_in := goodIn_r _ [4] (by decide +kernel) (by decide +kernel)
set_option maxRecDepth 20000 in
theorem gX2_isChannel_X2_in : GoodIn wsX2_isChannel (va_wsS RX2 33 yX2_in wsX2_in) := goodIn_app (goodIn_of _ (by decide +kernel)) ggX2_isChannel_X2_in
theorem dX2_isChannel_0 : decode cX2_isChannel 0 = .ok (.iload_n 0, 1) := by decide +kernel
theorem dX2_isChannel_1 : decode cX2_isChannel 1 = .ok (.iconst 0, 1) := by decide +kernel
theorem dX2_isChannel_2 : decode cX2_isChannel 2 = .ok (.bipush 7, 2) := by decide +kernel
theorem dX2_isChannel_4 : decode cX2_isChannel 4 = .ok (.invokestatic 33, 3) := by decide +kernel
theorem dX2_isChannel_7 : decode cX2_isChannel 7 = .ok (.ireturn, 1) := by decide +kernel
set_option maxRecDepth 20000 in
theorem ggX2_arePair_X2_isStation : GoodIn wsX2_arePair wsX2_isStation := goodIn_r _ [4, 5, 6, 3, 7] (by decide +kernel) (by decide +kernel)
set_option maxRecDepth 20000 in
theorem gX2_arePair_X2_isStation : GoodIn wsX2_arePair (va_wsS RX2 37 yX2_isStation wsX2_isStation) := goodIn_app (goodIn_of _ (by decide +kernel)) ggX2_arePair_X2_isStation
theorem dX2_arePair_0 : decode cX2_arePair 0 = .ok (.iload_n 0, 1) := by decide +kernel
theorem dX2_arePair_1 : decode cX2_arePair 1 = .ok (.invokestatic 37, 3) := by decide +kernel
theorem dX2_arePair_4 : decode cX2_arePair 4 = .ok (.ifCond .eq 19, 3) := by decide +kernel
theorem dX2_arePair_7 : decode cX2_arePair 7 = .ok (.iload_n 1, 1) := by decide +kernel
theorem dX2_arePair_8 : decode cX2_arePair 8 = .ok (.invokestatic 37, 3) := by decide +kernel
theorem dX2_arePair_11 : decode cX2_arePair 11 = .ok (.ifCond .eq 12, 3) := by decide +kernel
theorem dX2_arePair_14 : decode cX2_arePair 14 = .ok (.iload_n 0, 1) := by decide +kernel
theorem dX2_arePair_15 : decode cX2_arePair 15 = .ok (.iload_n 1, 1) := by decide +kernel
theorem dX2_arePair_16 : decode cX2_arePair 16 = .ok (.if_icmp .eq 7, 3) := by decide +kernel
theorem dX2_arePair_19 : decode cX2_arePair 19 = .ok (.iconst 1, 1) := by decide +kernel
theorem dX2_arePair_20 : decode cX2_arePair 20 = .ok (.goto 4, 3) := by decide +kernel
theorem dX2_arePair_23 : decode cX2_arePair 23 = .ok (.iconst 0, 1) := by decide +kernel
theorem dX2_arePair_24 : decode cX2_arePair 24 = .ok (.ireturn, 1) := by decide +kernel
theorem dX2_at_0 : decode cX2_at 0 = .ok (.bipush 40, 2) := by decide +kernel
theorem dX2_at_2 : decode cX2_at 2 = .ok (.iload_n 0, 1) := by decide +kernel
theorem dX2_at_3 : decode cX2_at 3 = .ok (.imul, 1) := by decide +kernel
theorem dX2_at_4 : decode cX2_at 4 = .ok (.bipush 8, 2) := by decide +kernel
theorem dX2_at_6 : decode cX2_at 6 = .ok (.iload_n 1, 1) := by decide +kernel
theorem dX2_at_7 : decode cX2_at 7 = .ok (.imul, 1) := by decide +kernel
theorem dX2_at_8 : decode cX2_at 8 = .ok (.iadd, 1) := by decide +kernel
theorem dX2_at_9 : decode cX2_at 9 = .ok (.iload_n 2, 1) := by decide +kernel
theorem dX2_at_10 : decode cX2_at 10 = .ok (.iadd, 1) := by decide +kernel
theorem dX2_at_11 : decode cX2_at 11 = .ok (.ireturn, 1) := by decide +kernel
theorem dX2_isLinked_0 : decode cX2_isLinked 0 = .ok (.aload_n 0, 1) := by decide +kernel
theorem dX2_isLinked_1 : decode cX2_isLinked 1 = .ok (.getfield 7, 3) := by decide +kernel
theorem dX2_isLinked_4 : decode cX2_isLinked 4 = .ok (.bipush 14, 2) := by decide +kernel
theorem dX2_isLinked_6 : decode cX2_isLinked 6 = .ok (.iload_n 1, 1) := by decide +kernel
theorem dX2_isLinked_7 : decode cX2_isLinked 7 = .ok (.iadd, 1) := by decide +kernel
theorem dX2_isLinked_8 : decode cX2_isLinked 8 = .ok (.iaload, 1) := by decide +kernel
theorem dX2_isLinked_9 : decode cX2_isLinked 9 = .ok (.ifCond .eq 7, 3) := by decide +kernel
theorem dX2_isLinked_12 : decode cX2_isLinked 12 = .ok (.iconst 1, 1) := by decide +kernel
theorem dX2_isLinked_13 : decode cX2_isLinked 13 = .ok (.goto 4, 3) := by decide +kernel
theorem dX2_isLinked_16 : decode cX2_isLinked 16 = .ok (.iconst 0, 1) := by decide +kernel
theorem dX2_isLinked_17 : decode cX2_isLinked 17 = .ok (.ireturn, 1) := by decide +kernel
theorem dX2_count_0 : decode cX2_count 0 = .ok (.iconst 0, 1) := by decide +kernel
theorem dX2_count_1 : decode cX2_count 1 = .ok (.istore_n 1, 1) := by decide +kernel
theorem dX2_count_2 : decode cX2_count 2 = .ok (.iconst 0, 1) := by decide +kernel
theorem dX2_count_3 : decode cX2_count 3 = .ok (.istore_n 2, 1) := by decide +kernel
theorem dX2_count_4 : decode cX2_count 4 = .ok (.iload_n 2, 1) := by decide +kernel
theorem dX2_count_5 : decode cX2_count 5 = .ok (.bipush 8, 2) := by decide +kernel
theorem dX2_count_7 : decode cX2_count 7 = .ok (.if_icmp .ge 17, 3) := by decide +kernel
theorem dX2_count_10 : decode cX2_count 10 = .ok (.iload_n 1, 1) := by decide +kernel
theorem dX2_count_11 : decode cX2_count 11 = .ok (.iload_n 0, 1) := by decide +kernel
theorem dX2_count_12 : decode cX2_count 12 = .ok (.iload_n 2, 1) := by decide +kernel
theorem dX2_count_13 : decode cX2_count 13 = .ok (.ishr, 1) := by decide +kernel
theorem dX2_count_14 : decode cX2_count 14 = .ok (.iconst 1, 1) := by decide +kernel
theorem dX2_count_15 : decode cX2_count 15 = .ok (.iand, 1) := by decide +kernel
theorem dX2_count_16 : decode cX2_count 16 = .ok (.iadd, 1) := by decide +kernel
theorem dX2_count_17 : decode cX2_count 17 = .ok (.istore_n 1, 1) := by decide +kernel
theorem dX2_count_18 : decode cX2_count 18 = .ok (.iinc 2 1, 3) := by decide +kernel
theorem dX2_count_21 : decode cX2_count 21 = .ok (.goto (-17), 3) := by decide +kernel
theorem dX2_count_24 : decode cX2_count 24 = .ok (.iload_n 1, 1) := by decide +kernel
theorem dX2_count_25 : decode cX2_count 25 = .ok (.ireturn, 1) := by decide +kernel
set_option maxRecDepth 20000 in
theorem ggX2_setScan_X2_isStation : GoodIn wsX2_setScan wsX2_isStation := goodIn_r _ [5, 6, 7, 4, 8] (by decide +kernel) (by decide +kernel)
set_option maxRecDepth 20000 in
theorem gX2_setScan_X2_isStation : GoodIn wsX2_setScan (va_wsS RX2 37 yX2_isStation wsX2_isStation) := goodIn_app (goodIn_of _ (by decide +kernel)) ggX2_setScan_X2_isStation
set_option maxRecDepth 20000 in
theorem ggX2_setScan_X2_in : GoodIn wsX2_setScan wsX2_in := goodIn_r _ [8] (by decide +kernel) (by decide +kernel)
set_option maxRecDepth 20000 in
theorem gX2_setScan_X2_in : GoodIn wsX2_setScan (va_wsS RX2 33 yX2_in wsX2_in) := goodIn_app (goodIn_of _ (by decide +kernel)) ggX2_setScan_X2_in
set_option maxRecDepth 20000 in
theorem ggX2_setScan_X2_fail : GoodIn wsX2_setScan wsX2_fail := goodIn_r _ [12, 13, 20, 21, 22, 23, 24, 25, 26] (by decide +kernel) (by decide +kernel)
set_option maxRecDepth 20000 in
theorem gX2_setScan_X2_fail : GoodIn wsX2_setScan (wsV RX2 29 RX2 yX2_fail wsX2_fail) := goodIn_app (goodIn_of _ (by decide +kernel)) ggX2_setScan_X2_fail
set_option maxRecDepth 20000 in
theorem ggX2_setScan_X2_note : GoodIn wsX2_setScan wsX2_note := goodIn_r _ [17, 18, 19, 1, 20, 21, 22, 23, 24, 25, 26] (by decide +kernel) (by decide +kernel)
set_option maxRecDepth 20000 in
theorem gX2_setScan_X2_note : GoodIn wsX2_setScan (wsV RX2 41 RX2 yX2_note wsX2_note) := goodIn_app (goodIn_of _ (by decide +kernel)) ggX2_setScan_X2_note
theorem dX2_setScan_0 : decode cX2_setScan 0 = .ok (.iload_n 1, 1) := by decide +kernel
theorem dX2_setScan_1 : decode cX2_setScan 1 = .ok (.invokestatic 37, 3) := by decide +kernel
theorem dX2_setScan_4 : decode cX2_setScan 4 = .ok (.ifCond .eq 14, 3) := by decide +kernel
theorem dX2_setScan_7 : decode cX2_setScan 7 = .ok (.iload_n 2, 1) := by decide +kernel
theorem dX2_setScan_8 : decode cX2_setScan 8 = .ok (.iconst 1, 1) := by decide +kernel
theorem dX2_setScan_9 : decode cX2_setScan 9 = .ok (.sipush 255, 3) := by decide +kernel
theorem dX2_setScan_12 : decode cX2_setScan 12 = .ok (.invokestatic 33, 3) := by decide +kernel
theorem dX2_setScan_15 : decode cX2_setScan 15 = .ok (.ifCond .ne 10, 3) := by decide +kernel
theorem dX2_setScan_18 : decode cX2_setScan 18 = .ok (.aload_n 0, 1) := by decide +kernel
theorem dX2_setScan_19 : decode cX2_setScan 19 = .ok (.bipush (-2), 2) := by decide +kernel
theorem dX2_setScan_21 : decode cX2_setScan 21 = .ok (.invokevirtual 29, 3) := by decide +kernel
theorem dX2_setScan_24 : decode cX2_setScan 24 = .ok (.ireturn, 1) := by decide +kernel
theorem dX2_setScan_25 : decode cX2_setScan 25 = .ok (.aload_n 0, 1) := by decide +kernel
theorem dX2_setScan_26 : decode cX2_setScan 26 = .ok (.invokevirtual 41, 3) := by decide +kernel
theorem dX2_setScan_29 : decode cX2_setScan 29 = .ok (.aload_n 0, 1) := by decide +kernel
theorem dX2_setScan_30 : decode cX2_setScan 30 = .ok (.getfield 7, 3) := by decide +kernel
theorem dX2_setScan_33 : decode cX2_setScan 33 = .ok (.bipush 9, 2) := by decide +kernel
theorem dX2_setScan_35 : decode cX2_setScan 35 = .ok (.iload_n 1, 1) := by decide +kernel
theorem dX2_setScan_36 : decode cX2_setScan 36 = .ok (.iadd, 1) := by decide +kernel
theorem dX2_setScan_37 : decode cX2_setScan 37 = .ok (.iaload, 1) := by decide +kernel
theorem dX2_setScan_38 : decode cX2_setScan 38 = .ok (.istore_n 3, 1) := by decide +kernel
theorem dX2_setScan_39 : decode cX2_setScan 39 = .ok (.aload_n 0, 1) := by decide +kernel
theorem dX2_setScan_40 : decode cX2_setScan 40 = .ok (.getfield 7, 3) := by decide +kernel
theorem dX2_setScan_43 : decode cX2_setScan 43 = .ok (.bipush 9, 2) := by decide +kernel
theorem dX2_setScan_45 : decode cX2_setScan 45 = .ok (.iload_n 1, 1) := by decide +kernel
theorem dX2_setScan_46 : decode cX2_setScan 46 = .ok (.iadd, 1) := by decide +kernel
theorem dX2_setScan_47 : decode cX2_setScan 47 = .ok (.iload_n 2, 1) := by decide +kernel
theorem dX2_setScan_48 : decode cX2_setScan 48 = .ok (.iastore, 1) := by decide +kernel
theorem dX2_setScan_49 : decode cX2_setScan 49 = .ok (.iload_n 3, 1) := by decide +kernel
theorem dX2_setScan_50 : decode cX2_setScan 50 = .ok (.ireturn, 1) := by decide +kernel
set_option maxRecDepth 20000 in
theorem ggX2_setQuality_X2_arePair : GoodIn wsX2_setQuality wsX2_arePair := goodIn_r _ [5, 6, 7, 4, 8, 9, 10, 11] (by decide +kernel) (by decide +kernel)
set_option maxRecDepth 20000 in
theorem gX2_setQuality_X2_arePair : GoodIn wsX2_setQuality (va_wsS RX2 44 yX2_arePair wsX2_arePair) := goodIn_app (goodIn_of _ (by decide +kernel)) ggX2_setQuality_X2_arePair
set_option maxRecDepth 20000 in
theorem ggX2_setQuality_X2_isChannel : GoodIn wsX2_setQuality wsX2_isChannel := goodIn_r _ [14, 9, 10, 4, 11] (by decide +kernel) (by decide +kernel)
set_option maxRecDepth 20000 in
theorem gX2_setQuality_X2_isChannel : GoodIn wsX2_setQuality (va_wsS RX2 48 yX2_isChannel wsX2_isChannel) := goodIn_app (goodIn_of _ (by decide +kernel)) ggX2_setQuality_X2_isChannel
set_option maxRecDepth 20000 in
theorem ggX2_setQuality_X2_in : GoodIn wsX2_setQuality wsX2_in := goodIn_r _ [11] (by decide +kernel) (by decide +kernel)
set_option maxRecDepth 20000 in
theorem gX2_setQuality_X2_in : GoodIn wsX2_setQuality (va_wsS RX2 33 yX2_in wsX2_in) := goodIn_app (goodIn_of _ (by decide +kernel)) ggX2_setQuality_X2_in
set_option maxRecDepth 20000 in
theorem ggX2_setQuality_X2_fail : GoodIn wsX2_setQuality wsX2_fail := goodIn_r _ [18, 19, 29, 30, 31, 32, 33, 34, 35] (by decide +kernel) (by decide +kernel)
set_option maxRecDepth 20000 in
theorem gX2_setQuality_X2_fail : GoodIn wsX2_setQuality (wsV RX2 29 RX2 yX2_fail wsX2_fail) := goodIn_app (goodIn_of _ (by decide +kernel)) ggX2_setQuality_X2_fail
set_option maxRecDepth 20000 in
theorem ggX2_setQuality_X2_note : GoodIn wsX2_setQuality wsX2_note := goodIn_r _ [23, 24, 25, 1, 29, 30, 31, 32, 33, 34, 35] (by decide +kernel) (by decide +kernel)
set_option maxRecDepth 20000 in
theorem gX2_setQuality_X2_note : GoodIn wsX2_setQuality (wsV RX2 41 RX2 yX2_note wsX2_note) := goodIn_app (goodIn_of _ (by decide +kernel)) ggX2_setQuality_X2_note
set_option maxRecDepth 20000 in
theorem ggX2_setQuality_X2_at : GoodIn wsX2_setQuality wsX2_at := goodIn_r _ [28] (by decide +kernel) (by decide +kernel)
set_option maxRecDepth 20000 in
theorem gX2_setQuality_X2_at : GoodIn wsX2_setQuality (va_wsS RX2 51 yX2_at wsX2_at) := goodIn_app (goodIn_of _ (by decide +kernel)) ggX2_setQuality_X2_at
theorem dX2_setQuality_0 : decode cX2_setQuality 0 = .ok (.iload_n 1, 1) := by decide +kernel
theorem dX2_setQuality_1 : decode cX2_setQuality 1 = .ok (.iload_n 2, 1) := by decide +kernel
theorem dX2_setQuality_2 : decode cX2_setQuality 2 = .ok (.invokestatic 44, 3) := by decide +kernel
theorem dX2_setQuality_5 : decode cX2_setQuality 5 = .ok (.ifCond .eq 21, 3) := by decide +kernel
theorem dX2_setQuality_8 : decode cX2_setQuality 8 = .ok (.iload_n 3, 1) := by decide +kernel
theorem dX2_setQuality_9 : decode cX2_setQuality 9 = .ok (.invokestatic 48, 3) := by decide +kernel
theorem dX2_setQuality_12 : decode cX2_setQuality 12 = .ok (.ifCond .eq 14, 3) := by decide +kernel
theorem dX2_setQuality_15 : decode cX2_setQuality 15 = .ok (.iload 4, 2) := by decide +kernel
theorem dX2_setQuality_17 : decode cX2_setQuality 17 = .ok (.iconst 0, 1) := by decide +kernel
theorem dX2_setQuality_18 : decode cX2_setQuality 18 = .ok (.bipush 30, 2) := by decide +kernel
theorem dX2_setQuality_20 : decode cX2_setQuality 20 = .ok (.invokestatic 33, 3) := by decide +kernel
theorem dX2_setQuality_23 : decode cX2_setQuality 23 = .ok (.ifCond .ne 10, 3) := by decide +kernel
theorem dX2_setQuality_26 : decode cX2_setQuality 26 = .ok (.aload_n 0, 1) := by decide +kernel
theorem dX2_setQuality_27 : decode cX2_setQuality 27 = .ok (.bipush (-2), 2) := by decide +kernel
theorem dX2_setQuality_29 : decode cX2_setQuality 29 = .ok (.invokevirtual 29, 3) := by decide +kernel
theorem dX2_setQuality_32 : decode cX2_setQuality 32 = .ok (.ireturn, 1) := by decide +kernel
theorem dX2_setQuality_33 : decode cX2_setQuality 33 = .ok (.aload_n 0, 1) := by decide +kernel
theorem dX2_setQuality_34 : decode cX2_setQuality 34 = .ok (.invokevirtual 41, 3) := by decide +kernel
theorem dX2_setQuality_37 : decode cX2_setQuality 37 = .ok (.aload_n 0, 1) := by decide +kernel
theorem dX2_setQuality_38 : decode cX2_setQuality 38 = .ok (.getfield 7, 3) := by decide +kernel
theorem dX2_setQuality_41 : decode cX2_setQuality 41 = .ok (.bipush 24, 2) := by decide +kernel
theorem dX2_setQuality_43 : decode cX2_setQuality 43 = .ok (.iload_n 1, 1) := by decide +kernel
theorem dX2_setQuality_44 : decode cX2_setQuality 44 = .ok (.iload_n 2, 1) := by decide +kernel
theorem dX2_setQuality_45 : decode cX2_setQuality 45 = .ok (.iload_n 3, 1) := by decide +kernel
theorem dX2_setQuality_46 : decode cX2_setQuality 46 = .ok (.invokestatic 51, 3) := by decide +kernel
theorem dX2_setQuality_49 : decode cX2_setQuality 49 = .ok (.iadd, 1) := by decide +kernel
theorem dX2_setQuality_50 : decode cX2_setQuality 50 = .ok (.iaload, 1) := by decide +kernel
theorem dX2_setQuality_51 : decode cX2_setQuality 51 = .ok (.istore 5, 2) := by decide +kernel
theorem dX2_setQuality_53 : decode cX2_setQuality 53 = .ok (.aload_n 0, 1) := by decide +kernel
theorem dX2_setQuality_54 : decode cX2_setQuality 54 = .ok (.getfield 7, 3) := by decide +kernel
theorem dX2_setQuality_57 : decode cX2_setQuality 57 = .ok (.bipush 24, 2) := by decide +kernel
theorem dX2_setQuality_59 : decode cX2_setQuality 59 = .ok (.iload_n 1, 1) := by decide +kernel
theorem dX2_setQuality_60 : decode cX2_setQuality 60 = .ok (.iload_n 2, 1) := by decide +kernel
theorem dX2_setQuality_61 : decode cX2_setQuality 61 = .ok (.iload_n 3, 1) := by decide +kernel
theorem dX2_setQuality_62 : decode cX2_setQuality 62 = .ok (.invokestatic 51, 3) := by decide +kernel
theorem dX2_setQuality_65 : decode cX2_setQuality 65 = .ok (.iadd, 1) := by decide +kernel
theorem dX2_setQuality_66 : decode cX2_setQuality 66 = .ok (.iload 4, 2) := by decide +kernel
theorem dX2_setQuality_68 : decode cX2_setQuality 68 = .ok (.iastore, 1) := by decide +kernel
theorem dX2_setQuality_69 : decode cX2_setQuality 69 = .ok (.aload_n 0, 1) := by decide +kernel
theorem dX2_setQuality_70 : decode cX2_setQuality 70 = .ok (.getfield 7, 3) := by decide +kernel
theorem dX2_setQuality_73 : decode cX2_setQuality 73 = .ok (.bipush 24, 2) := by decide +kernel
theorem dX2_setQuality_75 : decode cX2_setQuality 75 = .ok (.iload_n 2, 1) := by decide +kernel
theorem dX2_setQuality_76 : decode cX2_setQuality 76 = .ok (.iload_n 1, 1) := by decide +kernel
theorem dX2_setQuality_77 : decode cX2_setQuality 77 = .ok (.iload_n 3, 1) := by decide +kernel
theorem dX2_setQuality_78 : decode cX2_setQuality 78 = .ok (.invokestatic 51, 3) := by decide +kernel
theorem dX2_setQuality_81 : decode cX2_setQuality 81 = .ok (.iadd, 1) := by decide +kernel
theorem dX2_setQuality_82 : decode cX2_setQuality 82 = .ok (.iload 4, 2) := by decide +kernel
theorem dX2_setQuality_84 : decode cX2_setQuality 84 = .ok (.iastore, 1) := by decide +kernel
theorem dX2_setQuality_85 : decode cX2_setQuality 85 = .ok (.iload 5, 2) := by decide +kernel
theorem dX2_setQuality_87 : decode cX2_setQuality 87 = .ok (.ireturn, 1) := by decide +kernel
set_option maxRecDepth 20000 in
theorem ggX2_setAgeing_X2_in : GoodIn wsX2_setAgeing wsX2_in := goodIn_r _ [5] (by decide +kernel) (by decide +kernel)
set_option maxRecDepth 20000 in
theorem gX2_setAgeing_X2_in : GoodIn wsX2_setAgeing (va_wsS RX2 33 yX2_in wsX2_in) := goodIn_app (goodIn_of _ (by decide +kernel)) ggX2_setAgeing_X2_in
set_option maxRecDepth 20000 in
theorem ggX2_setAgeing_X2_fail : GoodIn wsX2_setAgeing wsX2_fail := goodIn_r _ [9, 10, 17, 18, 19, 20, 21, 22, 23] (by decide +kernel) (by decide +kernel)
set_option maxRecDepth 20000 in
theorem gX2_setAgeing_X2_fail : GoodIn wsX2_setAgeing (wsV RX2 29 RX2 yX2_fail wsX2_fail) := goodIn_app (goodIn_of _ (by decide +kernel)) ggX2_setAgeing_X2_fail
set_option maxRecDepth 20000 in
theorem ggX2_setAgeing_X2_note : GoodIn wsX2_setAgeing wsX2_note := goodIn_r _ [14, 15, 16, 1, 17, 18, 19, 20, 21, 22, 23] (by decide +kernel) (by decide +kernel)
set_option maxRecDepth 20000 in
theorem gX2_setAgeing_X2_note : GoodIn wsX2_setAgeing (wsV RX2 41 RX2 yX2_note wsX2_note) := goodIn_app (goodIn_of _ (by decide +kernel)) ggX2_setAgeing_X2_note
theorem dX2_setAgeing_0 : decode cX2_setAgeing 0 = .ok (.iload_n 1, 1) := by decide +kernel
theorem dX2_setAgeing_1 : decode cX2_setAgeing 1 = .ok (.iconst 1, 1) := by decide +kernel
theorem dX2_setAgeing_2 : decode cX2_setAgeing 2 = .ok (.bipush 99, 2) := by decide +kernel
theorem dX2_setAgeing_4 : decode cX2_setAgeing 4 = .ok (.invokestatic 33, 3) := by decide +kernel
theorem dX2_setAgeing_7 : decode cX2_setAgeing 7 = .ok (.ifCond .ne 10, 3) := by decide +kernel
theorem dX2_setAgeing_10 : decode cX2_setAgeing 10 = .ok (.aload_n 0, 1) := by decide +kernel
theorem dX2_setAgeing_11 : decode cX2_setAgeing 11 = .ok (.bipush (-2), 2) := by decide +kernel
theorem dX2_setAgeing_13 : decode cX2_setAgeing 13 = .ok (.invokevirtual 29, 3) := by decide +kernel
theorem dX2_setAgeing_16 : decode cX2_setAgeing 16 = .ok (.ireturn, 1) := by decide +kernel
theorem dX2_setAgeing_17 : decode cX2_setAgeing 17 = .ok (.aload_n 0, 1) := by decide +kernel
theorem dX2_setAgeing_18 : decode cX2_setAgeing 18 = .ok (.invokevirtual 41, 3) := by decide +kernel
theorem dX2_setAgeing_21 : decode cX2_setAgeing 21 = .ok (.aload_n 0, 1) := by decide +kernel
theorem dX2_setAgeing_22 : decode cX2_setAgeing 22 = .ok (.getfield 7, 3) := by decide +kernel
theorem dX2_setAgeing_25 : decode cX2_setAgeing 25 = .ok (.iconst 2, 1) := by decide +kernel
theorem dX2_setAgeing_26 : decode cX2_setAgeing 26 = .ok (.iaload, 1) := by decide +kernel
theorem dX2_setAgeing_27 : decode cX2_setAgeing 27 = .ok (.istore_n 2, 1) := by decide +kernel
theorem dX2_setAgeing_28 : decode cX2_setAgeing 28 = .ok (.aload_n 0, 1) := by decide +kernel
theorem dX2_setAgeing_29 : decode cX2_setAgeing 29 = .ok (.getfield 7, 3) := by decide +kernel
theorem dX2_setAgeing_32 : decode cX2_setAgeing 32 = .ok (.iconst 2, 1) := by decide +kernel
theorem dX2_setAgeing_33 : decode cX2_setAgeing 33 = .ok (.iload_n 1, 1) := by decide +kernel
theorem dX2_setAgeing_34 : decode cX2_setAgeing 34 = .ok (.iastore, 1) := by decide +kernel
theorem dX2_setAgeing_35 : decode cX2_setAgeing 35 = .ok (.iload_n 2, 1) := by decide +kernel
theorem dX2_setAgeing_36 : decode cX2_setAgeing 36 = .ok (.ireturn, 1) := by decide +kernel
set_option maxRecDepth 20000 in
theorem ggX2_setNoise_X2_fail : GoodIn wsX2_setNoise wsX2_fail := goodIn_r _ [6, 7, 14, 15, 16, 17, 18, 19, 20] (by decide +kernel) (by decide +kernel)
set_option maxRecDepth 20000 in
theorem gX2_setNoise_X2_fail : GoodIn wsX2_setNoise (wsV RX2 29 RX2 yX2_fail wsX2_fail) := goodIn_app (goodIn_of _ (by decide +kernel)) ggX2_setNoise_X2_fail
set_option maxRecDepth 20000 in
theorem ggX2_setNoise_X2_note : GoodIn wsX2_setNoise wsX2_note := goodIn_r _ [11, 12, 13, 1, 14, 15, 16, 17, 18, 19, 20] (by decide +kernel) (by decide +kernel)
set_option maxRecDepth 20000 in
theorem gX2_setNoise_X2_note : GoodIn wsX2_setNoise (wsV RX2 41 RX2 yX2_note wsX2_note) := goodIn_app (goodIn_of _ (by decide +kernel)) ggX2_setNoise_X2_note
theorem dX2_setNoise_0 : decode cX2_setNoise 0 = .ok (.iload_n 1, 1) := by decide +kernel
theorem dX2_setNoise_1 : decode cX2_setNoise 1 = .ok (.ifCond .ge 10, 3) := by decide +kernel
theorem dX2_setNoise_4 : decode cX2_setNoise 4 = .ok (.aload_n 0, 1) := by decide +kernel
theorem dX2_setNoise_5 : decode cX2_setNoise 5 = .ok (.bipush (-2), 2) := by decide +kernel
theorem dX2_setNoise_7 : decode cX2_setNoise 7 = .ok (.invokevirtual 29, 3) := by decide +kernel
theorem dX2_setNoise_10 : decode cX2_setNoise 10 = .ok (.ireturn, 1) := by decide +kernel
theorem dX2_setNoise_11 : decode cX2_setNoise 11 = .ok (.aload_n 0, 1) := by decide +kernel
theorem dX2_setNoise_12 : decode cX2_setNoise 12 = .ok (.invokevirtual 41, 3) := by decide +kernel
theorem dX2_setNoise_15 : decode cX2_setNoise 15 = .ok (.aload_n 0, 1) := by decide +kernel
theorem dX2_setNoise_16 : decode cX2_setNoise 16 = .ok (.getfield 7, 3) := by decide +kernel
theorem dX2_setNoise_19 : decode cX2_setNoise 19 = .ok (.iconst 1, 1) := by decide +kernel
theorem dX2_setNoise_20 : decode cX2_setNoise 20 = .ok (.iload_n 1, 1) := by decide +kernel
theorem dX2_setNoise_21 : decode cX2_setNoise 21 = .ok (.iastore, 1) := by decide +kernel
theorem dX2_setNoise_22 : decode cX2_setNoise 22 = .ok (.aload_n 0, 1) := by decide +kernel
theorem dX2_setNoise_23 : decode cX2_setNoise 23 = .ok (.getfield 7, 3) := by decide +kernel
theorem dX2_setNoise_26 : decode cX2_setNoise 26 = .ok (.iconst 0, 1) := by decide +kernel
theorem dX2_setNoise_27 : decode cX2_setNoise 27 = .ok (.iaload, 1) := by decide +kernel
theorem dX2_setNoise_28 : decode cX2_setNoise 28 = .ok (.ireturn, 1) := by decide +kernel
set_option maxRecDepth 20000 in
theorem ggX2_pass_X2_in : GoodIn wsX2_pass wsX2_in := goodIn_r _ [5] (by decide +kernel) (by decide +kernel)
set_option maxRecDepth 20000 in
theorem gX2_pass_X2_in : GoodIn wsX2_pass (va_wsS RX2 33 yX2_in wsX2_in) := goodIn_app (goodIn_of _ (by decide +kernel)) ggX2_pass_X2_in
set_option maxRecDepth 20000 in
theorem ggX2_pass_X2_fail : GoodIn wsX2_pass wsX2_fail := goodIn_r _ [9, 10, 17, 18, 19, 20, 21, 22, 23] (by decide +kernel) (by decide +kernel)
set_option maxRecDepth 20000 in
theorem gX2_pass_X2_fail : GoodIn wsX2_pass (wsV RX2 29 RX2 yX2_fail wsX2_fail) := goodIn_app (goodIn_of _ (by decide +kernel)) ggX2_pass_X2_fail
set_option maxRecDepth 20000 in
theorem ggX2_pass_X2_note : GoodIn wsX2_pass wsX2_note := goodIn_r _ [14, 15, 16, 1, 17, 18, 19, 20, 21, 22, 23] (by decide +kernel) (by decide +kernel)
set_option maxRecDepth 20000 in
theorem gX2_pass_X2_note : GoodIn wsX2_pass (wsV RX2 41 RX2 yX2_note wsX2_note) := goodIn_app (goodIn_of _ (by decide +kernel)) ggX2_pass_X2_note
theorem dX2_pass_0 : decode cX2_pass 0 = .ok (.iload_n 1, 1) := by decide +kernel
theorem dX2_pass_1 : decode cX2_pass 1 = .ok (.iconst 1, 1) := by decide +kernel
theorem dX2_pass_2 : decode cX2_pass 2 = .ok (.sipush 1000, 3) := by decide +kernel
theorem dX2_pass_5 : decode cX2_pass 5 = .ok (.invokestatic 33, 3) := by decide +kernel
theorem dX2_pass_8 : decode cX2_pass 8 = .ok (.ifCond .ne 10, 3) := by decide +kernel
theorem dX2_pass_11 : decode cX2_pass 11 = .ok (.aload_n 0, 1) := by decide +kernel
theorem dX2_pass_12 : decode cX2_pass 12 = .ok (.bipush (-2), 2) := by decide +kernel
theorem dX2_pass_14 : decode cX2_pass 14 = .ok (.invokevirtual 29, 3) := by decide +kernel
theorem dX2_pass_17 : decode cX2_pass 17 = .ok (.ireturn, 1) := by decide +kernel
theorem dX2_pass_18 : decode cX2_pass 18 = .ok (.aload_n 0, 1) := by decide +kernel
theorem dX2_pass_19 : decode cX2_pass 19 = .ok (.invokevirtual 41, 3) := by decide +kernel
theorem dX2_pass_22 : decode cX2_pass 22 = .ok (.aload_n 0, 1) := by decide +kernel
theorem dX2_pass_23 : decode cX2_pass 23 = .ok (.getfield 7, 3) := by decide +kernel
theorem dX2_pass_26 : decode cX2_pass 26 = .ok (.iconst 0, 1) := by decide +kernel
theorem dX2_pass_27 : decode cX2_pass 27 = .ok (.dup2, 1) := by decide +kernel
theorem dX2_pass_28 : decode cX2_pass 28 = .ok (.iaload, 1) := by decide +kernel
theorem dX2_pass_29 : decode cX2_pass 29 = .ok (.iload_n 1, 1) := by decide +kernel
theorem dX2_pass_30 : decode cX2_pass 30 = .ok (.iadd, 1) := by decide +kernel
theorem dX2_pass_31 : decode cX2_pass 31 = .ok (.iastore, 1) := by decide +kernel
theorem dX2_pass_32 : decode cX2_pass 32 = .ok (.aload_n 0, 1) := by decide +kernel
theorem dX2_pass_33 : decode cX2_pass 33 = .ok (.getfield 7, 3) := by decide +kernel
theorem dX2_pass_36 : decode cX2_pass 36 = .ok (.iconst 0, 1) := by decide +kernel
theorem dX2_pass_37 : decode cX2_pass 37 = .ok (.iaload, 1) := by decide +kernel
theorem dX2_pass_38 : decode cX2_pass 38 = .ok (.ireturn, 1) := by decide +kernel
theorem dX2_draw_0 : decode cX2_draw 0 = .ok (.aload_n 0, 1) := by decide +kernel
theorem dX2_draw_1 : decode cX2_draw 1 = .ok (.getfield 7, 3) := by decide +kernel
theorem dX2_draw_4 : decode cX2_draw 4 = .ok (.iconst 1, 1) := by decide +kernel
theorem dX2_draw_5 : decode cX2_draw 5 = .ok (.iaload, 1) := by decide +kernel
theorem dX2_draw_6 : decode cX2_draw 6 = .ok (.i2l, 1) := by decide +kernel
theorem dX2_draw_7 : decode cX2_draw 7 = .ok (.ldc2_w 55, 3) := by decide +kernel
theorem dX2_draw_10 : decode cX2_draw 10 = .ok (.lmul, 1) := by decide +kernel
theorem dX2_draw_11 : decode cX2_draw 11 = .ok (.ldc2_w 57, 3) := by decide +kernel
theorem dX2_draw_14 : decode cX2_draw 14 = .ok (.ladd, 1) := by decide +kernel
theorem dX2_draw_15 : decode cX2_draw 15 = .ok (.ldc2_w 59, 3) := by decide +kernel
theorem dX2_draw_18 : decode cX2_draw 18 = .ok (.lrem, 1) := by decide +kernel
theorem dX2_draw_19 : decode cX2_draw 19 = .ok (.lstore_n 1, 1) := by decide +kernel
theorem dX2_draw_20 : decode cX2_draw 20 = .ok (.aload_n 0, 1) := by decide +kernel
theorem dX2_draw_21 : decode cX2_draw 21 = .ok (.getfield 7, 3) := by decide +kernel
theorem dX2_draw_24 : decode cX2_draw 24 = .ok (.iconst 1, 1) := by decide +kernel
theorem dX2_draw_25 : decode cX2_draw 25 = .ok (.lload_n 1, 1) := by decide +kernel
theorem dX2_draw_26 : decode cX2_draw 26 = .ok (.l2i, 1) := by decide +kernel
theorem dX2_draw_27 : decode cX2_draw 27 = .ok (.iastore, 1) := by decide +kernel
theorem dX2_draw_28 : decode cX2_draw 28 = .ok (.aload_n 0, 1) := by decide +kernel
theorem dX2_draw_29 : decode cX2_draw 29 = .ok (.getfield 7, 3) := by decide +kernel
theorem dX2_draw_32 : decode cX2_draw 32 = .ok (.iconst 1, 1) := by decide +kernel
theorem dX2_draw_33 : decode cX2_draw 33 = .ok (.iaload, 1) := by decide +kernel
theorem dX2_draw_34 : decode cX2_draw 34 = .ok (.ldc 61, 2) := by decide +kernel
theorem dX2_draw_36 : decode cX2_draw 36 = .ok (.idiv, 1) := by decide +kernel
theorem dX2_draw_37 : decode cX2_draw 37 = .ok (.bipush 31, 2) := by decide +kernel
theorem dX2_draw_39 : decode cX2_draw 39 = .ok (.irem, 1) := by decide +kernel
theorem dX2_draw_40 : decode cX2_draw 40 = .ok (.ireturn, 1) := by decide +kernel
theorem dX2_majority_0 : decode cX2_majority 0 = .ok (.iload_n 0, 1) := by decide +kernel
theorem dX2_majority_1 : decode cX2_majority 1 = .ok (.iload_n 1, 1) := by decide +kernel
theorem dX2_majority_2 : decode cX2_majority 2 = .ok (.iand, 1) := by decide +kernel
theorem dX2_majority_3 : decode cX2_majority 3 = .ok (.iload_n 0, 1) := by decide +kernel
theorem dX2_majority_4 : decode cX2_majority 4 = .ok (.iload_n 2, 1) := by decide +kernel
theorem dX2_majority_5 : decode cX2_majority 5 = .ok (.iand, 1) := by decide +kernel
theorem dX2_majority_6 : decode cX2_majority 6 = .ok (.ior, 1) := by decide +kernel
theorem dX2_majority_7 : decode cX2_majority 7 = .ok (.iload_n 1, 1) := by decide +kernel
theorem dX2_majority_8 : decode cX2_majority 8 = .ok (.iload_n 2, 1) := by decide +kernel
theorem dX2_majority_9 : decode cX2_majority 9 = .ok (.iand, 1) := by decide +kernel
theorem dX2_majority_10 : decode cX2_majority 10 = .ok (.ior, 1) := by decide +kernel
theorem dX2_majority_11 : decode cX2_majority 11 = .ok (.ireturn, 1) := by decide +kernel
set_option maxRecDepth 20000 in
theorem ggX2_copyOf_X2_draw : GoodIn wsX2_copyOf wsX2_draw := goodIn_r _ [5, 6, 7, 8, 9, 10, 11, 12, 13, 14, 15, 16, 17] (by decide +kernel) (by decide +kernel)
set_option maxRecDepth 20000 in
theorem gX2_copyOf_X2_draw : GoodIn wsX2_copyOf (wsV RX2 62 RX2 yX2_draw wsX2_draw) := goodIn_app (goodIn_of _ (by decide +kernel)) ggX2_copyOf_X2_draw
theorem dX2_copyOf_0 : decode cX2_copyOf 0 = .ok (.iload_n 1, 1) := by decide +kernel
theorem dX2_copyOf_1 : decode cX2_copyOf 1 = .ok (.istore_n 3, 1) := by decide +kernel
theorem dX2_copyOf_2 : decode cX2_copyOf 2 = .ok (.iconst 0, 1) := by decide +kernel
theorem dX2_copyOf_3 : decode cX2_copyOf 3 = .ok (.istore 4, 2) := by decide +kernel
theorem dX2_copyOf_5 : decode cX2_copyOf 5 = .ok (.iload 4, 2) := by decide +kernel
theorem dX2_copyOf_7 : decode cX2_copyOf 7 = .ok (.bipush 24, 2) := by decide +kernel
theorem dX2_copyOf_9 : decode cX2_copyOf 9 = .ok (.if_icmp .ge 33, 3) := by decide +kernel
theorem dX2_copyOf_12 : decode cX2_copyOf 12 = .ok (.iload_n 3, 1) := by decide +kernel
theorem dX2_copyOf_13 : decode cX2_copyOf 13 = .ok (.iconst 2, 1) := by decide +kernel
theorem dX2_copyOf_14 : decode cX2_copyOf 14 = .ok (.aload_n 0, 1) := by decide +kernel
theorem dX2_copyOf_15 : decode cX2_copyOf 15 = .ok (.invokevirtual 62, 3) := by decide +kernel
theorem dX2_copyOf_18 : decode cX2_copyOf 18 = .ok (.imul, 1) := by decide +kernel
theorem dX2_copyOf_19 : decode cX2_copyOf 19 = .ok (.bipush 30, 2) := by decide +kernel
theorem dX2_copyOf_21 : decode cX2_copyOf 21 = .ok (.iload_n 2, 1) := by decide +kernel
theorem dX2_copyOf_22 : decode cX2_copyOf 22 = .ok (.iadd, 1) := by decide +kernel
theorem dX2_copyOf_23 : decode cX2_copyOf 23 = .ok (.if_icmp .le 10, 3) := by decide +kernel
theorem dX2_copyOf_26 : decode cX2_copyOf 26 = .ok (.iconst 1, 1) := by decide +kernel
theorem dX2_copyOf_27 : decode cX2_copyOf 27 = .ok (.iload 4, 2) := by decide +kernel
theorem dX2_copyOf_29 : decode cX2_copyOf 29 = .ok (.ishl, 1) := by decide +kernel
theorem dX2_copyOf_30 : decode cX2_copyOf 30 = .ok (.goto 4, 3) := by decide +kernel
theorem dX2_copyOf_33 : decode cX2_copyOf 33 = .ok (.iconst 0, 1) := by decide +kernel
theorem dX2_copyOf_34 : decode cX2_copyOf 34 = .ok (.ixor, 1) := by decide +kernel
theorem dX2_copyOf_35 : decode cX2_copyOf 35 = .ok (.istore_n 3, 1) := by decide +kernel
theorem dX2_copyOf_36 : decode cX2_copyOf 36 = .ok (.iinc 4 1, 3) := by decide +kernel
theorem dX2_copyOf_39 : decode cX2_copyOf 39 = .ok (.goto (-34), 3) := by decide +kernel
theorem dX2_copyOf_42 : decode cX2_copyOf 42 = .ok (.iload_n 3, 1) := by decide +kernel
theorem dX2_copyOf_43 : decode cX2_copyOf 43 = .ok (.ireturn, 1) := by decide +kernel
set_option maxRecDepth 20000 in
theorem ggX2_transmit_X2_at : GoodIn wsX2_transmit wsX2_at := goodIn_r _ [6] (by decide +kernel) (by decide +kernel)
set_option maxRecDepth 20000 in
theorem gX2_transmit_X2_at : GoodIn wsX2_transmit (va_wsS RX2 51 yX2_at wsX2_at) := goodIn_app (goodIn_of _ (by decide +kernel)) ggX2_transmit_X2_at
set_option maxRecDepth 20000 in
theorem ggX2_transmit_X2_copyOf : GoodIn wsX2_transmit wsX2_copyOf := goodIn_r _ [10, 11, 12, 13, 5, 14, 2, 15, 16, 17, 1, 24, 25, 26, 27, 28, 29, 30] (by decide +kernel) (by decide +kernel)
set_option maxRecDepth 20000 in
theorem gX2_transmit_X2_copyOf : GoodIn wsX2_transmit (wsV RX2 66 RX2 yX2_copyOf wsX2_copyOf) := goodIn_app (goodIn_of _ (by decide +kernel)) ggX2_transmit_X2_copyOf
set_option maxRecDepth 20000 in
theorem ggX2_transmit_X2_has : GoodIn wsX2_transmit wsX2_has := goodIn_r _ [20] (by decide +kernel) (by decide +kernel)
set_option maxRecDepth 20000 in
theorem gX2_transmit_X2_has : GoodIn wsX2_transmit (va_wsS RX2 70 yX2_has wsX2_has) := goodIn_app (goodIn_of _ (by decide +kernel)) ggX2_transmit_X2_has
set_option maxRecDepth 20000 in
theorem ggX2_transmit_X2_majority : GoodIn wsX2_transmit wsX2_majority := goodIn_r _ [23] (by decide +kernel) (by decide +kernel)
set_option maxRecDepth 20000 in
theorem gX2_transmit_X2_majority : GoodIn wsX2_transmit (va_wsS RX2 73 yX2_majority wsX2_majority) := goodIn_app (goodIn_of _ (by decide +kernel)) ggX2_transmit_X2_majority
theorem dX2_transmit_0 : decode cX2_transmit 0 = .ok (.ldc 61, 2) := by decide +kernel
theorem dX2_transmit_2 : decode cX2_transmit 2 = .ok (.iload_n 1, 1) := by decide +kernel
theorem dX2_transmit_3 : decode cX2_transmit 3 = .ok (.imul, 1) := by decide +kernel
theorem dX2_transmit_4 : decode cX2_transmit 4 = .ok (.sipush 256, 3) := by decide +kernel
theorem dX2_transmit_7 : decode cX2_transmit 7 = .ok (.iload 4, 2) := by decide +kernel
theorem dX2_transmit_9 : decode cX2_transmit 9 = .ok (.imul, 1) := by decide +kernel
theorem dX2_transmit_10 : decode cX2_transmit 10 = .ok (.iadd, 1) := by decide +kernel
theorem dX2_transmit_11 : decode cX2_transmit 11 = .ok (.iload_n 2, 1) := by decide +kernel
theorem dX2_transmit_12 : decode cX2_transmit 12 = .ok (.iadd, 1) := by decide +kernel
theorem dX2_transmit_13 : decode cX2_transmit 13 = .ok (.istore 6, 2) := by decide +kernel
theorem dX2_transmit_15 : decode cX2_transmit 15 = .ok (.aload_n 0, 1) := by decide +kernel
theorem dX2_transmit_16 : decode cX2_transmit 16 = .ok (.getfield 7, 3) := by decide +kernel
theorem dX2_transmit_19 : decode cX2_transmit 19 = .ok (.bipush 24, 2) := by decide +kernel
theorem dX2_transmit_21 : decode cX2_transmit 21 = .ok (.iload_n 2, 1) := by decide +kernel
theorem dX2_transmit_22 : decode cX2_transmit 22 = .ok (.iload_n 3, 1) := by decide +kernel
theorem dX2_transmit_23 : decode cX2_transmit 23 = .ok (.iload 5, 2) := by decide +kernel
theorem dX2_transmit_25 : decode cX2_transmit 25 = .ok (.invokestatic 51, 3) := by decide +kernel
theorem dX2_transmit_28 : decode cX2_transmit 28 = .ok (.iadd, 1) := by decide +kernel
theorem dX2_transmit_29 : decode cX2_transmit 29 = .ok (.iaload, 1) := by decide +kernel
theorem dX2_transmit_30 : decode cX2_transmit 30 = .ok (.istore 7, 2) := by decide +kernel
theorem dX2_transmit_32 : decode cX2_transmit 32 = .ok (.aload_n 0, 1) := by decide +kernel
theorem dX2_transmit_33 : decode cX2_transmit 33 = .ok (.iload 6, 2) := by decide +kernel
theorem dX2_transmit_35 : decode cX2_transmit 35 = .ok (.iload 7, 2) := by decide +kernel
theorem dX2_transmit_37 : decode cX2_transmit 37 = .ok (.invokevirtual 66, 3) := by decide +kernel
theorem dX2_transmit_40 : decode cX2_transmit 40 = .ok (.istore 8, 2) := by decide +kernel
theorem dX2_transmit_42 : decode cX2_transmit 42 = .ok (.aload_n 0, 1) := by decide +kernel
theorem dX2_transmit_43 : decode cX2_transmit 43 = .ok (.iload 6, 2) := by decide +kernel
theorem dX2_transmit_45 : decode cX2_transmit 45 = .ok (.iload 7, 2) := by decide +kernel
theorem dX2_transmit_47 : decode cX2_transmit 47 = .ok (.invokevirtual 66, 3) := by decide +kernel
theorem dX2_transmit_50 : decode cX2_transmit 50 = .ok (.istore 9, 2) := by decide +kernel
theorem dX2_transmit_52 : decode cX2_transmit 52 = .ok (.aload_n 0, 1) := by decide +kernel
theorem dX2_transmit_53 : decode cX2_transmit 53 = .ok (.iload 6, 2) := by decide +kernel
theorem dX2_transmit_55 : decode cX2_transmit 55 = .ok (.iload 7, 2) := by decide +kernel
theorem dX2_transmit_57 : decode cX2_transmit 57 = .ok (.invokevirtual 66, 3) := by decide +kernel
theorem dX2_transmit_60 : decode cX2_transmit 60 = .ok (.istore 10, 2) := by decide +kernel
theorem dX2_transmit_62 : decode cX2_transmit 62 = .ok (.iload 8, 2) := by decide +kernel
theorem dX2_transmit_64 : decode cX2_transmit 64 = .ok (.iload 9, 2) := by decide +kernel
theorem dX2_transmit_66 : decode cX2_transmit 66 = .ok (.ixor, 1) := by decide +kernel
theorem dX2_transmit_67 : decode cX2_transmit 67 = .ok (.iload 8, 2) := by decide +kernel
theorem dX2_transmit_69 : decode cX2_transmit 69 = .ok (.iload 10, 2) := by decide +kernel
theorem dX2_transmit_71 : decode cX2_transmit 71 = .ok (.ixor, 1) := by decide +kernel
theorem dX2_transmit_72 : decode cX2_transmit 72 = .ok (.ior, 1) := by decide +kernel
theorem dX2_transmit_73 : decode cX2_transmit 73 = .ok (.istore 11, 2) := by decide +kernel
theorem dX2_transmit_75 : decode cX2_transmit 75 = .ok (.iconst 0, 1) := by decide +kernel
theorem dX2_transmit_76 : decode cX2_transmit 76 = .ok (.istore 12, 2) := by decide +kernel
theorem dX2_transmit_78 : decode cX2_transmit 78 = .ok (.iconst 0, 1) := by decide +kernel
theorem dX2_transmit_79 : decode cX2_transmit 79 = .ok (.istore 13, 2) := by decide +kernel
theorem dX2_transmit_81 : decode cX2_transmit 81 = .ok (.iload 13, 2) := by decide +kernel
theorem dX2_transmit_83 : decode cX2_transmit 83 = .ok (.bipush 24, 2) := by decide +kernel
theorem dX2_transmit_85 : decode cX2_transmit 85 = .ok (.if_icmp .ge 29, 3) := by decide +kernel
theorem dX2_transmit_88 : decode cX2_transmit 88 = .ok (.iload 12, 2) := by decide +kernel
theorem dX2_transmit_90 : decode cX2_transmit 90 = .ok (.iload 11, 2) := by decide +kernel
theorem dX2_transmit_92 : decode cX2_transmit 92 = .ok (.iload 13, 2) := by decide +kernel
theorem dX2_transmit_94 : decode cX2_transmit 94 = .ok (.invokestatic 70, 3) := by decide +kernel
theorem dX2_transmit_97 : decode cX2_transmit 97 = .ok (.ifCond .eq 7, 3) := by decide +kernel
theorem dX2_transmit_100 : decode cX2_transmit 100 = .ok (.iconst 0, 1) := by decide +kernel
theorem dX2_transmit_101 : decode cX2_transmit 101 = .ok (.goto 4, 3) := by decide +kernel
theorem dX2_transmit_104 : decode cX2_transmit 104 = .ok (.iconst 1, 1) := by decide +kernel
theorem dX2_transmit_105 : decode cX2_transmit 105 = .ok (.iadd, 1) := by decide +kernel
theorem dX2_transmit_106 : decode cX2_transmit 106 = .ok (.istore 12, 2) := by decide +kernel
theorem dX2_transmit_108 : decode cX2_transmit 108 = .ok (.iinc 13 1, 3) := by decide +kernel
theorem dX2_transmit_111 : decode cX2_transmit 111 = .ok (.goto (-30), 3) := by decide +kernel
theorem dX2_transmit_114 : decode cX2_transmit 114 = .ok (.aload_n 0, 1) := by decide +kernel
theorem dX2_transmit_115 : decode cX2_transmit 115 = .ok (.getfield 7, 3) := by decide +kernel
theorem dX2_transmit_118 : decode cX2_transmit 118 = .ok (.iconst 3, 1) := by decide +kernel
theorem dX2_transmit_119 : decode cX2_transmit 119 = .ok (.dup2, 1) := by decide +kernel
theorem dX2_transmit_120 : decode cX2_transmit 120 = .ok (.iaload, 1) := by decide +kernel
theorem dX2_transmit_121 : decode cX2_transmit 121 = .ok (.iconst 1, 1) := by decide +kernel
theorem dX2_transmit_122 : decode cX2_transmit 122 = .ok (.iadd, 1) := by decide +kernel
theorem dX2_transmit_123 : decode cX2_transmit 123 = .ok (.iastore, 1) := by decide +kernel
theorem dX2_transmit_124 : decode cX2_transmit 124 = .ok (.aload_n 0, 1) := by decide +kernel
theorem dX2_transmit_125 : decode cX2_transmit 125 = .ok (.getfield 7, 3) := by decide +kernel
theorem dX2_transmit_128 : decode cX2_transmit 128 = .ok (.bipush 7, 2) := by decide +kernel
theorem dX2_transmit_130 : decode cX2_transmit 130 = .ok (.iload 12, 2) := by decide +kernel
theorem dX2_transmit_132 : decode cX2_transmit 132 = .ok (.iastore, 1) := by decide +kernel
theorem dX2_transmit_133 : decode cX2_transmit 133 = .ok (.aload_n 0, 1) := by decide +kernel
theorem dX2_transmit_134 : decode cX2_transmit 134 = .ok (.getfield 7, 3) := by decide +kernel
theorem dX2_transmit_137 : decode cX2_transmit 137 = .ok (.bipush 8, 2) := by decide +kernel
theorem dX2_transmit_139 : decode cX2_transmit 139 = .ok (.iload 8, 2) := by decide +kernel
theorem dX2_transmit_141 : decode cX2_transmit 141 = .ok (.iload 9, 2) := by decide +kernel
theorem dX2_transmit_143 : decode cX2_transmit 143 = .ok (.iload 10, 2) := by decide +kernel
theorem dX2_transmit_145 : decode cX2_transmit 145 = .ok (.invokestatic 73, 3) := by decide +kernel
theorem dX2_transmit_148 : decode cX2_transmit 148 = .ok (.iastore, 1) := by decide +kernel
theorem dX2_transmit_149 : decode cX2_transmit 149 = .ok (.aload_n 0, 1) := by decide +kernel
theorem dX2_transmit_150 : decode cX2_transmit 150 = .ok (.getfield 7, 3) := by decide +kernel
theorem dX2_transmit_153 : decode cX2_transmit 153 = .ok (.bipush 8, 2) := by decide +kernel
theorem dX2_transmit_155 : decode cX2_transmit 155 = .ok (.iaload, 1) := by decide +kernel
theorem dX2_transmit_156 : decode cX2_transmit 156 = .ok (.iload 6, 2) := by decide +kernel
theorem dX2_transmit_158 : decode cX2_transmit 158 = .ok (.if_icmp .eq 5, 3) := by decide +kernel
theorem dX2_transmit_161 : decode cX2_transmit 161 = .ok (.iconst 0, 1) := by decide +kernel
theorem dX2_transmit_162 : decode cX2_transmit 162 = .ok (.ireturn, 1) := by decide +kernel
theorem dX2_transmit_163 : decode cX2_transmit 163 = .ok (.aload_n 0, 1) := by decide +kernel
theorem dX2_transmit_164 : decode cX2_transmit 164 = .ok (.getfield 7, 3) := by decide +kernel
theorem dX2_transmit_167 : decode cX2_transmit 167 = .ok (.iconst 4, 1) := by decide +kernel
theorem dX2_transmit_168 : decode cX2_transmit 168 = .ok (.dup2, 1) := by decide +kernel
theorem dX2_transmit_169 : decode cX2_transmit 169 = .ok (.iaload, 1) := by decide +kernel
theorem dX2_transmit_170 : decode cX2_transmit 170 = .ok (.iconst 1, 1) := by decide +kernel
theorem dX2_transmit_171 : decode cX2_transmit 171 = .ok (.iadd, 1) := by decide +kernel
theorem dX2_transmit_172 : decode cX2_transmit 172 = .ok (.iastore, 1) := by decide +kernel
theorem dX2_transmit_173 : decode cX2_transmit 173 = .ok (.aload_n 0, 1) := by decide +kernel
theorem dX2_transmit_174 : decode cX2_transmit 174 = .ok (.getfield 7, 3) := by decide +kernel
theorem dX2_transmit_177 : decode cX2_transmit 177 = .ok (.sipush 224, 3) := by decide +kernel
theorem dX2_transmit_180 : decode cX2_transmit 180 = .ok (.iload_n 3, 1) := by decide +kernel
theorem dX2_transmit_181 : decode cX2_transmit 181 = .ok (.iload_n 2, 1) := by decide +kernel
theorem dX2_transmit_182 : decode cX2_transmit 182 = .ok (.iload 5, 2) := by decide +kernel
theorem dX2_transmit_184 : decode cX2_transmit 184 = .ok (.invokestatic 51, 3) := by decide +kernel
theorem dX2_transmit_187 : decode cX2_transmit 187 = .ok (.iadd, 1) := by decide +kernel
theorem dX2_transmit_188 : decode cX2_transmit 188 = .ok (.iload 12, 2) := by decide +kernel
theorem dX2_transmit_190 : decode cX2_transmit 190 = .ok (.bipush 30, 2) := by decide +kernel
theorem dX2_transmit_192 : decode cX2_transmit 192 = .ok (.imul, 1) := by decide +kernel
theorem dX2_transmit_193 : decode cX2_transmit 193 = .ok (.bipush 24, 2) := by decide +kernel
theorem dX2_transmit_195 : decode cX2_transmit 195 = .ok (.idiv, 1) := by decide +kernel
theorem dX2_transmit_196 : decode cX2_transmit 196 = .ok (.iastore, 1) := by decide +kernel
theorem dX2_transmit_197 : decode cX2_transmit 197 = .ok (.aload_n 0, 1) := by decide +kernel
theorem dX2_transmit_198 : decode cX2_transmit 198 = .ok (.getfield 7, 3) := by decide +kernel
theorem dX2_transmit_201 : decode cX2_transmit 201 = .ok (.sipush 424, 3) := by decide +kernel
theorem dX2_transmit_204 : decode cX2_transmit 204 = .ok (.iload_n 3, 1) := by decide +kernel
theorem dX2_transmit_205 : decode cX2_transmit 205 = .ok (.iload_n 2, 1) := by decide +kernel
theorem dX2_transmit_206 : decode cX2_transmit 206 = .ok (.iload 5, 2) := by decide +kernel
theorem dX2_transmit_208 : decode cX2_transmit 208 = .ok (.invokestatic 51, 3) := by decide +kernel
theorem dX2_transmit_211 : decode cX2_transmit 211 = .ok (.iadd, 1) := by decide +kernel
theorem dX2_transmit_212 : decode cX2_transmit 212 = .ok (.aload_n 0, 1) := by decide +kernel
theorem dX2_transmit_213 : decode cX2_transmit 213 = .ok (.getfield 7, 3) := by decide +kernel
theorem dX2_transmit_216 : decode cX2_transmit 216 = .ok (.iconst 0, 1) := by decide +kernel
theorem dX2_transmit_217 : decode cX2_transmit 217 = .ok (.iaload, 1) := by decide +kernel
theorem dX2_transmit_218 : decode cX2_transmit 218 = .ok (.iastore, 1) := by decide +kernel
theorem dX2_transmit_219 : decode cX2_transmit 219 = .ok (.iconst 1, 1) := by decide +kernel
theorem dX2_transmit_220 : decode cX2_transmit 220 = .ok (.ireturn, 1) := by decide +kernel
set_option maxRecDepth 20000 in
theorem ggX2_listens_X2_count : GoodIn wsX2_listens wsX2_count := goodIn_r _ [5] (by decide +kernel) (by decide +kernel)
set_option maxRecDepth 20000 in
theorem gX2_listens_X2_count : GoodIn wsX2_listens (va_wsS RX2 76 yX2_count wsX2_count) := goodIn_app (goodIn_of _ (by decide +kernel)) ggX2_listens_X2_count
set_option maxRecDepth 20000 in
theorem ggX2_listens_X2_has : GoodIn wsX2_listens wsX2_has := goodIn_r _ [8] (by decide +kernel) (by decide +kernel)
set_option maxRecDepth 20000 in
theorem gX2_listens_X2_has : GoodIn wsX2_listens (va_wsS RX2 70 yX2_has wsX2_has) := goodIn_app (goodIn_of _ (by decide +kernel)) ggX2_listens_X2_has
theorem dX2_listens_0 : decode cX2_listens 0 = .ok (.iload_n 2, 1) := by decide +kernel
theorem dX2_listens_1 : decode cX2_listens 1 = .ok (.aload_n 0, 1) := by decide +kernel
theorem dX2_listens_2 : decode cX2_listens 2 = .ok (.getfield 7, 3) := by decide +kernel
theorem dX2_listens_5 : decode cX2_listens 5 = .ok (.bipush 9, 2) := by decide +kernel
theorem dX2_listens_7 : decode cX2_listens 7 = .ok (.iload_n 1, 1) := by decide +kernel
theorem dX2_listens_8 : decode cX2_listens 8 = .ok (.iadd, 1) := by decide +kernel
theorem dX2_listens_9 : decode cX2_listens 9 = .ok (.iaload, 1) := by decide +kernel
theorem dX2_listens_10 : decode cX2_listens 10 = .ok (.invokestatic 76, 3) := by decide +kernel
theorem dX2_listens_13 : decode cX2_listens 13 = .ok (.irem, 1) := by decide +kernel
theorem dX2_listens_14 : decode cX2_listens 14 = .ok (.istore_n 3, 1) := by decide +kernel
theorem dX2_listens_15 : decode cX2_listens 15 = .ok (.iconst 0, 1) := by decide +kernel
theorem dX2_listens_16 : decode cX2_listens 16 = .ok (.istore 4, 2) := by decide +kernel
theorem dX2_listens_18 : decode cX2_listens 18 = .ok (.aload_n 0, 1) := by decide +kernel
theorem dX2_listens_19 : decode cX2_listens 19 = .ok (.getfield 7, 3) := by decide +kernel
theorem dX2_listens_22 : decode cX2_listens 22 = .ok (.bipush 9, 2) := by decide +kernel
theorem dX2_listens_24 : decode cX2_listens 24 = .ok (.iload_n 1, 1) := by decide +kernel
theorem dX2_listens_25 : decode cX2_listens 25 = .ok (.iadd, 1) := by decide +kernel
theorem dX2_listens_26 : decode cX2_listens 26 = .ok (.iaload, 1) := by decide +kernel
theorem dX2_listens_27 : decode cX2_listens 27 = .ok (.iload 4, 2) := by decide +kernel
theorem dX2_listens_29 : decode cX2_listens 29 = .ok (.invokestatic 70, 3) := by decide +kernel
theorem dX2_listens_32 : decode cX2_listens 32 = .ok (.ifCond .eq 7, 3) := by decide +kernel
theorem dX2_listens_35 : decode cX2_listens 35 = .ok (.iload_n 3, 1) := by decide +kernel
theorem dX2_listens_36 : decode cX2_listens 36 = .ok (.ifCond .le 34, 3) := by decide +kernel
theorem dX2_listens_39 : decode cX2_listens 39 = .ok (.iload_n 3, 1) := by decide +kernel
theorem dX2_listens_40 : decode cX2_listens 40 = .ok (.aload_n 0, 1) := by decide +kernel
theorem dX2_listens_41 : decode cX2_listens 41 = .ok (.getfield 7, 3) := by decide +kernel
theorem dX2_listens_44 : decode cX2_listens 44 = .ok (.bipush 9, 2) := by decide +kernel
theorem dX2_listens_46 : decode cX2_listens 46 = .ok (.iload_n 1, 1) := by decide +kernel
theorem dX2_listens_47 : decode cX2_listens 47 = .ok (.iadd, 1) := by decide +kernel
theorem dX2_listens_48 : decode cX2_listens 48 = .ok (.iaload, 1) := by decide +kernel
theorem dX2_listens_49 : decode cX2_listens 49 = .ok (.iload 4, 2) := by decide +kernel
theorem dX2_listens_51 : decode cX2_listens 51 = .ok (.invokestatic 70, 3) := by decide +kernel
theorem dX2_listens_54 : decode cX2_listens 54 = .ok (.ifCond .eq 7, 3) := by decide +kernel
theorem dX2_listens_57 : decode cX2_listens 57 = .ok (.iconst 1, 1) := by decide +kernel
theorem dX2_listens_58 : decode cX2_listens 58 = .ok (.goto 4, 3) := by decide +kernel
theorem dX2_listens_61 : decode cX2_listens 61 = .ok (.iconst 0, 1) := by decide +kernel
theorem dX2_listens_62 : decode cX2_listens 62 = .ok (.isub, 1) := by decide +kernel
theorem dX2_listens_63 : decode cX2_listens 63 = .ok (.istore_n 3, 1) := by decide +kernel
theorem dX2_listens_64 : decode cX2_listens 64 = .ok (.iinc 4 1, 3) := by decide +kernel
theorem dX2_listens_67 : decode cX2_listens 67 = .ok (.goto (-49), 3) := by decide +kernel
theorem dX2_listens_70 : decode cX2_listens 70 = .ok (.iload 4, 2) := by decide +kernel
theorem dX2_listens_72 : decode cX2_listens 72 = .ok (.ireturn, 1) := by decide +kernel
set_option maxRecDepth 20000 in
theorem ggX2_mostOf_X2_has : GoodIn wsX2_mostOf wsX2_has := goodIn_r _ [5] (by decide +kernel) (by decide +kernel)
set_option maxRecDepth 20000 in
theorem gX2_mostOf_X2_has : GoodIn wsX2_mostOf (va_wsS RX2 70 yX2_has wsX2_has) := goodIn_app (goodIn_of _ (by decide +kernel)) ggX2_mostOf_X2_has
set_option maxRecDepth 20000 in
theorem ggX2_mostOf_X2_count : GoodIn wsX2_mostOf wsX2_count := goodIn_r _ [8] (by decide +kernel) (by decide +kernel)
set_option maxRecDepth 20000 in
theorem gX2_mostOf_X2_count : GoodIn wsX2_mostOf (va_wsS RX2 76 yX2_count wsX2_count) := goodIn_app (goodIn_of _ (by decide +kernel)) ggX2_mostOf_X2_count
theorem dX2_mostOf_0 : decode cX2_mostOf 0 = .ok (.iconst 0, 1) := by decide +kernel
theorem dX2_mostOf_1 : decode cX2_mostOf 1 = .ok (.istore_n 2, 1) := by decide +kernel
theorem dX2_mostOf_2 : decode cX2_mostOf 2 = .ok (.iconst 0, 1) := by decide +kernel
theorem dX2_mostOf_3 : decode cX2_mostOf 3 = .ok (.istore_n 3, 1) := by decide +kernel
theorem dX2_mostOf_4 : decode cX2_mostOf 4 = .ok (.iload_n 3, 1) := by decide +kernel
theorem dX2_mostOf_5 : decode cX2_mostOf 5 = .ok (.iconst 5, 1) := by decide +kernel
theorem dX2_mostOf_6 : decode cX2_mostOf 6 = .ok (.if_icmp .ge 48, 3) := by decide +kernel
theorem dX2_mostOf_9 : decode cX2_mostOf 9 = .ok (.iload_n 1, 1) := by decide +kernel
theorem dX2_mostOf_10 : decode cX2_mostOf 10 = .ok (.iload_n 3, 1) := by decide +kernel
theorem dX2_mostOf_11 : decode cX2_mostOf 11 = .ok (.invokestatic 70, 3) := by decide +kernel
theorem dX2_mostOf_14 : decode cX2_mostOf 14 = .ok (.ifCond .eq 18, 3) := by decide +kernel
theorem dX2_mostOf_17 : decode cX2_mostOf 17 = .ok (.aload_n 0, 1) := by decide +kernel
theorem dX2_mostOf_18 : decode cX2_mostOf 18 = .ok (.getfield 7, 3) := by decide +kernel
theorem dX2_mostOf_21 : decode cX2_mostOf 21 = .ok (.bipush 9, 2) := by decide +kernel
theorem dX2_mostOf_23 : decode cX2_mostOf 23 = .ok (.iload_n 3, 1) := by decide +kernel
theorem dX2_mostOf_24 : decode cX2_mostOf 24 = .ok (.iadd, 1) := by decide +kernel
theorem dX2_mostOf_25 : decode cX2_mostOf 25 = .ok (.iaload, 1) := by decide +kernel
theorem dX2_mostOf_26 : decode cX2_mostOf 26 = .ok (.invokestatic 76, 3) := by decide +kernel
theorem dX2_mostOf_29 : decode cX2_mostOf 29 = .ok (.goto 4, 3) := by decide +kernel
theorem dX2_mostOf_32 : decode cX2_mostOf 32 = .ok (.iconst 0, 1) := by decide +kernel
theorem dX2_mostOf_33 : decode cX2_mostOf 33 = .ok (.istore 4, 2) := by decide +kernel
theorem dX2_mostOf_35 : decode cX2_mostOf 35 = .ok (.iload 4, 2) := by decide +kernel
theorem dX2_mostOf_37 : decode cX2_mostOf 37 = .ok (.iload_n 2, 1) := by decide +kernel
theorem dX2_mostOf_38 : decode cX2_mostOf 38 = .ok (.if_icmp .le 8, 3) := by decide +kernel
theorem dX2_mostOf_41 : decode cX2_mostOf 41 = .ok (.iload 4, 2) := by decide +kernel
theorem dX2_mostOf_43 : decode cX2_mostOf 43 = .ok (.goto 4, 3) := by decide +kernel
theorem dX2_mostOf_46 : decode cX2_mostOf 46 = .ok (.iload_n 2, 1) := by decide +kernel
theorem dX2_mostOf_47 : decode cX2_mostOf 47 = .ok (.istore_n 2, 1) := by decide +kernel
theorem dX2_mostOf_48 : decode cX2_mostOf 48 = .ok (.iinc 3 1, 3) := by decide +kernel
theorem dX2_mostOf_51 : decode cX2_mostOf 51 = .ok (.goto (-47), 3) := by decide +kernel
theorem dX2_mostOf_54 : decode cX2_mostOf 54 = .ok (.iload_n 2, 1) := by decide +kernel
theorem dX2_mostOf_55 : decode cX2_mostOf 55 = .ok (.ireturn, 1) := by decide +kernel
set_option maxRecDepth 20000 in
theorem ggX2_sound_X2_isStation : GoodIn wsX2_sound wsX2_isStation := goodIn_r _ [5, 6, 7, 4, 8] (by decide +kernel) (by decide +kernel)
set_option maxRecDepth 20000 in
theorem gX2_sound_X2_isStation : GoodIn wsX2_sound (va_wsS RX2 37 yX2_isStation wsX2_isStation) := goodIn_app (goodIn_of _ (by decide +kernel)) ggX2_sound_X2_isStation
set_option maxRecDepth 20000 in
theorem ggX2_sound_X2_isChannel : GoodIn wsX2_sound wsX2_isChannel := goodIn_r _ [11, 6, 7, 4, 8] (by decide +kernel) (by decide +kernel)
set_option maxRecDepth 20000 in
theorem gX2_sound_X2_isChannel : GoodIn wsX2_sound (va_wsS RX2 48 yX2_isChannel wsX2_isChannel) := goodIn_app (goodIn_of _ (by decide +kernel)) ggX2_sound_X2_isChannel
set_option maxRecDepth 20000 in
theorem ggX2_sound_X2_fail : GoodIn wsX2_sound wsX2_fail := goodIn_r _ [15, 16, 63, 64, 65, 66, 67, 68, 69] (by decide +kernel) (by decide +kernel)
set_option maxRecDepth 20000 in
theorem gX2_sound_X2_fail : GoodIn wsX2_sound (wsV RX2 29 RX2 yX2_fail wsX2_fail) := goodIn_app (goodIn_of _ (by decide +kernel)) ggX2_sound_X2_fail
set_option maxRecDepth 20000 in
theorem ggX2_sound_X2_isLinked : GoodIn wsX2_sound wsX2_isLinked := goodIn_r _ [20, 1, 63, 64, 65, 66, 67, 68, 69] (by decide +kernel) (by decide +kernel)
set_option maxRecDepth 20000 in
theorem gX2_sound_X2_isLinked : GoodIn wsX2_sound (wsV RX2 79 RX2 yX2_isLinked wsX2_isLinked) := goodIn_app (goodIn_of _ (by decide +kernel)) ggX2_sound_X2_isLinked
set_option maxRecDepth 20000 in
theorem ggX2_sound_X2_note : GoodIn wsX2_sound wsX2_note := goodIn_r _ [24, 25, 26, 1, 63, 64, 65, 66, 67, 68, 69] (by decide +kernel) (by decide +kernel)
set_option maxRecDepth 20000 in
theorem gX2_sound_X2_note : GoodIn wsX2_sound (wsV RX2 41 RX2 yX2_note wsX2_note) := goodIn_app (goodIn_of _ (by decide +kernel)) ggX2_sound_X2_note
set_option maxRecDepth 20000 in
theorem ggX2_sound_X2_mostOf : GoodIn wsX2_sound wsX2_mostOf := goodIn_r _ [30, 1, 31, 32, 4, 33, 34, 35, 36, 63, 64, 65, 66, 67, 68, 69] (by decide +kernel) (by decide +kernel)
set_option maxRecDepth 20000 in
theorem gX2_sound_X2_mostOf : GoodIn wsX2_sound (wsV RX2 82 RX2 yX2_mostOf wsX2_mostOf) := goodIn_app (goodIn_of _ (by decide +kernel)) ggX2_sound_X2_mostOf
set_option maxRecDepth 20000 in
theorem ggX2_sound_X2_listens : GoodIn wsX2_sound wsX2_listens := goodIn_r _ [40, 1, 34, 35, 4, 36, 31, 32, 33, 63, 64, 65, 66, 67, 68, 69] (by decide +kernel) (by decide +kernel)
set_option maxRecDepth 20000 in
theorem gX2_sound_X2_listens : GoodIn wsX2_sound (wsV RX2 85 RX2 yX2_listens wsX2_listens) := goodIn_app (goodIn_of _ (by decide +kernel)) ggX2_sound_X2_listens
set_option maxRecDepth 20000 in
theorem ggX2_sound_X2_has : GoodIn wsX2_sound wsX2_has := goodIn_r _ [33] (by decide +kernel) (by decide +kernel)
set_option maxRecDepth 20000 in
theorem gX2_sound_X2_has : GoodIn wsX2_sound (va_wsS RX2 70 yX2_has wsX2_has) := goodIn_app (goodIn_of _ (by decide +kernel)) ggX2_sound_X2_has
set_option maxRecDepth 20000 in
theorem ggX2_sound_X2_transmit : GoodIn wsX2_sound wsX2_transmit := goodIn_r _ [44, 45, 1, 46, 47, 4, 48, 49, 50, 51, 52, 53, 54, 55, 56, 57, 58, 59, 31, 32, 33, 60, 61, 62, 63, 64, 65, 66, 67, 68, 69] (by decide +kernel) (by decide +kernel)
set_option maxRecDepth 20000 in
theorem gX2_sound_X2_transmit : GoodIn wsX2_sound (wsV RX2 88 RX2 yX2_transmit wsX2_transmit) := goodIn_app (goodIn_of _ (by decide +kernel)) ggX2_sound_X2_transmit
theorem dX2_sound_0 : decode cX2_sound 0 = .ok (.iload_n 1, 1) := by decide +kernel
theorem dX2_sound_1 : decode cX2_sound 1 = .ok (.invokestatic 37, 3) := by decide +kernel
theorem dX2_sound_4 : decode cX2_sound 4 = .ok (.ifCond .eq 10, 3) := by decide +kernel
theorem dX2_sound_7 : decode cX2_sound 7 = .ok (.iload_n 2, 1) := by decide +kernel
theorem dX2_sound_8 : decode cX2_sound 8 = .ok (.invokestatic 48, 3) := by decide +kernel
theorem dX2_sound_11 : decode cX2_sound 11 = .ok (.ifCond .ne 10, 3) := by decide +kernel
theorem dX2_sound_14 : decode cX2_sound 14 = .ok (.aload_n 0, 1) := by decide +kernel
theorem dX2_sound_15 : decode cX2_sound 15 = .ok (.bipush (-2), 2) := by decide +kernel
theorem dX2_sound_17 : decode cX2_sound 17 = .ok (.invokevirtual 29, 3) := by decide +kernel
theorem dX2_sound_20 : decode cX2_sound 20 = .ok (.ireturn, 1) := by decide +kernel
theorem dX2_sound_21 : decode cX2_sound 21 = .ok (.aload_n 0, 1) := by decide +kernel
theorem dX2_sound_22 : decode cX2_sound 22 = .ok (.iload_n 1, 1) := by decide +kernel
theorem dX2_sound_23 : decode cX2_sound 23 = .ok (.invokevirtual 79, 3) := by decide +kernel
theorem dX2_sound_26 : decode cX2_sound 26 = .ok (.ifCond .eq 10, 3) := by decide +kernel
theorem dX2_sound_29 : decode cX2_sound 29 = .ok (.aload_n 0, 1) := by decide +kernel
theorem dX2_sound_30 : decode cX2_sound 30 = .ok (.bipush (-3), 2) := by decide +kernel
theorem dX2_sound_32 : decode cX2_sound 32 = .ok (.invokevirtual 29, 3) := by decide +kernel
theorem dX2_sound_35 : decode cX2_sound 35 = .ok (.ireturn, 1) := by decide +kernel
theorem dX2_sound_36 : decode cX2_sound 36 = .ok (.aload_n 0, 1) := by decide +kernel
theorem dX2_sound_37 : decode cX2_sound 37 = .ok (.invokevirtual 41, 3) := by decide +kernel
theorem dX2_sound_40 : decode cX2_sound 40 = .ok (.aload_n 0, 1) := by decide +kernel
theorem dX2_sound_41 : decode cX2_sound 41 = .ok (.bipush 31, 2) := by decide +kernel
theorem dX2_sound_43 : decode cX2_sound 43 = .ok (.invokevirtual 82, 3) := by decide +kernel
theorem dX2_sound_46 : decode cX2_sound 46 = .ok (.istore_n 3, 1) := by decide +kernel
theorem dX2_sound_47 : decode cX2_sound 47 = .ok (.iconst 0, 1) := by decide +kernel
theorem dX2_sound_48 : decode cX2_sound 48 = .ok (.istore 4, 2) := by decide +kernel
theorem dX2_sound_50 : decode cX2_sound 50 = .ok (.iconst 0, 1) := by decide +kernel
theorem dX2_sound_51 : decode cX2_sound 51 = .ok (.istore 5, 2) := by decide +kernel
theorem dX2_sound_53 : decode cX2_sound 53 = .ok (.iload 5, 2) := by decide +kernel
theorem dX2_sound_55 : decode cX2_sound 55 = .ok (.iconst 5, 1) := by decide +kernel
theorem dX2_sound_56 : decode cX2_sound 56 = .ok (.if_icmp .ge 83, 3) := by decide +kernel
theorem dX2_sound_59 : decode cX2_sound 59 = .ok (.iconst 0, 1) := by decide +kernel
theorem dX2_sound_60 : decode cX2_sound 60 = .ok (.istore 6, 2) := by decide +kernel
theorem dX2_sound_62 : decode cX2_sound 62 = .ok (.iload 6, 2) := by decide +kernel
theorem dX2_sound_64 : decode cX2_sound 64 = .ok (.iload_n 3, 1) := by decide +kernel
theorem dX2_sound_65 : decode cX2_sound 65 = .ok (.if_icmp .ge 68, 3) := by decide +kernel
theorem dX2_sound_68 : decode cX2_sound 68 = .ok (.iload 5, 2) := by decide +kernel
theorem dX2_sound_70 : decode cX2_sound 70 = .ok (.iload_n 1, 1) := by decide +kernel
theorem dX2_sound_71 : decode cX2_sound 71 = .ok (.if_icmp .eq 35, 3) := by decide +kernel
theorem dX2_sound_74 : decode cX2_sound 74 = .ok (.aload_n 0, 1) := by decide +kernel
theorem dX2_sound_75 : decode cX2_sound 75 = .ok (.iload 5, 2) := by decide +kernel
theorem dX2_sound_77 : decode cX2_sound 77 = .ok (.invokevirtual 79, 3) := by decide +kernel
theorem dX2_sound_80 : decode cX2_sound 80 = .ok (.ifCond .ne 26, 3) := by decide +kernel
theorem dX2_sound_83 : decode cX2_sound 83 = .ok (.aload_n 0, 1) := by decide +kernel
theorem dX2_sound_84 : decode cX2_sound 84 = .ok (.iload 5, 2) := by decide +kernel
theorem dX2_sound_86 : decode cX2_sound 86 = .ok (.aload_n 0, 1) := by decide +kernel
theorem dX2_sound_87 : decode cX2_sound 87 = .ok (.getfield 7, 3) := by decide +kernel
theorem dX2_sound_90 : decode cX2_sound 90 = .ok (.iconst 0, 1) := by decide +kernel
theorem dX2_sound_91 : decode cX2_sound 91 = .ok (.iaload, 1) := by decide +kernel
theorem dX2_sound_92 : decode cX2_sound 92 = .ok (.iload 6, 2) := by decide +kernel
theorem dX2_sound_94 : decode cX2_sound 94 = .ok (.iadd, 1) := by decide +kernel
theorem dX2_sound_95 : decode cX2_sound 95 = .ok (.invokevirtual 85, 3) := by decide +kernel
theorem dX2_sound_98 : decode cX2_sound 98 = .ok (.iload_n 2, 1) := by decide +kernel
theorem dX2_sound_99 : decode cX2_sound 99 = .ok (.if_icmp .ne 7, 3) := by decide +kernel
theorem dX2_sound_102 : decode cX2_sound 102 = .ok (.iconst 1, 1) := by decide +kernel
theorem dX2_sound_103 : decode cX2_sound 103 = .ok (.goto 4, 3) := by decide +kernel
theorem dX2_sound_106 : decode cX2_sound 106 = .ok (.iconst 0, 1) := by decide +kernel
theorem dX2_sound_107 : decode cX2_sound 107 = .ok (.istore 7, 2) := by decide +kernel
theorem dX2_sound_109 : decode cX2_sound 109 = .ok (.iload 4, 2) := by decide +kernel
theorem dX2_sound_111 : decode cX2_sound 111 = .ok (.iload 7, 2) := by decide +kernel
theorem dX2_sound_113 : decode cX2_sound 113 = .ok (.ifCond .eq 10, 3) := by decide +kernel
theorem dX2_sound_116 : decode cX2_sound 116 = .ok (.iconst 1, 1) := by decide +kernel
theorem dX2_sound_117 : decode cX2_sound 117 = .ok (.iload 5, 2) := by decide +kernel
theorem dX2_sound_119 : decode cX2_sound 119 = .ok (.ishl, 1) := by decide +kernel
theorem dX2_sound_120 : decode cX2_sound 120 = .ok (.goto 4, 3) := by decide +kernel
theorem dX2_sound_123 : decode cX2_sound 123 = .ok (.iconst 0, 1) := by decide +kernel
theorem dX2_sound_124 : decode cX2_sound 124 = .ok (.ior, 1) := by decide +kernel
theorem dX2_sound_125 : decode cX2_sound 125 = .ok (.istore 4, 2) := by decide +kernel
theorem dX2_sound_127 : decode cX2_sound 127 = .ok (.iinc 6 1, 3) := by decide +kernel
theorem dX2_sound_130 : decode cX2_sound 130 = .ok (.goto (-68), 3) := by decide +kernel
theorem dX2_sound_133 : decode cX2_sound 133 = .ok (.iinc 5 1, 3) := by decide +kernel
theorem dX2_sound_136 : decode cX2_sound 136 = .ok (.goto (-83), 3) := by decide +kernel
theorem dX2_sound_139 : decode cX2_sound 139 = .ok (.aload_n 0, 1) := by decide +kernel
theorem dX2_sound_140 : decode cX2_sound 140 = .ok (.getfield 7, 3) := by decide +kernel
theorem dX2_sound_143 : decode cX2_sound 143 = .ok (.iconst 0, 1) := by decide +kernel
theorem dX2_sound_144 : decode cX2_sound 144 = .ok (.dup2, 1) := by decide +kernel
theorem dX2_sound_145 : decode cX2_sound 145 = .ok (.iaload, 1) := by decide +kernel
theorem dX2_sound_146 : decode cX2_sound 146 = .ok (.iload_n 3, 1) := by decide +kernel
theorem dX2_sound_147 : decode cX2_sound 147 = .ok (.iadd, 1) := by decide +kernel
theorem dX2_sound_148 : decode cX2_sound 148 = .ok (.iastore, 1) := by decide +kernel
theorem dX2_sound_149 : decode cX2_sound 149 = .ok (.iconst 0, 1) := by decide +kernel
theorem dX2_sound_150 : decode cX2_sound 150 = .ok (.istore 5, 2) := by decide +kernel
theorem dX2_sound_152 : decode cX2_sound 152 = .ok (.iconst 0, 1) := by decide +kernel
theorem dX2_sound_153 : decode cX2_sound 153 = .ok (.istore 6, 2) := by decide +kernel
theorem dX2_sound_155 : decode cX2_sound 155 = .ok (.iload 6, 2) := by decide +kernel
theorem dX2_sound_157 : decode cX2_sound 157 = .ok (.iconst 5, 1) := by decide +kernel
theorem dX2_sound_158 : decode cX2_sound 158 = .ok (.if_icmp .ge 43, 3) := by decide +kernel
theorem dX2_sound_161 : decode cX2_sound 161 = .ok (.iload 4, 2) := by decide +kernel
theorem dX2_sound_163 : decode cX2_sound 163 = .ok (.iload 6, 2) := by decide +kernel
theorem dX2_sound_165 : decode cX2_sound 165 = .ok (.invokestatic 70, 3) := by decide +kernel
theorem dX2_sound_168 : decode cX2_sound 168 = .ok (.ifCond .eq 27, 3) := by decide +kernel
theorem dX2_sound_171 : decode cX2_sound 171 = .ok (.aload_n 0, 1) := by decide +kernel
theorem dX2_sound_172 : decode cX2_sound 172 = .ok (.iconst 1, 1) := by decide +kernel
theorem dX2_sound_173 : decode cX2_sound 173 = .ok (.iload_n 1, 1) := by decide +kernel
theorem dX2_sound_174 : decode cX2_sound 174 = .ok (.iload 6, 2) := by decide +kernel
theorem dX2_sound_176 : decode cX2_sound 176 = .ok (.sipush 255, 3) := by decide +kernel
theorem dX2_sound_179 : decode cX2_sound 179 = .ok (.iload_n 2, 1) := by decide +kernel
theorem dX2_sound_180 : decode cX2_sound 180 = .ok (.invokevirtual 88, 3) := by decide +kernel
theorem dX2_sound_183 : decode cX2_sound 183 = .ok (.ifCond .eq 12, 3) := by decide +kernel
theorem dX2_sound_186 : decode cX2_sound 186 = .ok (.iload 5, 2) := by decide +kernel
theorem dX2_sound_188 : decode cX2_sound 188 = .ok (.iconst 1, 1) := by decide +kernel
theorem dX2_sound_189 : decode cX2_sound 189 = .ok (.iload 6, 2) := by decide +kernel
theorem dX2_sound_191 : decode cX2_sound 191 = .ok (.ishl, 1) := by decide +kernel
theorem dX2_sound_192 : decode cX2_sound 192 = .ok (.ior, 1) := by decide +kernel
theorem dX2_sound_193 : decode cX2_sound 193 = .ok (.istore 5, 2) := by decide +kernel
theorem dX2_sound_195 : decode cX2_sound 195 = .ok (.iinc 6 1, 3) := by decide +kernel
theorem dX2_sound_198 : decode cX2_sound 198 = .ok (.goto (-43), 3) := by decide +kernel
theorem dX2_sound_201 : decode cX2_sound 201 = .ok (.iload 5, 2) := by decide +kernel
theorem dX2_sound_203 : decode cX2_sound 203 = .ok (.ireturn, 1) := by decide +kernel
set_option maxRecDepth 20000 in
theorem ggX2_effectiveOf_X2_at : GoodIn wsX2_effectiveOf wsX2_at := goodIn_r _ [5] (by decide +kernel) (by decide +kernel)
set_option maxRecDepth 20000 in
theorem gX2_effectiveOf_X2_at : GoodIn wsX2_effectiveOf (va_wsS RX2 51 yX2_at wsX2_at) := goodIn_app (goodIn_of _ (by decide +kernel)) ggX2_effectiveOf_X2_at
theorem dX2_effectiveOf_0 : decode cX2_effectiveOf 0 = .ok (.aload_n 0, 1) := by decide +kernel
theorem dX2_effectiveOf_1 : decode cX2_effectiveOf 1 = .ok (.getfield 7, 3) := by decide +kernel
theorem dX2_effectiveOf_4 : decode cX2_effectiveOf 4 = .ok (.sipush 224, 3) := by decide +kernel
theorem dX2_effectiveOf_7 : decode cX2_effectiveOf 7 = .ok (.iload_n 1, 1) := by decide +kernel
theorem dX2_effectiveOf_8 : decode cX2_effectiveOf 8 = .ok (.iload_n 2, 1) := by decide +kernel
theorem dX2_effectiveOf_9 : decode cX2_effectiveOf 9 = .ok (.iload_n 3, 1) := by decide +kernel
theorem dX2_effectiveOf_10 : decode cX2_effectiveOf 10 = .ok (.invokestatic 51, 3) := by decide +kernel
theorem dX2_effectiveOf_13 : decode cX2_effectiveOf 13 = .ok (.iadd, 1) := by decide +kernel
theorem dX2_effectiveOf_14 : decode cX2_effectiveOf 14 = .ok (.iaload, 1) := by decide +kernel
theorem dX2_effectiveOf_15 : decode cX2_effectiveOf 15 = .ok (.istore 4, 2) := by decide +kernel
theorem dX2_effectiveOf_17 : decode cX2_effectiveOf 17 = .ok (.iload 4, 2) := by decide +kernel
theorem dX2_effectiveOf_19 : decode cX2_effectiveOf 19 = .ok (.iconst (-1), 1) := by decide +kernel
theorem dX2_effectiveOf_20 : decode cX2_effectiveOf 20 = .ok (.if_icmp .ne 5, 3) := by decide +kernel
theorem dX2_effectiveOf_23 : decode cX2_effectiveOf 23 = .ok (.iconst (-1), 1) := by decide +kernel
theorem dX2_effectiveOf_24 : decode cX2_effectiveOf 24 = .ok (.ireturn, 1) := by decide +kernel
theorem dX2_effectiveOf_25 : decode cX2_effectiveOf 25 = .ok (.iload 4, 2) := by decide +kernel
theorem dX2_effectiveOf_27 : decode cX2_effectiveOf 27 = .ok (.aload_n 0, 1) := by decide +kernel
theorem dX2_effectiveOf_28 : decode cX2_effectiveOf 28 = .ok (.getfield 7, 3) := by decide +kernel
theorem dX2_effectiveOf_31 : decode cX2_effectiveOf 31 = .ok (.iconst 0, 1) := by decide +kernel
theorem dX2_effectiveOf_32 : decode cX2_effectiveOf 32 = .ok (.iaload, 1) := by decide +kernel
theorem dX2_effectiveOf_33 : decode cX2_effectiveOf 33 = .ok (.aload_n 0, 1) := by decide +kernel
theorem dX2_effectiveOf_34 : decode cX2_effectiveOf 34 = .ok (.getfield 7, 3) := by decide +kernel
theorem dX2_effectiveOf_37 : decode cX2_effectiveOf 37 = .ok (.sipush 424, 3) := by decide +kernel
theorem dX2_effectiveOf_40 : decode cX2_effectiveOf 40 = .ok (.iload_n 1, 1) := by decide +kernel
theorem dX2_effectiveOf_41 : decode cX2_effectiveOf 41 = .ok (.iload_n 2, 1) := by decide +kernel
theorem dX2_effectiveOf_42 : decode cX2_effectiveOf 42 = .ok (.iload_n 3, 1) := by decide +kernel
theorem dX2_effectiveOf_43 : decode cX2_effectiveOf 43 = .ok (.invokestatic 51, 3) := by decide +kernel
theorem dX2_effectiveOf_46 : decode cX2_effectiveOf 46 = .ok (.iadd, 1) := by decide +kernel
theorem dX2_effectiveOf_47 : decode cX2_effectiveOf 47 = .ok (.iaload, 1) := by decide +kernel
theorem dX2_effectiveOf_48 : decode cX2_effectiveOf 48 = .ok (.isub, 1) := by decide +kernel
theorem dX2_effectiveOf_49 : decode cX2_effectiveOf 49 = .ok (.aload_n 0, 1) := by decide +kernel
theorem dX2_effectiveOf_50 : decode cX2_effectiveOf 50 = .ok (.getfield 7, 3) := by decide +kernel
theorem dX2_effectiveOf_53 : decode cX2_effectiveOf 53 = .ok (.iconst 2, 1) := by decide +kernel
theorem dX2_effectiveOf_54 : decode cX2_effectiveOf 54 = .ok (.iaload, 1) := by decide +kernel
theorem dX2_effectiveOf_55 : decode cX2_effectiveOf 55 = .ok (.idiv, 1) := by decide +kernel
theorem dX2_effectiveOf_56 : decode cX2_effectiveOf 56 = .ok (.isub, 1) := by decide +kernel
theorem dX2_effectiveOf_57 : decode cX2_effectiveOf 57 = .ok (.istore 5, 2) := by decide +kernel
theorem dX2_effectiveOf_59 : decode cX2_effectiveOf 59 = .ok (.iload 5, 2) := by decide +kernel
theorem dX2_effectiveOf_61 : decode cX2_effectiveOf 61 = .ok (.ifCond .le 8, 3) := by decide +kernel
theorem dX2_effectiveOf_64 : decode cX2_effectiveOf 64 = .ok (.iload 5, 2) := by decide +kernel
theorem dX2_effectiveOf_66 : decode cX2_effectiveOf 66 = .ok (.goto 4, 3) := by decide +kernel
theorem dX2_effectiveOf_69 : decode cX2_effectiveOf 69 = .ok (.iconst 0, 1) := by decide +kernel
theorem dX2_effectiveOf_70 : decode cX2_effectiveOf 70 = .ok (.ireturn, 1) := by decide +kernel
set_option maxRecDepth 20000 in
theorem ggX2_sortChannels_X2_has : GoodIn wsX2_sortChannels wsX2_has := goodIn_r _ [7] (by decide +kernel) (by decide +kernel)
set_option maxRecDepth 20000 in
theorem gX2_sortChannels_X2_has : GoodIn wsX2_sortChannels (va_wsS RX2 70 yX2_has wsX2_has) := goodIn_app (goodIn_of _ (by decide +kernel)) ggX2_sortChannels_X2_has
set_option maxRecDepth 20000 in
theorem ggX2_sortChannels_X2_effectiveOf : GoodIn wsX2_sortChannels wsX2_effectiveOf := goodIn_r _ [11, 1, 12, 13, 6, 14, 15, 16, 17, 18, 19, 20, 21] (by decide +kernel) (by decide +kernel)
set_option maxRecDepth 20000 in
theorem gX2_sortChannels_X2_effectiveOf : GoodIn wsX2_sortChannels (wsV RX2 92 RX2 yX2_effectiveOf wsX2_effectiveOf) := goodIn_app (goodIn_of _ (by decide +kernel)) ggX2_sortChannels_X2_effectiveOf
theorem dX2_sortChannels_0 : decode cX2_sortChannels 0 = .ok (.iconst 0, 1) := by decide +kernel
theorem dX2_sortChannels_1 : decode cX2_sortChannels 1 = .ok (.istore_n 3, 1) := by decide +kernel
theorem dX2_sortChannels_2 : decode cX2_sortChannels 2 = .ok (.iconst 0, 1) := by decide +kernel
theorem dX2_sortChannels_3 : decode cX2_sortChannels 3 = .ok (.istore 4, 2) := by decide +kernel
theorem dX2_sortChannels_5 : decode cX2_sortChannels 5 = .ok (.iload 4, 2) := by decide +kernel
theorem dX2_sortChannels_7 : decode cX2_sortChannels 7 = .ok (.bipush 8, 2) := by decide +kernel
theorem dX2_sortChannels_9 : decode cX2_sortChannels 9 = .ok (.if_icmp .ge 117, 3) := by decide +kernel
theorem dX2_sortChannels_12 : decode cX2_sortChannels 12 = .ok (.aload_n 0, 1) := by decide +kernel
theorem dX2_sortChannels_13 : decode cX2_sortChannels 13 = .ok (.getfield 7, 3) := by decide +kernel
theorem dX2_sortChannels_16 : decode cX2_sortChannels 16 = .ok (.bipush 9, 2) := by decide +kernel
theorem dX2_sortChannels_18 : decode cX2_sortChannels 18 = .ok (.iload_n 1, 1) := by decide +kernel
theorem dX2_sortChannels_19 : decode cX2_sortChannels 19 = .ok (.iadd, 1) := by decide +kernel
theorem dX2_sortChannels_20 : decode cX2_sortChannels 20 = .ok (.iaload, 1) := by decide +kernel
theorem dX2_sortChannels_21 : decode cX2_sortChannels 21 = .ok (.iload 4, 2) := by decide +kernel
theorem dX2_sortChannels_23 : decode cX2_sortChannels 23 = .ok (.invokestatic 70, 3) := by decide +kernel
theorem dX2_sortChannels_26 : decode cX2_sortChannels 26 = .ok (.ifCond .eq 94, 3) := by decide +kernel
theorem dX2_sortChannels_29 : decode cX2_sortChannels 29 = .ok (.aload_n 0, 1) := by decide +kernel
theorem dX2_sortChannels_30 : decode cX2_sortChannels 30 = .ok (.iload_n 1, 1) := by decide +kernel
theorem dX2_sortChannels_31 : decode cX2_sortChannels 31 = .ok (.iload_n 2, 1) := by decide +kernel
theorem dX2_sortChannels_32 : decode cX2_sortChannels 32 = .ok (.iload 4, 2) := by decide +kernel
theorem dX2_sortChannels_34 : decode cX2_sortChannels 34 = .ok (.invokevirtual 92, 3) := by decide +kernel
theorem dX2_sortChannels_37 : decode cX2_sortChannels 37 = .ok (.istore 5, 2) := by decide +kernel
theorem dX2_sortChannels_39 : decode cX2_sortChannels 39 = .ok (.iload_n 3, 1) := by decide +kernel
theorem dX2_sortChannels_40 : decode cX2_sortChannels 40 = .ok (.istore 6, 2) := by decide +kernel
theorem dX2_sortChannels_42 : decode cX2_sortChannels 42 = .ok (.iload 6, 2) := by decide +kernel
theorem dX2_sortChannels_44 : decode cX2_sortChannels 44 = .ok (.ifCond .le 55, 3) := by decide +kernel
theorem dX2_sortChannels_47 : decode cX2_sortChannels 47 = .ok (.aload_n 0, 1) := by decide +kernel
theorem dX2_sortChannels_48 : decode cX2_sortChannels 48 = .ok (.getfield 22, 3) := by decide +kernel
theorem dX2_sortChannels_51 : decode cX2_sortChannels 51 = .ok (.iload 6, 2) := by decide +kernel
theorem dX2_sortChannels_53 : decode cX2_sortChannels 53 = .ok (.iconst 1, 1) := by decide +kernel
theorem dX2_sortChannels_54 : decode cX2_sortChannels 54 = .ok (.isub, 1) := by decide +kernel
theorem dX2_sortChannels_55 : decode cX2_sortChannels 55 = .ok (.iaload, 1) := by decide +kernel
theorem dX2_sortChannels_56 : decode cX2_sortChannels 56 = .ok (.iload 5, 2) := by decide +kernel
theorem dX2_sortChannels_58 : decode cX2_sortChannels 58 = .ok (.if_icmp .ge 41, 3) := by decide +kernel
theorem dX2_sortChannels_61 : decode cX2_sortChannels 61 = .ok (.aload_n 0, 1) := by decide +kernel
theorem dX2_sortChannels_62 : decode cX2_sortChannels 62 = .ok (.getfield 22, 3) := by decide +kernel
theorem dX2_sortChannels_65 : decode cX2_sortChannels 65 = .ok (.iload 6, 2) := by decide +kernel
theorem dX2_sortChannels_67 : decode cX2_sortChannels 67 = .ok (.aload_n 0, 1) := by decide +kernel
theorem dX2_sortChannels_68 : decode cX2_sortChannels 68 = .ok (.getfield 22, 3) := by decide +kernel
theorem dX2_sortChannels_71 : decode cX2_sortChannels 71 = .ok (.iload 6, 2) := by decide +kernel
theorem dX2_sortChannels_73 : decode cX2_sortChannels 73 = .ok (.iconst 1, 1) := by decide +kernel
theorem dX2_sortChannels_74 : decode cX2_sortChannels 74 = .ok (.isub, 1) := by decide +kernel
theorem dX2_sortChannels_75 : decode cX2_sortChannels 75 = .ok (.iaload, 1) := by decide +kernel
theorem dX2_sortChannels_76 : decode cX2_sortChannels 76 = .ok (.iastore, 1) := by decide +kernel
theorem dX2_sortChannels_77 : decode cX2_sortChannels 77 = .ok (.aload_n 0, 1) := by decide +kernel
theorem dX2_sortChannels_78 : decode cX2_sortChannels 78 = .ok (.getfield 19, 3) := by decide +kernel
theorem dX2_sortChannels_81 : decode cX2_sortChannels 81 = .ok (.iload 6, 2) := by decide +kernel
theorem dX2_sortChannels_83 : decode cX2_sortChannels 83 = .ok (.aload_n 0, 1) := by decide +kernel
theorem dX2_sortChannels_84 : decode cX2_sortChannels 84 = .ok (.getfield 19, 3) := by decide +kernel
theorem dX2_sortChannels_87 : decode cX2_sortChannels 87 = .ok (.iload 6, 2) := by decide +kernel
theorem dX2_sortChannels_89 : decode cX2_sortChannels 89 = .ok (.iconst 1, 1) := by decide +kernel
theorem dX2_sortChannels_90 : decode cX2_sortChannels 90 = .ok (.isub, 1) := by decide +kernel
theorem dX2_sortChannels_91 : decode cX2_sortChannels 91 = .ok (.iaload, 1) := by decide +kernel
theorem dX2_sortChannels_92 : decode cX2_sortChannels 92 = .ok (.iastore, 1) := by decide +kernel
theorem dX2_sortChannels_93 : decode cX2_sortChannels 93 = .ok (.iinc 6 (-1), 3) := by decide +kernel
theorem dX2_sortChannels_96 : decode cX2_sortChannels 96 = .ok (.goto (-54), 3) := by decide +kernel
theorem dX2_sortChannels_99 : decode cX2_sortChannels 99 = .ok (.aload_n 0, 1) := by decide +kernel
theorem dX2_sortChannels_100 : decode cX2_sortChannels 100 = .ok (.getfield 22, 3) := by decide +kernel
theorem dX2_sortChannels_103 : decode cX2_sortChannels 103 = .ok (.iload 6, 2) := by decide +kernel
theorem dX2_sortChannels_105 : decode cX2_sortChannels 105 = .ok (.iload 5, 2) := by decide +kernel
theorem dX2_sortChannels_107 : decode cX2_sortChannels 107 = .ok (.iastore, 1) := by decide +kernel
theorem dX2_sortChannels_108 : decode cX2_sortChannels 108 = .ok (.aload_n 0, 1) := by decide +kernel
theorem dX2_sortChannels_109 : decode cX2_sortChannels 109 = .ok (.getfield 19, 3) := by decide +kernel
theorem dX2_sortChannels_112 : decode cX2_sortChannels 112 = .ok (.iload 6, 2) := by decide +kernel
theorem dX2_sortChannels_114 : decode cX2_sortChannels 114 = .ok (.iload 4, 2) := by decide +kernel
theorem dX2_sortChannels_116 : decode cX2_sortChannels 116 = .ok (.iastore, 1) := by decide +kernel
theorem dX2_sortChannels_117 : decode cX2_sortChannels 117 = .ok (.iinc 3 1, 3) := by decide +kernel
theorem dX2_sortChannels_120 : decode cX2_sortChannels 120 = .ok (.iinc 4 1, 3) := by decide +kernel
theorem dX2_sortChannels_123 : decode cX2_sortChannels 123 = .ok (.goto (-118), 3) := by decide +kernel
theorem dX2_sortChannels_126 : decode cX2_sortChannels 126 = .ok (.iload_n 3, 1) := by decide +kernel
theorem dX2_sortChannels_127 : decode cX2_sortChannels 127 = .ok (.ireturn, 1) := by decide +kernel
set_option maxRecDepth 20000 in
theorem ggX2_attempt_X2_count : GoodIn wsX2_attempt wsX2_count := goodIn_r _ [5] (by decide +kernel) (by decide +kernel)
set_option maxRecDepth 20000 in
theorem gX2_attempt_X2_count : GoodIn wsX2_attempt (va_wsS RX2 76 yX2_count wsX2_count) := goodIn_app (goodIn_of _ (by decide +kernel)) ggX2_attempt_X2_count
set_option maxRecDepth 20000 in
theorem ggX2_attempt_X2_has : GoodIn wsX2_attempt wsX2_has := goodIn_r _ [8] (by decide +kernel) (by decide +kernel)
set_option maxRecDepth 20000 in
theorem gX2_attempt_X2_has : GoodIn wsX2_attempt (va_wsS RX2 70 yX2_has wsX2_has) := goodIn_app (goodIn_of _ (by decide +kernel)) ggX2_attempt_X2_has
set_option maxRecDepth 20000 in
theorem ggX2_attempt_X2_transmit : GoodIn wsX2_attempt wsX2_transmit := goodIn_r _ [12, 13, 1, 14, 15, 4, 16, 17, 18, 19, 20, 21, 22, 23, 24, 25, 26, 27, 6, 7, 8, 28, 29, 30, 31, 32, 33, 34, 35, 36, 37] (by decide +kernel) (by decide +kernel)
set_option maxRecDepth 20000 in
theorem gX2_attempt_X2_transmit : GoodIn wsX2_attempt (wsV RX2 88 RX2 yX2_transmit wsX2_transmit) := goodIn_app (goodIn_of _ (by decide +kernel)) ggX2_attempt_X2_transmit
theorem dX2_attempt_0 : decode cX2_attempt 0 = .ok (.aload_n 0, 1) := by decide +kernel
theorem dX2_attempt_1 : decode cX2_attempt 1 = .ok (.getfield 7, 3) := by decide +kernel
theorem dX2_attempt_4 : decode cX2_attempt 4 = .ok (.iconst 0, 1) := by decide +kernel
theorem dX2_attempt_5 : decode cX2_attempt 5 = .ok (.dup2, 1) := by decide +kernel
theorem dX2_attempt_6 : decode cX2_attempt 6 = .ok (.iaload, 1) := by decide +kernel
theorem dX2_attempt_7 : decode cX2_attempt 7 = .ok (.aload_n 0, 1) := by decide +kernel
theorem dX2_attempt_8 : decode cX2_attempt 8 = .ok (.getfield 7, 3) := by decide +kernel
theorem dX2_attempt_11 : decode cX2_attempt 11 = .ok (.bipush 9, 2) := by decide +kernel
theorem dX2_attempt_13 : decode cX2_attempt 13 = .ok (.iload_n 2, 1) := by decide +kernel
theorem dX2_attempt_14 : decode cX2_attempt 14 = .ok (.iadd, 1) := by decide +kernel
theorem dX2_attempt_15 : decode cX2_attempt 15 = .ok (.iaload, 1) := by decide +kernel
theorem dX2_attempt_16 : decode cX2_attempt 16 = .ok (.invokestatic 76, 3) := by decide +kernel
theorem dX2_attempt_19 : decode cX2_attempt 19 = .ok (.iadd, 1) := by decide +kernel
theorem dX2_attempt_20 : decode cX2_attempt 20 = .ok (.iastore, 1) := by decide +kernel
theorem dX2_attempt_21 : decode cX2_attempt 21 = .ok (.aload_n 0, 1) := by decide +kernel
theorem dX2_attempt_22 : decode cX2_attempt 22 = .ok (.getfield 7, 3) := by decide +kernel
theorem dX2_attempt_25 : decode cX2_attempt 25 = .ok (.bipush 9, 2) := by decide +kernel
theorem dX2_attempt_27 : decode cX2_attempt 27 = .ok (.iload_n 2, 1) := by decide +kernel
theorem dX2_attempt_28 : decode cX2_attempt 28 = .ok (.iadd, 1) := by decide +kernel
theorem dX2_attempt_29 : decode cX2_attempt 29 = .ok (.iaload, 1) := by decide +kernel
theorem dX2_attempt_30 : decode cX2_attempt 30 = .ok (.iload_n 3, 1) := by decide +kernel
theorem dX2_attempt_31 : decode cX2_attempt 31 = .ok (.invokestatic 70, 3) := by decide +kernel
theorem dX2_attempt_34 : decode cX2_attempt 34 = .ok (.ifCond .eq 15, 3) := by decide +kernel
theorem dX2_attempt_37 : decode cX2_attempt 37 = .ok (.aload_n 0, 1) := by decide +kernel
theorem dX2_attempt_38 : decode cX2_attempt 38 = .ok (.iconst 2, 1) := by decide +kernel
theorem dX2_attempt_39 : decode cX2_attempt 39 = .ok (.iload_n 1, 1) := by decide +kernel
theorem dX2_attempt_40 : decode cX2_attempt 40 = .ok (.iload_n 2, 1) := by decide +kernel
theorem dX2_attempt_41 : decode cX2_attempt 41 = .ok (.iload_n 2, 1) := by decide +kernel
theorem dX2_attempt_42 : decode cX2_attempt 42 = .ok (.iload_n 3, 1) := by decide +kernel
theorem dX2_attempt_43 : decode cX2_attempt 43 = .ok (.invokevirtual 88, 3) := by decide +kernel
theorem dX2_attempt_46 : decode cX2_attempt 46 = .ok (.ifCond .ne 5, 3) := by decide +kernel
theorem dX2_attempt_49 : decode cX2_attempt 49 = .ok (.iconst 0, 1) := by decide +kernel
theorem dX2_attempt_50 : decode cX2_attempt 50 = .ok (.ireturn, 1) := by decide +kernel
theorem dX2_attempt_51 : decode cX2_attempt 51 = .ok (.aload_n 0, 1) := by decide +kernel
theorem dX2_attempt_52 : decode cX2_attempt 52 = .ok (.getfield 7, 3) := by decide +kernel
theorem dX2_attempt_55 : decode cX2_attempt 55 = .ok (.iconst 0, 1) := by decide +kernel
theorem dX2_attempt_56 : decode cX2_attempt 56 = .ok (.dup2, 1) := by decide +kernel
theorem dX2_attempt_57 : decode cX2_attempt 57 = .ok (.iaload, 1) := by decide +kernel
theorem dX2_attempt_58 : decode cX2_attempt 58 = .ok (.iconst 1, 1) := by decide +kernel
theorem dX2_attempt_59 : decode cX2_attempt 59 = .ok (.iadd, 1) := by decide +kernel
theorem dX2_attempt_60 : decode cX2_attempt 60 = .ok (.iastore, 1) := by decide +kernel
theorem dX2_attempt_61 : decode cX2_attempt 61 = .ok (.aload_n 0, 1) := by decide +kernel
theorem dX2_attempt_62 : decode cX2_attempt 62 = .ok (.iconst 3, 1) := by decide +kernel
theorem dX2_attempt_63 : decode cX2_attempt 63 = .ok (.iload_n 2, 1) := by decide +kernel
theorem dX2_attempt_64 : decode cX2_attempt 64 = .ok (.iload_n 1, 1) := by decide +kernel
theorem dX2_attempt_65 : decode cX2_attempt 65 = .ok (.iload_n 1, 1) := by decide +kernel
theorem dX2_attempt_66 : decode cX2_attempt 66 = .ok (.iload_n 3, 1) := by decide +kernel
theorem dX2_attempt_67 : decode cX2_attempt 67 = .ok (.invokevirtual 88, 3) := by decide +kernel
theorem dX2_attempt_70 : decode cX2_attempt 70 = .ok (.ifCond .ne 5, 3) := by decide +kernel
theorem dX2_attempt_73 : decode cX2_attempt 73 = .ok (.iconst 0, 1) := by decide +kernel
theorem dX2_attempt_74 : decode cX2_attempt 74 = .ok (.ireturn, 1) := by decide +kernel
theorem dX2_attempt_75 : decode cX2_attempt 75 = .ok (.aload_n 0, 1) := by decide +kernel
theorem dX2_attempt_76 : decode cX2_attempt 76 = .ok (.getfield 7, 3) := by decide +kernel
theorem dX2_attempt_79 : decode cX2_attempt 79 = .ok (.iconst 0, 1) := by decide +kernel
theorem dX2_attempt_80 : decode cX2_attempt 80 = .ok (.dup2, 1) := by decide +kernel
theorem dX2_attempt_81 : decode cX2_attempt 81 = .ok (.iaload, 1) := by decide +kernel
theorem dX2_attempt_82 : decode cX2_attempt 82 = .ok (.iconst 1, 1) := by decide +kernel
theorem dX2_attempt_83 : decode cX2_attempt 83 = .ok (.iadd, 1) := by decide +kernel
theorem dX2_attempt_84 : decode cX2_attempt 84 = .ok (.iastore, 1) := by decide +kernel
theorem dX2_attempt_85 : decode cX2_attempt 85 = .ok (.aload_n 0, 1) := by decide +kernel
theorem dX2_attempt_86 : decode cX2_attempt 86 = .ok (.iconst 4, 1) := by decide +kernel
theorem dX2_attempt_87 : decode cX2_attempt 87 = .ok (.iload_n 1, 1) := by decide +kernel
theorem dX2_attempt_88 : decode cX2_attempt 88 = .ok (.iload_n 2, 1) := by decide +kernel
theorem dX2_attempt_89 : decode cX2_attempt 89 = .ok (.iload_n 2, 1) := by decide +kernel
theorem dX2_attempt_90 : decode cX2_attempt 90 = .ok (.iload_n 3, 1) := by decide +kernel
theorem dX2_attempt_91 : decode cX2_attempt 91 = .ok (.invokevirtual 88, 3) := by decide +kernel
theorem dX2_attempt_94 : decode cX2_attempt 94 = .ok (.ireturn, 1) := by decide +kernel
set_option maxRecDepth 20000 in
theorem ggX2_join_X2_has : GoodIn wsX2_join wsX2_has := goodIn_r _ [5] (by decide +kernel) (by decide +kernel)
set_option maxRecDepth 20000 in
theorem gX2_join_X2_has : GoodIn wsX2_join (va_wsS RX2 70 yX2_has wsX2_has) := goodIn_app (goodIn_of _ (by decide +kernel)) ggX2_join_X2_has
theorem dX2_join_0 : decode cX2_join 0 = .ok (.iconst 0, 1) := by decide +kernel
theorem dX2_join_1 : decode cX2_join 1 = .ok (.istore_n 3, 1) := by decide +kernel
theorem dX2_join_2 : decode cX2_join 2 = .ok (.iload_n 3, 1) := by decide +kernel
theorem dX2_join_3 : decode cX2_join 3 = .ok (.iconst 5, 1) := by decide +kernel
theorem dX2_join_4 : decode cX2_join 4 = .ok (.if_icmp .ge 37, 3) := by decide +kernel
theorem dX2_join_7 : decode cX2_join 7 = .ok (.iload_n 1, 1) := by decide +kernel
theorem dX2_join_8 : decode cX2_join 8 = .ok (.iload_n 3, 1) := by decide +kernel
theorem dX2_join_9 : decode cX2_join 9 = .ok (.invokestatic 70, 3) := by decide +kernel
theorem dX2_join_12 : decode cX2_join 12 = .ok (.ifCond .eq 23, 3) := by decide +kernel
theorem dX2_join_15 : decode cX2_join 15 = .ok (.aload_n 0, 1) := by decide +kernel
theorem dX2_join_16 : decode cX2_join 16 = .ok (.getfield 7, 3) := by decide +kernel
theorem dX2_join_19 : decode cX2_join 19 = .ok (.bipush 14, 2) := by decide +kernel
theorem dX2_join_21 : decode cX2_join 21 = .ok (.iload_n 3, 1) := by decide +kernel
theorem dX2_join_22 : decode cX2_join 22 = .ok (.iadd, 1) := by decide +kernel
theorem dX2_join_23 : decode cX2_join 23 = .ok (.iload_n 1, 1) := by decide +kernel
theorem dX2_join_24 : decode cX2_join 24 = .ok (.iastore, 1) := by decide +kernel
theorem dX2_join_25 : decode cX2_join 25 = .ok (.aload_n 0, 1) := by decide +kernel
theorem dX2_join_26 : decode cX2_join 26 = .ok (.getfield 7, 3) := by decide +kernel
theorem dX2_join_29 : decode cX2_join 29 = .ok (.bipush 19, 2) := by decide +kernel
theorem dX2_join_31 : decode cX2_join 31 = .ok (.iload_n 3, 1) := by decide +kernel
theorem dX2_join_32 : decode cX2_join 32 = .ok (.iadd, 1) := by decide +kernel
theorem dX2_join_33 : decode cX2_join 33 = .ok (.iload_n 2, 1) := by decide +kernel
theorem dX2_join_34 : decode cX2_join 34 = .ok (.iastore, 1) := by decide +kernel
theorem dX2_join_35 : decode cX2_join 35 = .ok (.iinc 3 1, 3) := by decide +kernel
theorem dX2_join_38 : decode cX2_join 38 = .ok (.goto (-36), 3) := by decide +kernel
theorem dX2_join_41 : decode cX2_join 41 = .ok (.return_, 1) := by decide +kernel
set_option maxRecDepth 20000 in
theorem ggX2_call_X2_arePair : GoodIn wsX2_call wsX2_arePair := goodIn_r _ [6, 7, 8, 5, 9, 10, 11, 12] (by decide +kernel) (by decide +kernel)
set_option maxRecDepth 20000 in
theorem gX2_call_X2_arePair : GoodIn wsX2_call (va_wsS RX2 44 yX2_arePair wsX2_arePair) := goodIn_app (goodIn_of _ (by decide +kernel)) ggX2_call_X2_arePair
set_option maxRecDepth 20000 in
theorem ggX2_call_X2_fail : GoodIn wsX2_call wsX2_fail := goodIn_r _ [16, 17, 73, 74, 75, 76, 77, 78, 79] (by decide +kernel) (by decide +kernel)
set_option maxRecDepth 20000 in
theorem gX2_call_X2_fail : GoodIn wsX2_call (wsV RX2 29 RX2 yX2_fail wsX2_fail) := goodIn_app (goodIn_of _ (by decide +kernel)) ggX2_call_X2_fail
set_option maxRecDepth 20000 in
theorem ggX2_call_X2_isLinked : GoodIn wsX2_call wsX2_isLinked := goodIn_r _ [21, 1, 73, 74, 75, 76, 77, 78, 79] (by decide +kernel) (by decide +kernel)
set_option maxRecDepth 20000 in
theorem gX2_call_X2_isLinked : GoodIn wsX2_call (wsV RX2 79 RX2 yX2_isLinked wsX2_isLinked) := goodIn_app (goodIn_of _ (by decide +kernel)) ggX2_call_X2_isLinked
set_option maxRecDepth 20000 in
theorem ggX2_call_X2_note : GoodIn wsX2_call wsX2_note := goodIn_r _ [25, 26, 27, 1, 73, 74, 75, 76, 77, 78, 79] (by decide +kernel) (by decide +kernel)
set_option maxRecDepth 20000 in
theorem gX2_call_X2_note : GoodIn wsX2_call (wsV RX2 41 RX2 yX2_note wsX2_note) := goodIn_app (goodIn_of _ (by decide +kernel)) ggX2_call_X2_note
set_option maxRecDepth 20000 in
theorem ggX2_call_X2_sortChannels : GoodIn wsX2_call wsX2_sortChannels := goodIn_r _ [31, 1, 32, 2, 33, 34, 5, 35, 36, 37, 38, 39, 40, 41, 42, 73, 74, 75, 76, 77, 78, 79] (by decide +kernel) (by decide +kernel)
set_option maxRecDepth 20000 in
theorem gX2_call_X2_sortChannels : GoodIn wsX2_call (wsV RX2 95 RX2 yX2_sortChannels wsX2_sortChannels) := goodIn_app (goodIn_of _ (by decide +kernel)) ggX2_call_X2_sortChannels
set_option maxRecDepth 20000 in
theorem ggX2_call_X2_attempt : GoodIn wsX2_call wsX2_attempt := goodIn_r _ [46, 1, 47, 48, 5, 49, 33, 34, 35, 50, 51, 52, 53, 54, 40, 41, 42, 55, 56, 57, 58, 59, 60, 61, 62, 63, 64, 65, 66, 67, 68, 73, 74, 75, 76, 77, 78, 79] (by decide +kernel) (by decide +kernel)
set_option maxRecDepth 20000 in
theorem gX2_call_X2_attempt : GoodIn wsX2_call (wsV RX2 98 RX2 yX2_attempt wsX2_attempt) := goodIn_app (goodIn_of _ (by decide +kernel)) ggX2_call_X2_attempt
set_option maxRecDepth 20000 in
theorem ggX2_call_X2_join : GoodIn wsX2_call wsX2_join := goodIn_r _ [72, 1, 33, 34, 5, 35, 73, 74, 75, 76, 77, 78, 79] (by decide +kernel) (by decide +kernel)
set_option maxRecDepth 20000 in
theorem gX2_call_X2_join : GoodIn wsX2_call (wsV RX2 101 RX2 yX2_join wsX2_join) := goodIn_app (goodIn_of _ (by decide +kernel)) ggX2_call_X2_join
theorem dX2_call_0 : decode cX2_call 0 = .ok (.iload_n 1, 1) := by decide +kernel
theorem dX2_call_1 : decode cX2_call 1 = .ok (.iload_n 2, 1) := by decide +kernel
theorem dX2_call_2 : decode cX2_call 2 = .ok (.invokestatic 44, 3) := by decide +kernel
theorem dX2_call_5 : decode cX2_call 5 = .ok (.ifCond .ne 10, 3) := by decide +kernel
theorem dX2_call_8 : decode cX2_call 8 = .ok (.aload_n 0, 1) := by decide +kernel
theorem dX2_call_9 : decode cX2_call 9 = .ok (.bipush (-2), 2) := by decide +kernel
theorem dX2_call_11 : decode cX2_call 11 = .ok (.invokevirtual 29, 3) := by decide +kernel
theorem dX2_call_14 : decode cX2_call 14 = .ok (.ireturn, 1) := by decide +kernel
theorem dX2_call_15 : decode cX2_call 15 = .ok (.aload_n 0, 1) := by decide +kernel
theorem dX2_call_16 : decode cX2_call 16 = .ok (.iload_n 1, 1) := by decide +kernel
theorem dX2_call_17 : decode cX2_call 17 = .ok (.invokevirtual 79, 3) := by decide +kernel
theorem dX2_call_20 : decode cX2_call 20 = .ok (.ifCond .ne 11, 3) := by decide +kernel
theorem dX2_call_23 : decode cX2_call 23 = .ok (.aload_n 0, 1) := by decide +kernel
theorem dX2_call_24 : decode cX2_call 24 = .ok (.iload_n 2, 1) := by decide +kernel
theorem dX2_call_25 : decode cX2_call 25 = .ok (.invokevirtual 79, 3) := by decide +kernel
theorem dX2_call_28 : decode cX2_call 28 = .ok (.ifCond .eq 10, 3) := by decide +kernel
theorem dX2_call_31 : decode cX2_call 31 = .ok (.aload_n 0, 1) := by decide +kernel
theorem dX2_call_32 : decode cX2_call 32 = .ok (.bipush (-3), 2) := by decide +kernel
theorem dX2_call_34 : decode cX2_call 34 = .ok (.invokevirtual 29, 3) := by decide +kernel
theorem dX2_call_37 : decode cX2_call 37 = .ok (.ireturn, 1) := by decide +kernel
theorem dX2_call_38 : decode cX2_call 38 = .ok (.aload_n 0, 1) := by decide +kernel
theorem dX2_call_39 : decode cX2_call 39 = .ok (.invokevirtual 41, 3) := by decide +kernel
theorem dX2_call_42 : decode cX2_call 42 = .ok (.aload_n 0, 1) := by decide +kernel
theorem dX2_call_43 : decode cX2_call 43 = .ok (.iload_n 1, 1) := by decide +kernel
theorem dX2_call_44 : decode cX2_call 44 = .ok (.iload_n 2, 1) := by decide +kernel
theorem dX2_call_45 : decode cX2_call 45 = .ok (.invokevirtual 95, 3) := by decide +kernel
theorem dX2_call_48 : decode cX2_call 48 = .ok (.istore_n 3, 1) := by decide +kernel
theorem dX2_call_49 : decode cX2_call 49 = .ok (.aload_n 0, 1) := by decide +kernel
theorem dX2_call_50 : decode cX2_call 50 = .ok (.getfield 7, 3) := by decide +kernel
theorem dX2_call_53 : decode cX2_call 53 = .ok (.iconst 5, 1) := by decide +kernel
theorem dX2_call_54 : decode cX2_call 54 = .ok (.iconst 0, 1) := by decide +kernel
theorem dX2_call_55 : decode cX2_call 55 = .ok (.iastore, 1) := by decide +kernel
theorem dX2_call_56 : decode cX2_call 56 = .ok (.iconst 0, 1) := by decide +kernel
theorem dX2_call_57 : decode cX2_call 57 = .ok (.istore 4, 2) := by decide +kernel
theorem dX2_call_59 : decode cX2_call 59 = .ok (.iload 4, 2) := by decide +kernel
theorem dX2_call_61 : decode cX2_call 61 = .ok (.iload_n 3, 1) := by decide +kernel
theorem dX2_call_62 : decode cX2_call 62 = .ok (.if_icmp .ge 75, 3) := by decide +kernel
theorem dX2_call_65 : decode cX2_call 65 = .ok (.aload_n 0, 1) := by decide +kernel
theorem dX2_call_66 : decode cX2_call 66 = .ok (.getfield 7, 3) := by decide +kernel
theorem dX2_call_69 : decode cX2_call 69 = .ok (.iconst 5, 1) := by decide +kernel
theorem dX2_call_70 : decode cX2_call 70 = .ok (.dup2, 1) := by decide +kernel
theorem dX2_call_71 : decode cX2_call 71 = .ok (.iaload, 1) := by decide +kernel
theorem dX2_call_72 : decode cX2_call 72 = .ok (.iconst 1, 1) := by decide +kernel
theorem dX2_call_73 : decode cX2_call 73 = .ok (.iadd, 1) := by decide +kernel
theorem dX2_call_74 : decode cX2_call 74 = .ok (.iastore, 1) := by decide +kernel
theorem dX2_call_75 : decode cX2_call 75 = .ok (.aload_n 0, 1) := by decide +kernel
theorem dX2_call_76 : decode cX2_call 76 = .ok (.getfield 7, 3) := by decide +kernel
theorem dX2_call_79 : decode cX2_call 79 = .ok (.bipush 6, 2) := by decide +kernel
theorem dX2_call_81 : decode cX2_call 81 = .ok (.aload_n 0, 1) := by decide +kernel
theorem dX2_call_82 : decode cX2_call 82 = .ok (.getfield 19, 3) := by decide +kernel
theorem dX2_call_85 : decode cX2_call 85 = .ok (.iload 4, 2) := by decide +kernel
theorem dX2_call_87 : decode cX2_call 87 = .ok (.iaload, 1) := by decide +kernel
theorem dX2_call_88 : decode cX2_call 88 = .ok (.iastore, 1) := by decide +kernel
theorem dX2_call_89 : decode cX2_call 89 = .ok (.aload_n 0, 1) := by decide +kernel
theorem dX2_call_90 : decode cX2_call 90 = .ok (.iload_n 1, 1) := by decide +kernel
theorem dX2_call_91 : decode cX2_call 91 = .ok (.iload_n 2, 1) := by decide +kernel
theorem dX2_call_92 : decode cX2_call 92 = .ok (.aload_n 0, 1) := by decide +kernel
theorem dX2_call_93 : decode cX2_call 93 = .ok (.getfield 19, 3) := by decide +kernel
theorem dX2_call_96 : decode cX2_call 96 = .ok (.iload 4, 2) := by decide +kernel
theorem dX2_call_98 : decode cX2_call 98 = .ok (.iaload, 1) := by decide +kernel
theorem dX2_call_99 : decode cX2_call 99 = .ok (.invokevirtual 98, 3) := by decide +kernel
theorem dX2_call_102 : decode cX2_call 102 = .ok (.ifCond .eq 29, 3) := by decide +kernel
theorem dX2_call_105 : decode cX2_call 105 = .ok (.aload_n 0, 1) := by decide +kernel
theorem dX2_call_106 : decode cX2_call 106 = .ok (.iconst 1, 1) := by decide +kernel
theorem dX2_call_107 : decode cX2_call 107 = .ok (.iload_n 1, 1) := by decide +kernel
theorem dX2_call_108 : decode cX2_call 108 = .ok (.ishl, 1) := by decide +kernel
theorem dX2_call_109 : decode cX2_call 109 = .ok (.iconst 1, 1) := by decide +kernel
theorem dX2_call_110 : decode cX2_call 110 = .ok (.iload_n 2, 1) := by decide +kernel
theorem dX2_call_111 : decode cX2_call 111 = .ok (.ishl, 1) := by decide +kernel
theorem dX2_call_112 : decode cX2_call 112 = .ok (.ior, 1) := by decide +kernel
theorem dX2_call_113 : decode cX2_call 113 = .ok (.aload_n 0, 1) := by decide +kernel
theorem dX2_call_114 : decode cX2_call 114 = .ok (.getfield 19, 3) := by decide +kernel
theorem dX2_call_117 : decode cX2_call 117 = .ok (.iload 4, 2) := by decide +kernel
theorem dX2_call_119 : decode cX2_call 119 = .ok (.iaload, 1) := by decide +kernel
theorem dX2_call_120 : decode cX2_call 120 = .ok (.invokevirtual 101, 3) := by decide +kernel
theorem dX2_call_123 : decode cX2_call 123 = .ok (.aload_n 0, 1) := by decide +kernel
theorem dX2_call_124 : decode cX2_call 124 = .ok (.getfield 19, 3) := by decide +kernel
theorem dX2_call_127 : decode cX2_call 127 = .ok (.iload 4, 2) := by decide +kernel
theorem dX2_call_129 : decode cX2_call 129 = .ok (.iaload, 1) := by decide +kernel
theorem dX2_call_130 : decode cX2_call 130 = .ok (.ireturn, 1) := by decide +kernel
theorem dX2_call_131 : decode cX2_call 131 = .ok (.iinc 4 1, 3) := by decide +kernel
theorem dX2_call_134 : decode cX2_call 134 = .ok (.goto (-75), 3) := by decide +kernel
theorem dX2_call_137 : decode cX2_call 137 = .ok (.iconst (-1), 1) := by decide +kernel
theorem dX2_call_138 : decode cX2_call 138 = .ok (.ireturn, 1) := by decide +kernel
set_option maxRecDepth 20000 in
theorem ggX2_netScore_X2_has : GoodIn wsX2_netScore wsX2_has := goodIn_r _ [4] (by decide +kernel) (by decide +kernel)
set_option maxRecDepth 20000 in
theorem gX2_netScore_X2_has : GoodIn wsX2_netScore (va_wsS RX2 70 yX2_has wsX2_has) := goodIn_app (goodIn_of _ (by decide +kernel)) ggX2_netScore_X2_has
set_option maxRecDepth 20000 in
theorem ggX2_netScore_X2_effectiveOf : GoodIn wsX2_netScore wsX2_effectiveOf := goodIn_r _ [8, 9, 10, 11, 3, 12, 13, 14, 15, 16, 17, 18, 19] (by decide +kernel) (by decide +kernel)
set_option maxRecDepth 20000 in
theorem gX2_netScore_X2_effectiveOf : GoodIn wsX2_netScore (wsV RX2 92 RX2 yX2_effectiveOf wsX2_effectiveOf) := goodIn_app (goodIn_of _ (by decide +kernel)) ggX2_netScore_X2_effectiveOf
theorem dX2_netScore_0 : decode cX2_netScore 0 = .ok (.bipush 31, 2) := by decide +kernel
theorem dX2_netScore_2 : decode cX2_netScore 2 = .ok (.istore 4, 2) := by decide +kernel
theorem dX2_netScore_4 : decode cX2_netScore 4 = .ok (.iconst 0, 1) := by decide +kernel
theorem dX2_netScore_5 : decode cX2_netScore 5 = .ok (.istore 5, 2) := by decide +kernel
theorem dX2_netScore_7 : decode cX2_netScore 7 = .ok (.iload 5, 2) := by decide +kernel
theorem dX2_netScore_9 : decode cX2_netScore 9 = .ok (.iconst 5, 1) := by decide +kernel
theorem dX2_netScore_10 : decode cX2_netScore 10 = .ok (.if_icmp .ge 49, 3) := by decide +kernel
theorem dX2_netScore_13 : decode cX2_netScore 13 = .ok (.iload_n 2, 1) := by decide +kernel
theorem dX2_netScore_14 : decode cX2_netScore 14 = .ok (.iload 5, 2) := by decide +kernel
theorem dX2_netScore_16 : decode cX2_netScore 16 = .ok (.invokestatic 70, 3) := by decide +kernel
theorem dX2_netScore_19 : decode cX2_netScore 19 = .ok (.ifCond .eq 14, 3) := by decide +kernel
theorem dX2_netScore_22 : decode cX2_netScore 22 = .ok (.aload_n 0, 1) := by decide +kernel
theorem dX2_netScore_23 : decode cX2_netScore 23 = .ok (.iload_n 1, 1) := by decide +kernel
theorem dX2_netScore_24 : decode cX2_netScore 24 = .ok (.iload 5, 2) := by decide +kernel
theorem dX2_netScore_26 : decode cX2_netScore 26 = .ok (.iload_n 3, 1) := by decide +kernel
theorem dX2_netScore_27 : decode cX2_netScore 27 = .ok (.invokevirtual 92, 3) := by decide +kernel
theorem dX2_netScore_30 : decode cX2_netScore 30 = .ok (.goto 5, 3) := by decide +kernel
theorem dX2_netScore_33 : decode cX2_netScore 33 = .ok (.bipush 31, 2) := by decide +kernel
theorem dX2_netScore_35 : decode cX2_netScore 35 = .ok (.istore 6, 2) := by decide +kernel
theorem dX2_netScore_37 : decode cX2_netScore 37 = .ok (.iload 6, 2) := by decide +kernel
theorem dX2_netScore_39 : decode cX2_netScore 39 = .ok (.iload 4, 2) := by decide +kernel
theorem dX2_netScore_41 : decode cX2_netScore 41 = .ok (.if_icmp .ge 8, 3) := by decide +kernel
theorem dX2_netScore_44 : decode cX2_netScore 44 = .ok (.iload 6, 2) := by decide +kernel
theorem dX2_netScore_46 : decode cX2_netScore 46 = .ok (.goto 5, 3) := by decide +kernel
theorem dX2_netScore_49 : decode cX2_netScore 49 = .ok (.iload 4, 2) := by decide +kernel
theorem dX2_netScore_51 : decode cX2_netScore 51 = .ok (.istore 4, 2) := by decide +kernel
theorem dX2_netScore_53 : decode cX2_netScore 53 = .ok (.iinc 5 1, 3) := by decide +kernel
theorem dX2_netScore_56 : decode cX2_netScore 56 = .ok (.goto (-49), 3) := by decide +kernel
theorem dX2_netScore_59 : decode cX2_netScore 59 = .ok (.iload 4, 2) := by decide +kernel
theorem dX2_netScore_61 : decode cX2_netScore 61 = .ok (.ireturn, 1) := by decide +kernel
set_option maxRecDepth 20000 in
theorem ggX2_netChannelOf_X2_has : GoodIn wsX2_netChannelOf wsX2_has := goodIn_r _ [5] (by decide +kernel) (by decide +kernel)
set_option maxRecDepth 20000 in
theorem gX2_netChannelOf_X2_has : GoodIn wsX2_netChannelOf (va_wsS RX2 70 yX2_has wsX2_has) := goodIn_app (goodIn_of _ (by decide +kernel)) ggX2_netChannelOf_X2_has
set_option maxRecDepth 20000 in
theorem ggX2_netChannelOf_X2_netScore : GoodIn wsX2_netChannelOf wsX2_netScore := goodIn_r _ [9, 2, 3, 4, 5, 10, 11, 12, 13, 1, 14, 15, 16, 17, 18, 19, 20, 21, 22, 23] (by decide +kernel) (by decide +kernel)
set_option maxRecDepth 20000 in
theorem gX2_netChannelOf_X2_netScore : GoodIn wsX2_netChannelOf (wsV RX2 105 RX2 yX2_netScore wsX2_netScore) := goodIn_app (goodIn_of _ (by decide +kernel)) ggX2_netChannelOf_X2_netScore
theorem dX2_netChannelOf_0 : decode cX2_netChannelOf 0 = .ok (.iconst (-1), 1) := by decide +kernel
theorem dX2_netChannelOf_1 : decode cX2_netChannelOf 1 = .ok (.istore_n 3, 1) := by decide +kernel
theorem dX2_netChannelOf_2 : decode cX2_netChannelOf 2 = .ok (.iconst 0, 1) := by decide +kernel
theorem dX2_netChannelOf_3 : decode cX2_netChannelOf 3 = .ok (.istore 4, 2) := by decide +kernel
theorem dX2_netChannelOf_5 : decode cX2_netChannelOf 5 = .ok (.iload 4, 2) := by decide +kernel
theorem dX2_netChannelOf_7 : decode cX2_netChannelOf 7 = .ok (.bipush 8, 2) := by decide +kernel
theorem dX2_netChannelOf_9 : decode cX2_netChannelOf 9 = .ok (.if_icmp .ge 68, 3) := by decide +kernel
theorem dX2_netChannelOf_12 : decode cX2_netChannelOf 12 = .ok (.aload_n 0, 1) := by decide +kernel
theorem dX2_netChannelOf_13 : decode cX2_netChannelOf 13 = .ok (.getfield 7, 3) := by decide +kernel
theorem dX2_netChannelOf_16 : decode cX2_netChannelOf 16 = .ok (.bipush 9, 2) := by decide +kernel
theorem dX2_netChannelOf_18 : decode cX2_netChannelOf 18 = .ok (.iload_n 1, 1) := by decide +kernel
theorem dX2_netChannelOf_19 : decode cX2_netChannelOf 19 = .ok (.iadd, 1) := by decide +kernel
theorem dX2_netChannelOf_20 : decode cX2_netChannelOf 20 = .ok (.iaload, 1) := by decide +kernel
theorem dX2_netChannelOf_21 : decode cX2_netChannelOf 21 = .ok (.iload 4, 2) := by decide +kernel
theorem dX2_netChannelOf_23 : decode cX2_netChannelOf 23 = .ok (.invokestatic 70, 3) := by decide +kernel
theorem dX2_netChannelOf_26 : decode cX2_netChannelOf 26 = .ok (.ifCond .eq 30, 3) := by decide +kernel
theorem dX2_netChannelOf_29 : decode cX2_netChannelOf 29 = .ok (.iload_n 3, 1) := by decide +kernel
theorem dX2_netChannelOf_30 : decode cX2_netChannelOf 30 = .ok (.iconst (-1), 1) := by decide +kernel
theorem dX2_netChannelOf_31 : decode cX2_netChannelOf 31 = .ok (.if_icmp .eq 21, 3) := by decide +kernel
theorem dX2_netChannelOf_34 : decode cX2_netChannelOf 34 = .ok (.aload_n 0, 1) := by decide +kernel
theorem dX2_netChannelOf_35 : decode cX2_netChannelOf 35 = .ok (.iload_n 1, 1) := by decide +kernel
theorem dX2_netChannelOf_36 : decode cX2_netChannelOf 36 = .ok (.iload_n 2, 1) := by decide +kernel
theorem dX2_netChannelOf_37 : decode cX2_netChannelOf 37 = .ok (.iload 4, 2) := by decide +kernel
theorem dX2_netChannelOf_39 : decode cX2_netChannelOf 39 = .ok (.invokevirtual 105, 3) := by decide +kernel
theorem dX2_netChannelOf_42 : decode cX2_netChannelOf 42 = .ok (.aload_n 0, 1) := by decide +kernel
theorem dX2_netChannelOf_43 : decode cX2_netChannelOf 43 = .ok (.iload_n 1, 1) := by decide +kernel
theorem dX2_netChannelOf_44 : decode cX2_netChannelOf 44 = .ok (.iload_n 2, 1) := by decide +kernel
theorem dX2_netChannelOf_45 : decode cX2_netChannelOf 45 = .ok (.iload_n 3, 1) := by decide +kernel
theorem dX2_netChannelOf_46 : decode cX2_netChannelOf 46 = .ok (.invokevirtual 105, 3) := by decide +kernel
theorem dX2_netChannelOf_49 : decode cX2_netChannelOf 49 = .ok (.if_icmp .le 7, 3) := by decide +kernel
theorem dX2_netChannelOf_52 : decode cX2_netChannelOf 52 = .ok (.iconst 1, 1) := by decide +kernel
theorem dX2_netChannelOf_53 : decode cX2_netChannelOf 53 = .ok (.goto 4, 3) := by decide +kernel
theorem dX2_netChannelOf_56 : decode cX2_netChannelOf 56 = .ok (.iconst 0, 1) := by decide +kernel
theorem dX2_netChannelOf_57 : decode cX2_netChannelOf 57 = .ok (.istore 5, 2) := by decide +kernel
theorem dX2_netChannelOf_59 : decode cX2_netChannelOf 59 = .ok (.iload 5, 2) := by decide +kernel
theorem dX2_netChannelOf_61 : decode cX2_netChannelOf 61 = .ok (.ifCond .eq 8, 3) := by decide +kernel
theorem dX2_netChannelOf_64 : decode cX2_netChannelOf 64 = .ok (.iload 4, 2) := by decide +kernel
theorem dX2_netChannelOf_66 : decode cX2_netChannelOf 66 = .ok (.goto 4, 3) := by decide +kernel
theorem dX2_netChannelOf_69 : decode cX2_netChannelOf 69 = .ok (.iload_n 3, 1) := by decide +kernel
theorem dX2_netChannelOf_70 : decode cX2_netChannelOf 70 = .ok (.istore_n 3, 1) := by decide +kernel
theorem dX2_netChannelOf_71 : decode cX2_netChannelOf 71 = .ok (.iinc 4 1, 3) := by decide +kernel
theorem dX2_netChannelOf_74 : decode cX2_netChannelOf 74 = .ok (.goto (-69), 3) := by decide +kernel
theorem dX2_netChannelOf_77 : decode cX2_netChannelOf 77 = .ok (.iload_n 3, 1) := by decide +kernel
theorem dX2_netChannelOf_78 : decode cX2_netChannelOf 78 = .ok (.ireturn, 1) := by decide +kernel
set_option maxRecDepth 20000 in
theorem ggX2_isNet_X2_isStation : GoodIn wsX2_isNet wsX2_isStation := goodIn_r _ [4, 5, 6, 3, 7] (by decide +kernel) (by decide +kernel)
set_option maxRecDepth 20000 in
theorem gX2_isNet_X2_isStation : GoodIn wsX2_isNet (va_wsS RX2 37 yX2_isStation wsX2_isStation) := goodIn_app (goodIn_of _ (by decide +kernel)) ggX2_isNet_X2_isStation
set_option maxRecDepth 20000 in
theorem ggX2_isNet_X2_in : GoodIn wsX2_isNet wsX2_in := goodIn_r _ [7] (by decide +kernel) (by decide +kernel)
set_option maxRecDepth 20000 in
theorem gX2_isNet_X2_in : GoodIn wsX2_isNet (va_wsS RX2 33 yX2_in wsX2_in) := goodIn_app (goodIn_of _ (by decide +kernel)) ggX2_isNet_X2_in
set_option maxRecDepth 20000 in
theorem ggX2_isNet_X2_has : GoodIn wsX2_isNet wsX2_has := goodIn_r _ [10] (by decide +kernel) (by decide +kernel)
set_option maxRecDepth 20000 in
theorem gX2_isNet_X2_has : GoodIn wsX2_isNet (va_wsS RX2 70 yX2_has wsX2_has) := goodIn_app (goodIn_of _ (by decide +kernel)) ggX2_isNet_X2_has
theorem dX2_isNet_0 : decode cX2_isNet 0 = .ok (.iload_n 0, 1) := by decide +kernel
theorem dX2_isNet_1 : decode cX2_isNet 1 = .ok (.invokestatic 37, 3) := by decide +kernel
theorem dX2_isNet_4 : decode cX2_isNet 4 = .ok (.ifCond .eq 25, 3) := by decide +kernel
theorem dX2_isNet_7 : decode cX2_isNet 7 = .ok (.iload_n 1, 1) := by decide +kernel
theorem dX2_isNet_8 : decode cX2_isNet 8 = .ok (.iconst 1, 1) := by decide +kernel
theorem dX2_isNet_9 : decode cX2_isNet 9 = .ok (.bipush 31, 2) := by decide +kernel
theorem dX2_isNet_11 : decode cX2_isNet 11 = .ok (.invokestatic 33, 3) := by decide +kernel
theorem dX2_isNet_14 : decode cX2_isNet 14 = .ok (.ifCond .eq 15, 3) := by decide +kernel
theorem dX2_isNet_17 : decode cX2_isNet 17 = .ok (.iload_n 1, 1) := by decide +kernel
theorem dX2_isNet_18 : decode cX2_isNet 18 = .ok (.iload_n 0, 1) := by decide +kernel
theorem dX2_isNet_19 : decode cX2_isNet 19 = .ok (.invokestatic 70, 3) := by decide +kernel
theorem dX2_isNet_22 : decode cX2_isNet 22 = .ok (.ifCond .ne 7, 3) := by decide +kernel
theorem dX2_isNet_25 : decode cX2_isNet 25 = .ok (.iconst 1, 1) := by decide +kernel
theorem dX2_isNet_26 : decode cX2_isNet 26 = .ok (.goto 4, 3) := by decide +kernel
theorem dX2_isNet_29 : decode cX2_isNet 29 = .ok (.iconst 0, 1) := by decide +kernel
theorem dX2_isNet_30 : decode cX2_isNet 30 = .ok (.ireturn, 1) := by decide +kernel
set_option maxRecDepth 20000 in
theorem ggX2_answers_X2_has : GoodIn wsX2_answers wsX2_has := goodIn_r _ [5] (by decide +kernel) (by decide +kernel)
set_option maxRecDepth 20000 in
theorem gX2_answers_X2_has : GoodIn wsX2_answers (va_wsS RX2 70 yX2_has wsX2_has) := goodIn_app (goodIn_of _ (by decide +kernel)) ggX2_answers_X2_has
set_option maxRecDepth 20000 in
theorem ggX2_answers_X2_isLinked : GoodIn wsX2_answers wsX2_isLinked := goodIn_r _ [9, 1, 32, 33, 34, 35, 36, 37, 38] (by decide +kernel) (by decide +kernel)
set_option maxRecDepth 20000 in
theorem gX2_answers_X2_isLinked : GoodIn wsX2_answers (wsV RX2 79 RX2 yX2_isLinked wsX2_isLinked) := goodIn_app (goodIn_of _ (by decide +kernel)) ggX2_answers_X2_isLinked
set_option maxRecDepth 20000 in
theorem ggX2_answers_X2_transmit : GoodIn wsX2_answers wsX2_transmit := goodIn_r _ [13, 14, 1, 15, 16, 4, 17, 18, 19, 20, 21, 22, 23, 24, 25, 26, 27, 28, 2, 3, 5, 29, 30, 31, 32, 33, 34, 35, 36, 37, 38] (by decide +kernel) (by decide +kernel)
set_option maxRecDepth 20000 in
theorem gX2_answers_X2_transmit : GoodIn wsX2_answers (wsV RX2 88 RX2 yX2_transmit wsX2_transmit) := goodIn_app (goodIn_of _ (by decide +kernel)) ggX2_answers_X2_transmit
theorem dX2_answers_0 : decode cX2_answers 0 = .ok (.aload_n 0, 1) := by decide +kernel
theorem dX2_answers_1 : decode cX2_answers 1 = .ok (.getfield 7, 3) := by decide +kernel
theorem dX2_answers_4 : decode cX2_answers 4 = .ok (.bipush 9, 2) := by decide +kernel
theorem dX2_answers_6 : decode cX2_answers 6 = .ok (.iload_n 2, 1) := by decide +kernel
theorem dX2_answers_7 : decode cX2_answers 7 = .ok (.iadd, 1) := by decide +kernel
theorem dX2_answers_8 : decode cX2_answers 8 = .ok (.iaload, 1) := by decide +kernel
theorem dX2_answers_9 : decode cX2_answers 9 = .ok (.iload_n 3, 1) := by decide +kernel
theorem dX2_answers_10 : decode cX2_answers 10 = .ok (.invokestatic 70, 3) := by decide +kernel
theorem dX2_answers_13 : decode cX2_answers 13 = .ok (.ifCond .eq 25, 3) := by decide +kernel
theorem dX2_answers_16 : decode cX2_answers 16 = .ok (.aload_n 0, 1) := by decide +kernel
theorem dX2_answers_17 : decode cX2_answers 17 = .ok (.iload_n 2, 1) := by decide +kernel
theorem dX2_answers_18 : decode cX2_answers 18 = .ok (.invokevirtual 79, 3) := by decide +kernel
theorem dX2_answers_21 : decode cX2_answers 21 = .ok (.ifCond .ne 17, 3) := by decide +kernel
theorem dX2_answers_24 : decode cX2_answers 24 = .ok (.aload_n 0, 1) := by decide +kernel
theorem dX2_answers_25 : decode cX2_answers 25 = .ok (.iconst 2, 1) := by decide +kernel
theorem dX2_answers_26 : decode cX2_answers 26 = .ok (.iload_n 1, 1) := by decide +kernel
theorem dX2_answers_27 : decode cX2_answers 27 = .ok (.iload_n 2, 1) := by decide +kernel
theorem dX2_answers_28 : decode cX2_answers 28 = .ok (.sipush 255, 3) := by decide +kernel
theorem dX2_answers_31 : decode cX2_answers 31 = .ok (.iload_n 3, 1) := by decide +kernel
theorem dX2_answers_32 : decode cX2_answers 32 = .ok (.invokevirtual 88, 3) := by decide +kernel
theorem dX2_answers_35 : decode cX2_answers 35 = .ok (.ifCond .ne 5, 3) := by decide +kernel
theorem dX2_answers_38 : decode cX2_answers 38 = .ok (.iconst 0, 1) := by decide +kernel
theorem dX2_answers_39 : decode cX2_answers 39 = .ok (.ireturn, 1) := by decide +kernel
theorem dX2_answers_40 : decode cX2_answers 40 = .ok (.aload_n 0, 1) := by decide +kernel
theorem dX2_answers_41 : decode cX2_answers 41 = .ok (.getfield 7, 3) := by decide +kernel
theorem dX2_answers_44 : decode cX2_answers 44 = .ok (.iconst 0, 1) := by decide +kernel
theorem dX2_answers_45 : decode cX2_answers 45 = .ok (.dup2, 1) := by decide +kernel
theorem dX2_answers_46 : decode cX2_answers 46 = .ok (.iaload, 1) := by decide +kernel
theorem dX2_answers_47 : decode cX2_answers 47 = .ok (.iconst 1, 1) := by decide +kernel
theorem dX2_answers_48 : decode cX2_answers 48 = .ok (.iadd, 1) := by decide +kernel
theorem dX2_answers_49 : decode cX2_answers 49 = .ok (.iastore, 1) := by decide +kernel
theorem dX2_answers_50 : decode cX2_answers 50 = .ok (.aload_n 0, 1) := by decide +kernel
theorem dX2_answers_51 : decode cX2_answers 51 = .ok (.iconst 3, 1) := by decide +kernel
theorem dX2_answers_52 : decode cX2_answers 52 = .ok (.iload_n 2, 1) := by decide +kernel
theorem dX2_answers_53 : decode cX2_answers 53 = .ok (.iload_n 1, 1) := by decide +kernel
theorem dX2_answers_54 : decode cX2_answers 54 = .ok (.iload_n 1, 1) := by decide +kernel
theorem dX2_answers_55 : decode cX2_answers 55 = .ok (.iload_n 3, 1) := by decide +kernel
theorem dX2_answers_56 : decode cX2_answers 56 = .ok (.invokevirtual 88, 3) := by decide +kernel
theorem dX2_answers_59 : decode cX2_answers 59 = .ok (.ireturn, 1) := by decide +kernel
set_option maxRecDepth 20000 in
theorem ggX2_netCall_X2_isNet : GoodIn wsX2_netCall wsX2_isNet := goodIn_r _ [5, 6, 7, 4, 8, 9, 10, 11, 12, 13, 14] (by decide +kernel) (by decide +kernel)
set_option maxRecDepth 20000 in
theorem gX2_netCall_X2_isNet : GoodIn wsX2_netCall (va_wsS RX2 108 yX2_isNet wsX2_isNet) := goodIn_app (goodIn_of _ (by decide +kernel)) ggX2_netCall_X2_isNet
set_option maxRecDepth 20000 in
theorem ggX2_netCall_X2_fail : GoodIn wsX2_netCall wsX2_fail := goodIn_r _ [18, 19, 79, 80, 81, 82, 83, 84, 85] (by decide +kernel) (by decide +kernel)
set_option maxRecDepth 20000 in
theorem gX2_netCall_X2_fail : GoodIn wsX2_netCall (wsV RX2 29 RX2 yX2_fail wsX2_fail) := goodIn_app (goodIn_of _ (by decide +kernel)) ggX2_netCall_X2_fail
set_option maxRecDepth 20000 in
theorem ggX2_netCall_X2_isLinked : GoodIn wsX2_netCall wsX2_isLinked := goodIn_r _ [23, 1, 79, 80, 81, 82, 83, 84, 85] (by decide +kernel) (by decide +kernel)
set_option maxRecDepth 20000 in
theorem gX2_netCall_X2_isLinked : GoodIn wsX2_netCall (wsV RX2 79 RX2 yX2_isLinked wsX2_isLinked) := goodIn_app (goodIn_of _ (by decide +kernel)) ggX2_netCall_X2_isLinked
set_option maxRecDepth 20000 in
theorem ggX2_netCall_X2_note : GoodIn wsX2_netCall wsX2_note := goodIn_r _ [27, 28, 29, 1, 79, 80, 81, 82, 83, 84, 85] (by decide +kernel) (by decide +kernel)
set_option maxRecDepth 20000 in
theorem gX2_netCall_X2_note : GoodIn wsX2_netCall (wsV RX2 41 RX2 yX2_note wsX2_note) := goodIn_app (goodIn_of _ (by decide +kernel)) ggX2_netCall_X2_note
set_option maxRecDepth 20000 in
theorem ggX2_netCall_X2_netChannelOf : GoodIn wsX2_netCall wsX2_netChannelOf := goodIn_r _ [33, 1, 12, 13, 4, 14, 34, 35, 36, 37, 38, 39, 40, 41, 42, 43, 44, 79, 80, 81, 82, 83, 84, 85] (by decide +kernel) (by decide +kernel)
set_option maxRecDepth 20000 in
theorem gX2_netCall_X2_netChannelOf : GoodIn wsX2_netCall (wsV RX2 111 RX2 yX2_netChannelOf wsX2_netChannelOf) := goodIn_app (goodIn_of _ (by decide +kernel)) ggX2_netCall_X2_netChannelOf
set_option maxRecDepth 20000 in
theorem ggX2_netCall_X2_mostOf : GoodIn wsX2_netCall wsX2_mostOf := goodIn_r _ [48, 1, 12, 13, 4, 14, 49, 50, 51, 79, 80, 81, 82, 83, 84, 85] (by decide +kernel) (by decide +kernel)
set_option maxRecDepth 20000 in
theorem gX2_netCall_X2_mostOf : GoodIn wsX2_netCall (wsV RX2 82 RX2 yX2_mostOf wsX2_mostOf) := goodIn_app (goodIn_of _ (by decide +kernel)) ggX2_netCall_X2_mostOf
set_option maxRecDepth 20000 in
theorem ggX2_netCall_X2_has : GoodIn wsX2_netCall wsX2_has := goodIn_r _ [14] (by decide +kernel) (by decide +kernel)
set_option maxRecDepth 20000 in
theorem gX2_netCall_X2_has : GoodIn wsX2_netCall (va_wsS RX2 70 yX2_has wsX2_has) := goodIn_app (goodIn_of _ (by decide +kernel)) ggX2_netCall_X2_has
set_option maxRecDepth 20000 in
theorem ggX2_netCall_X2_answers : GoodIn wsX2_netCall wsX2_answers := goodIn_r _ [55, 1, 12, 13, 4, 14, 20, 21, 22, 23, 56, 57, 58, 59, 60, 42, 43, 44, 61, 62, 63, 64, 65, 66, 67, 68, 69, 70, 71, 72, 73, 74, 79, 80, 81, 82, 83, 84, 85] (by decide +kernel) (by decide +kernel)
set_option maxRecDepth 20000 in
theorem gX2_netCall_X2_answers : GoodIn wsX2_netCall (wsV RX2 114 RX2 yX2_answers wsX2_answers) := goodIn_app (goodIn_of _ (by decide +kernel)) ggX2_netCall_X2_answers
set_option maxRecDepth 20000 in
theorem ggX2_netCall_X2_transmit : GoodIn wsX2_netCall wsX2_transmit := goodIn_r _ [59, 60, 1, 42, 43, 4, 44, 61, 62, 63, 64, 65, 66, 67, 68, 69, 70, 71, 12, 13, 14, 72, 73, 74, 79, 80, 81, 82, 83, 84, 85] (by decide +kernel) (by decide +kernel)
set_option maxRecDepth 20000 in
theorem gX2_netCall_X2_transmit : GoodIn wsX2_netCall (wsV RX2 88 RX2 yX2_transmit wsX2_transmit) := goodIn_app (goodIn_of _ (by decide +kernel)) ggX2_netCall_X2_transmit
set_option maxRecDepth 20000 in
theorem ggX2_netCall_X2_join : GoodIn wsX2_netCall wsX2_join := goodIn_r _ [78, 1, 12, 13, 4, 14, 79, 80, 81, 82, 83, 84, 85] (by decide +kernel) (by decide +kernel)
set_option maxRecDepth 20000 in
theorem gX2_netCall_X2_join : GoodIn wsX2_netCall (wsV RX2 101 RX2 yX2_join wsX2_join) := goodIn_app (goodIn_of _ (by decide +kernel)) ggX2_netCall_X2_join
theorem dX2_netCall_0 : decode cX2_netCall 0 = .ok (.iload_n 1, 1) := by decide +kernel
theorem dX2_netCall_1 : decode cX2_netCall 1 = .ok (.iload_n 2, 1) := by decide +kernel
theorem dX2_netCall_2 : decode cX2_netCall 2 = .ok (.invokestatic 108, 3) := by decide +kernel
theorem dX2_netCall_5 : decode cX2_netCall 5 = .ok (.ifCond .ne 10, 3) := by decide +kernel
theorem dX2_netCall_8 : decode cX2_netCall 8 = .ok (.aload_n 0, 1) := by decide +kernel
theorem dX2_netCall_9 : decode cX2_netCall 9 = .ok (.bipush (-2), 2) := by decide +kernel
theorem dX2_netCall_11 : decode cX2_netCall 11 = .ok (.invokevirtual 29, 3) := by decide +kernel
theorem dX2_netCall_14 : decode cX2_netCall 14 = .ok (.ireturn, 1) := by decide +kernel
theorem dX2_netCall_15 : decode cX2_netCall 15 = .ok (.aload_n 0, 1) := by decide +kernel
theorem dX2_netCall_16 : decode cX2_netCall 16 = .ok (.iload_n 1, 1) := by decide +kernel
theorem dX2_netCall_17 : decode cX2_netCall 17 = .ok (.invokevirtual 79, 3) := by decide +kernel
theorem dX2_netCall_20 : decode cX2_netCall 20 = .ok (.ifCond .eq 10, 3) := by decide +kernel
theorem dX2_netCall_23 : decode cX2_netCall 23 = .ok (.aload_n 0, 1) := by decide +kernel
theorem dX2_netCall_24 : decode cX2_netCall 24 = .ok (.bipush (-3), 2) := by decide +kernel
theorem dX2_netCall_26 : decode cX2_netCall 26 = .ok (.invokevirtual 29, 3) := by decide +kernel
theorem dX2_netCall_29 : decode cX2_netCall 29 = .ok (.ireturn, 1) := by decide +kernel
theorem dX2_netCall_30 : decode cX2_netCall 30 = .ok (.aload_n 0, 1) := by decide +kernel
theorem dX2_netCall_31 : decode cX2_netCall 31 = .ok (.invokevirtual 41, 3) := by decide +kernel
theorem dX2_netCall_34 : decode cX2_netCall 34 = .ok (.aload_n 0, 1) := by decide +kernel
theorem dX2_netCall_35 : decode cX2_netCall 35 = .ok (.iload_n 1, 1) := by decide +kernel
theorem dX2_netCall_36 : decode cX2_netCall 36 = .ok (.iload_n 2, 1) := by decide +kernel
theorem dX2_netCall_37 : decode cX2_netCall 37 = .ok (.invokevirtual 111, 3) := by decide +kernel
theorem dX2_netCall_40 : decode cX2_netCall 40 = .ok (.istore_n 3, 1) := by decide +kernel
theorem dX2_netCall_41 : decode cX2_netCall 41 = .ok (.aload_n 0, 1) := by decide +kernel
theorem dX2_netCall_42 : decode cX2_netCall 42 = .ok (.getfield 7, 3) := by decide +kernel
theorem dX2_netCall_45 : decode cX2_netCall 45 = .ok (.iconst 5, 1) := by decide +kernel
theorem dX2_netCall_46 : decode cX2_netCall 46 = .ok (.iconst 1, 1) := by decide +kernel
theorem dX2_netCall_47 : decode cX2_netCall 47 = .ok (.iastore, 1) := by decide +kernel
theorem dX2_netCall_48 : decode cX2_netCall 48 = .ok (.aload_n 0, 1) := by decide +kernel
theorem dX2_netCall_49 : decode cX2_netCall 49 = .ok (.getfield 7, 3) := by decide +kernel
theorem dX2_netCall_52 : decode cX2_netCall 52 = .ok (.bipush 6, 2) := by decide +kernel
theorem dX2_netCall_54 : decode cX2_netCall 54 = .ok (.iload_n 3, 1) := by decide +kernel
theorem dX2_netCall_55 : decode cX2_netCall 55 = .ok (.iastore, 1) := by decide +kernel
theorem dX2_netCall_56 : decode cX2_netCall 56 = .ok (.aload_n 0, 1) := by decide +kernel
theorem dX2_netCall_57 : decode cX2_netCall 57 = .ok (.getfield 7, 3) := by decide +kernel
theorem dX2_netCall_60 : decode cX2_netCall 60 = .ok (.iconst 0, 1) := by decide +kernel
theorem dX2_netCall_61 : decode cX2_netCall 61 = .ok (.dup2, 1) := by decide +kernel
theorem dX2_netCall_62 : decode cX2_netCall 62 = .ok (.iaload, 1) := by decide +kernel
theorem dX2_netCall_63 : decode cX2_netCall 63 = .ok (.aload_n 0, 1) := by decide +kernel
theorem dX2_netCall_64 : decode cX2_netCall 64 = .ok (.iload_n 2, 1) := by decide +kernel
theorem dX2_netCall_65 : decode cX2_netCall 65 = .ok (.invokevirtual 82, 3) := by decide +kernel
theorem dX2_netCall_68 : decode cX2_netCall 68 = .ok (.iadd, 1) := by decide +kernel
theorem dX2_netCall_69 : decode cX2_netCall 69 = .ok (.iastore, 1) := by decide +kernel
theorem dX2_netCall_70 : decode cX2_netCall 70 = .ok (.iconst 0, 1) := by decide +kernel
theorem dX2_netCall_71 : decode cX2_netCall 71 = .ok (.istore 4, 2) := by decide +kernel
theorem dX2_netCall_73 : decode cX2_netCall 73 = .ok (.iconst 0, 1) := by decide +kernel
theorem dX2_netCall_74 : decode cX2_netCall 74 = .ok (.istore 5, 2) := by decide +kernel
theorem dX2_netCall_76 : decode cX2_netCall 76 = .ok (.iload 5, 2) := by decide +kernel
theorem dX2_netCall_78 : decode cX2_netCall 78 = .ok (.iconst 5, 1) := by decide +kernel
theorem dX2_netCall_79 : decode cX2_netCall 79 = .ok (.if_icmp .ge 38, 3) := by decide +kernel
theorem dX2_netCall_82 : decode cX2_netCall 82 = .ok (.iload_n 2, 1) := by decide +kernel
theorem dX2_netCall_83 : decode cX2_netCall 83 = .ok (.iload 5, 2) := by decide +kernel
theorem dX2_netCall_85 : decode cX2_netCall 85 = .ok (.invokestatic 70, 3) := by decide +kernel
theorem dX2_netCall_88 : decode cX2_netCall 88 = .ok (.ifCond .eq 23, 3) := by decide +kernel
theorem dX2_netCall_91 : decode cX2_netCall 91 = .ok (.aload_n 0, 1) := by decide +kernel
theorem dX2_netCall_92 : decode cX2_netCall 92 = .ok (.iload_n 1, 1) := by decide +kernel
theorem dX2_netCall_93 : decode cX2_netCall 93 = .ok (.iload 5, 2) := by decide +kernel
theorem dX2_netCall_95 : decode cX2_netCall 95 = .ok (.iload_n 3, 1) := by decide +kernel
theorem dX2_netCall_96 : decode cX2_netCall 96 = .ok (.invokevirtual 114, 3) := by decide +kernel
theorem dX2_netCall_99 : decode cX2_netCall 99 = .ok (.ifCond .eq 12, 3) := by decide +kernel
theorem dX2_netCall_102 : decode cX2_netCall 102 = .ok (.iload 4, 2) := by decide +kernel
theorem dX2_netCall_104 : decode cX2_netCall 104 = .ok (.iconst 1, 1) := by decide +kernel
theorem dX2_netCall_105 : decode cX2_netCall 105 = .ok (.iload 5, 2) := by decide +kernel
theorem dX2_netCall_107 : decode cX2_netCall 107 = .ok (.ishl, 1) := by decide +kernel
theorem dX2_netCall_108 : decode cX2_netCall 108 = .ok (.ior, 1) := by decide +kernel
theorem dX2_netCall_109 : decode cX2_netCall 109 = .ok (.istore 4, 2) := by decide +kernel
theorem dX2_netCall_111 : decode cX2_netCall 111 = .ok (.iinc 5 1, 3) := by decide +kernel
theorem dX2_netCall_114 : decode cX2_netCall 114 = .ok (.goto (-38), 3) := by decide +kernel
theorem dX2_netCall_117 : decode cX2_netCall 117 = .ok (.aload_n 0, 1) := by decide +kernel
theorem dX2_netCall_118 : decode cX2_netCall 118 = .ok (.getfield 7, 3) := by decide +kernel
theorem dX2_netCall_121 : decode cX2_netCall 121 = .ok (.iconst 0, 1) := by decide +kernel
theorem dX2_netCall_122 : decode cX2_netCall 122 = .ok (.dup2, 1) := by decide +kernel
theorem dX2_netCall_123 : decode cX2_netCall 123 = .ok (.iaload, 1) := by decide +kernel
theorem dX2_netCall_124 : decode cX2_netCall 124 = .ok (.iconst 1, 1) := by decide +kernel
theorem dX2_netCall_125 : decode cX2_netCall 125 = .ok (.iadd, 1) := by decide +kernel
theorem dX2_netCall_126 : decode cX2_netCall 126 = .ok (.iastore, 1) := by decide +kernel
theorem dX2_netCall_127 : decode cX2_netCall 127 = .ok (.iconst 0, 1) := by decide +kernel
theorem dX2_netCall_128 : decode cX2_netCall 128 = .ok (.istore 5, 2) := by decide +kernel
theorem dX2_netCall_130 : decode cX2_netCall 130 = .ok (.iconst 0, 1) := by decide +kernel
theorem dX2_netCall_131 : decode cX2_netCall 131 = .ok (.istore 6, 2) := by decide +kernel
theorem dX2_netCall_133 : decode cX2_netCall 133 = .ok (.iload 6, 2) := by decide +kernel
theorem dX2_netCall_135 : decode cX2_netCall 135 = .ok (.iconst 5, 1) := by decide +kernel
theorem dX2_netCall_136 : decode cX2_netCall 136 = .ok (.if_icmp .ge 43, 3) := by decide +kernel
theorem dX2_netCall_139 : decode cX2_netCall 139 = .ok (.iload 4, 2) := by decide +kernel
theorem dX2_netCall_141 : decode cX2_netCall 141 = .ok (.iload 6, 2) := by decide +kernel
theorem dX2_netCall_143 : decode cX2_netCall 143 = .ok (.invokestatic 70, 3) := by decide +kernel
theorem dX2_netCall_146 : decode cX2_netCall 146 = .ok (.ifCond .eq 27, 3) := by decide +kernel
theorem dX2_netCall_149 : decode cX2_netCall 149 = .ok (.aload_n 0, 1) := by decide +kernel
theorem dX2_netCall_150 : decode cX2_netCall 150 = .ok (.iconst 4, 1) := by decide +kernel
theorem dX2_netCall_151 : decode cX2_netCall 151 = .ok (.iload_n 1, 1) := by decide +kernel
theorem dX2_netCall_152 : decode cX2_netCall 152 = .ok (.iload 6, 2) := by decide +kernel
theorem dX2_netCall_154 : decode cX2_netCall 154 = .ok (.sipush 255, 3) := by decide +kernel
theorem dX2_netCall_157 : decode cX2_netCall 157 = .ok (.iload_n 3, 1) := by decide +kernel
theorem dX2_netCall_158 : decode cX2_netCall 158 = .ok (.invokevirtual 88, 3) := by decide +kernel
theorem dX2_netCall_161 : decode cX2_netCall 161 = .ok (.ifCond .eq 12, 3) := by decide +kernel
theorem dX2_netCall_164 : decode cX2_netCall 164 = .ok (.iload 5, 2) := by decide +kernel
theorem dX2_netCall_166 : decode cX2_netCall 166 = .ok (.iconst 1, 1) := by decide +kernel
theorem dX2_netCall_167 : decode cX2_netCall 167 = .ok (.iload 6, 2) := by decide +kernel
theorem dX2_netCall_169 : decode cX2_netCall 169 = .ok (.ishl, 1) := by decide +kernel
theorem dX2_netCall_170 : decode cX2_netCall 170 = .ok (.ior, 1) := by decide +kernel
theorem dX2_netCall_171 : decode cX2_netCall 171 = .ok (.istore 5, 2) := by decide +kernel
theorem dX2_netCall_173 : decode cX2_netCall 173 = .ok (.iinc 6 1, 3) := by decide +kernel
theorem dX2_netCall_176 : decode cX2_netCall 176 = .ok (.goto (-43), 3) := by decide +kernel
theorem dX2_netCall_179 : decode cX2_netCall 179 = .ok (.iload 5, 2) := by decide +kernel
theorem dX2_netCall_181 : decode cX2_netCall 181 = .ok (.ifCond .eq 14, 3) := by decide +kernel
theorem dX2_netCall_184 : decode cX2_netCall 184 = .ok (.aload_n 0, 1) := by decide +kernel
theorem dX2_netCall_185 : decode cX2_netCall 185 = .ok (.iload 5, 2) := by decide +kernel
theorem dX2_netCall_187 : decode cX2_netCall 187 = .ok (.iconst 1, 1) := by decide +kernel
theorem dX2_netCall_188 : decode cX2_netCall 188 = .ok (.iload_n 1, 1) := by decide +kernel
theorem dX2_netCall_189 : decode cX2_netCall 189 = .ok (.ishl, 1) := by decide +kernel
theorem dX2_netCall_190 : decode cX2_netCall 190 = .ok (.ior, 1) := by decide +kernel
theorem dX2_netCall_191 : decode cX2_netCall 191 = .ok (.iload_n 3, 1) := by decide +kernel
theorem dX2_netCall_192 : decode cX2_netCall 192 = .ok (.invokevirtual 101, 3) := by decide +kernel
theorem dX2_netCall_195 : decode cX2_netCall 195 = .ok (.iload 5, 2) := by decide +kernel
theorem dX2_netCall_197 : decode cX2_netCall 197 = .ok (.ireturn, 1) := by decide +kernel
theorem dX2_leave_0 : decode cX2_leave 0 = .ok (.aload_n 0, 1) := by decide +kernel
theorem dX2_leave_1 : decode cX2_leave 1 = .ok (.getfield 7, 3) := by decide +kernel
theorem dX2_leave_4 : decode cX2_leave 4 = .ok (.bipush 14, 2) := by decide +kernel
theorem dX2_leave_6 : decode cX2_leave 6 = .ok (.iload_n 1, 1) := by decide +kernel
theorem dX2_leave_7 : decode cX2_leave 7 = .ok (.iadd, 1) := by decide +kernel
theorem dX2_leave_8 : decode cX2_leave 8 = .ok (.iconst 0, 1) := by decide +kernel
theorem dX2_leave_9 : decode cX2_leave 9 = .ok (.iastore, 1) := by decide +kernel
theorem dX2_leave_10 : decode cX2_leave 10 = .ok (.aload_n 0, 1) := by decide +kernel
theorem dX2_leave_11 : decode cX2_leave 11 = .ok (.getfield 7, 3) := by decide +kernel
theorem dX2_leave_14 : decode cX2_leave 14 = .ok (.bipush 19, 2) := by decide +kernel
theorem dX2_leave_16 : decode cX2_leave 16 = .ok (.iload_n 1, 1) := by decide +kernel
theorem dX2_leave_17 : decode cX2_leave 17 = .ok (.iadd, 1) := by decide +kernel
theorem dX2_leave_18 : decode cX2_leave 18 = .ok (.iconst (-1), 1) := by decide +kernel
theorem dX2_leave_19 : decode cX2_leave 19 = .ok (.iastore, 1) := by decide +kernel
theorem dX2_leave_20 : decode cX2_leave 20 = .ok (.return_, 1) := by decide +kernel
set_option maxRecDepth 20000 in
theorem ggX2_hangUp_X2_isStation : GoodIn wsX2_hangUp wsX2_isStation := goodIn_r _ [5, 6, 7, 4, 8] (by decide +kernel) (by decide +kernel)
set_option maxRecDepth 20000 in
theorem gX2_hangUp_X2_isStation : GoodIn wsX2_hangUp (va_wsS RX2 37 yX2_isStation wsX2_isStation) := goodIn_app (goodIn_of _ (by decide +kernel)) ggX2_hangUp_X2_isStation
set_option maxRecDepth 20000 in
theorem ggX2_hangUp_X2_fail : GoodIn wsX2_hangUp wsX2_fail := goodIn_r _ [12, 13, 34, 35, 36, 37, 38, 39, 40] (by decide +kernel) (by decide +kernel)
set_option maxRecDepth 20000 in
theorem gX2_hangUp_X2_fail : GoodIn wsX2_hangUp (wsV RX2 29 RX2 yX2_fail wsX2_fail) := goodIn_app (goodIn_of _ (by decide +kernel)) ggX2_hangUp_X2_fail
set_option maxRecDepth 20000 in
theorem ggX2_hangUp_X2_isLinked : GoodIn wsX2_hangUp wsX2_isLinked := goodIn_r _ [17, 1, 34, 35, 36, 37, 38, 39, 40] (by decide +kernel) (by decide +kernel)
set_option maxRecDepth 20000 in
theorem gX2_hangUp_X2_isLinked : GoodIn wsX2_hangUp (wsV RX2 79 RX2 yX2_isLinked wsX2_isLinked) := goodIn_app (goodIn_of _ (by decide +kernel)) ggX2_hangUp_X2_isLinked
set_option maxRecDepth 20000 in
theorem ggX2_hangUp_X2_note : GoodIn wsX2_hangUp wsX2_note := goodIn_r _ [21, 22, 23, 1, 34, 35, 36, 37, 38, 39, 40] (by decide +kernel) (by decide +kernel)
set_option maxRecDepth 20000 in
theorem gX2_hangUp_X2_note : GoodIn wsX2_hangUp (wsV RX2 41 RX2 yX2_note wsX2_note) := goodIn_app (goodIn_of _ (by decide +kernel)) ggX2_hangUp_X2_note
set_option maxRecDepth 20000 in
theorem ggX2_hangUp_X2_leave : GoodIn wsX2_hangUp wsX2_leave := goodIn_r _ [27, 1, 34, 35, 36, 37, 38, 39, 40] (by decide +kernel) (by decide +kernel)
set_option maxRecDepth 20000 in
theorem gX2_hangUp_X2_leave : GoodIn wsX2_hangUp (wsV RX2 117 RX2 yX2_leave wsX2_leave) := goodIn_app (goodIn_of _ (by decide +kernel)) ggX2_hangUp_X2_leave
set_option maxRecDepth 20000 in
theorem ggX2_hangUp_X2_count : GoodIn wsX2_hangUp wsX2_count := goodIn_r _ [30] (by decide +kernel) (by decide +kernel)
set_option maxRecDepth 20000 in
theorem gX2_hangUp_X2_count : GoodIn wsX2_hangUp (va_wsS RX2 76 yX2_count wsX2_count) := goodIn_app (goodIn_of _ (by decide +kernel)) ggX2_hangUp_X2_count
set_option maxRecDepth 20000 in
theorem ggX2_hangUp_X2_has : GoodIn wsX2_hangUp wsX2_has := goodIn_r _ [33] (by decide +kernel) (by decide +kernel)
set_option maxRecDepth 20000 in
theorem gX2_hangUp_X2_has : GoodIn wsX2_hangUp (va_wsS RX2 70 yX2_has wsX2_has) := goodIn_app (goodIn_of _ (by decide +kernel)) ggX2_hangUp_X2_has
theorem dX2_hangUp_0 : decode cX2_hangUp 0 = .ok (.iload_n 1, 1) := by decide +kernel
theorem dX2_hangUp_1 : decode cX2_hangUp 1 = .ok (.invokestatic 37, 3) := by decide +kernel
theorem dX2_hangUp_4 : decode cX2_hangUp 4 = .ok (.ifCond .ne 10, 3) := by decide +kernel
theorem dX2_hangUp_7 : decode cX2_hangUp 7 = .ok (.aload_n 0, 1) := by decide +kernel
theorem dX2_hangUp_8 : decode cX2_hangUp 8 = .ok (.bipush (-2), 2) := by decide +kernel
theorem dX2_hangUp_10 : decode cX2_hangUp 10 = .ok (.invokevirtual 29, 3) := by decide +kernel
theorem dX2_hangUp_13 : decode cX2_hangUp 13 = .ok (.ireturn, 1) := by decide +kernel
theorem dX2_hangUp_14 : decode cX2_hangUp 14 = .ok (.aload_n 0, 1) := by decide +kernel
theorem dX2_hangUp_15 : decode cX2_hangUp 15 = .ok (.iload_n 1, 1) := by decide +kernel
theorem dX2_hangUp_16 : decode cX2_hangUp 16 = .ok (.invokevirtual 79, 3) := by decide +kernel
theorem dX2_hangUp_19 : decode cX2_hangUp 19 = .ok (.ifCond .ne 10, 3) := by decide +kernel
theorem dX2_hangUp_22 : decode cX2_hangUp 22 = .ok (.aload_n 0, 1) := by decide +kernel
theorem dX2_hangUp_23 : decode cX2_hangUp 23 = .ok (.bipush (-3), 2) := by decide +kernel
theorem dX2_hangUp_25 : decode cX2_hangUp 25 = .ok (.invokevirtual 29, 3) := by decide +kernel
theorem dX2_hangUp_28 : decode cX2_hangUp 28 = .ok (.ireturn, 1) := by decide +kernel
theorem dX2_hangUp_29 : decode cX2_hangUp 29 = .ok (.aload_n 0, 1) := by decide +kernel
theorem dX2_hangUp_30 : decode cX2_hangUp 30 = .ok (.invokevirtual 41, 3) := by decide +kernel
theorem dX2_hangUp_33 : decode cX2_hangUp 33 = .ok (.aload_n 0, 1) := by decide +kernel
theorem dX2_hangUp_34 : decode cX2_hangUp 34 = .ok (.getfield 7, 3) := by decide +kernel
theorem dX2_hangUp_37 : decode cX2_hangUp 37 = .ok (.bipush 14, 2) := by decide +kernel
theorem dX2_hangUp_39 : decode cX2_hangUp 39 = .ok (.iload_n 1, 1) := by decide +kernel
theorem dX2_hangUp_40 : decode cX2_hangUp 40 = .ok (.iadd, 1) := by decide +kernel
theorem dX2_hangUp_41 : decode cX2_hangUp 41 = .ok (.iaload, 1) := by decide +kernel
theorem dX2_hangUp_42 : decode cX2_hangUp 42 = .ok (.iconst 1, 1) := by decide +kernel
theorem dX2_hangUp_43 : decode cX2_hangUp 43 = .ok (.iload_n 1, 1) := by decide +kernel
theorem dX2_hangUp_44 : decode cX2_hangUp 44 = .ok (.ishl, 1) := by decide +kernel
theorem dX2_hangUp_45 : decode cX2_hangUp 45 = .ok (.iconst (-1), 1) := by decide +kernel
theorem dX2_hangUp_46 : decode cX2_hangUp 46 = .ok (.ixor, 1) := by decide +kernel
theorem dX2_hangUp_47 : decode cX2_hangUp 47 = .ok (.iand, 1) := by decide +kernel
theorem dX2_hangUp_48 : decode cX2_hangUp 48 = .ok (.istore_n 2, 1) := by decide +kernel
theorem dX2_hangUp_49 : decode cX2_hangUp 49 = .ok (.aload_n 0, 1) := by decide +kernel
theorem dX2_hangUp_50 : decode cX2_hangUp 50 = .ok (.iload_n 1, 1) := by decide +kernel
theorem dX2_hangUp_51 : decode cX2_hangUp 51 = .ok (.invokevirtual 117, 3) := by decide +kernel
theorem dX2_hangUp_54 : decode cX2_hangUp 54 = .ok (.iload_n 2, 1) := by decide +kernel
theorem dX2_hangUp_55 : decode cX2_hangUp 55 = .ok (.invokestatic 76, 3) := by decide +kernel
theorem dX2_hangUp_58 : decode cX2_hangUp 58 = .ok (.iconst 2, 1) := by decide +kernel
theorem dX2_hangUp_59 : decode cX2_hangUp 59 = .ok (.if_icmp .ge 7, 3) := by decide +kernel
theorem dX2_hangUp_62 : decode cX2_hangUp 62 = .ok (.iconst 1, 1) := by decide +kernel
theorem dX2_hangUp_63 : decode cX2_hangUp 63 = .ok (.goto 4, 3) := by decide +kernel
theorem dX2_hangUp_66 : decode cX2_hangUp 66 = .ok (.iconst 0, 1) := by decide +kernel
theorem dX2_hangUp_67 : decode cX2_hangUp 67 = .ok (.istore_n 3, 1) := by decide +kernel
theorem dX2_hangUp_68 : decode cX2_hangUp 68 = .ok (.iconst 0, 1) := by decide +kernel
theorem dX2_hangUp_69 : decode cX2_hangUp 69 = .ok (.istore 4, 2) := by decide +kernel
theorem dX2_hangUp_71 : decode cX2_hangUp 71 = .ok (.iload 4, 2) := by decide +kernel
theorem dX2_hangUp_73 : decode cX2_hangUp 73 = .ok (.iconst 5, 1) := by decide +kernel
theorem dX2_hangUp_74 : decode cX2_hangUp 74 = .ok (.if_icmp .ge 39, 3) := by decide +kernel
theorem dX2_hangUp_77 : decode cX2_hangUp 77 = .ok (.iload_n 2, 1) := by decide +kernel
theorem dX2_hangUp_78 : decode cX2_hangUp 78 = .ok (.iload 4, 2) := by decide +kernel
theorem dX2_hangUp_80 : decode cX2_hangUp 80 = .ok (.invokestatic 70, 3) := by decide +kernel
theorem dX2_hangUp_83 : decode cX2_hangUp 83 = .ok (.ifCond .eq 24, 3) := by decide +kernel
theorem dX2_hangUp_86 : decode cX2_hangUp 86 = .ok (.aload_n 0, 1) := by decide +kernel
theorem dX2_hangUp_87 : decode cX2_hangUp 87 = .ok (.getfield 7, 3) := by decide +kernel
theorem dX2_hangUp_90 : decode cX2_hangUp 90 = .ok (.bipush 14, 2) := by decide +kernel
theorem dX2_hangUp_92 : decode cX2_hangUp 92 = .ok (.iload 4, 2) := by decide +kernel
theorem dX2_hangUp_94 : decode cX2_hangUp 94 = .ok (.iadd, 1) := by decide +kernel
theorem dX2_hangUp_95 : decode cX2_hangUp 95 = .ok (.iload_n 2, 1) := by decide +kernel
theorem dX2_hangUp_96 : decode cX2_hangUp 96 = .ok (.iastore, 1) := by decide +kernel
theorem dX2_hangUp_97 : decode cX2_hangUp 97 = .ok (.iload_n 3, 1) := by decide +kernel
theorem dX2_hangUp_98 : decode cX2_hangUp 98 = .ok (.ifCond .eq 9, 3) := by decide +kernel
theorem dX2_hangUp_101 : decode cX2_hangUp 101 = .ok (.aload_n 0, 1) := by decide +kernel
theorem dX2_hangUp_102 : decode cX2_hangUp 102 = .ok (.iload 4, 2) := by decide +kernel
theorem dX2_hangUp_104 : decode cX2_hangUp 104 = .ok (.invokevirtual 117, 3) := by decide +kernel
theorem dX2_hangUp_107 : decode cX2_hangUp 107 = .ok (.iinc 4 1, 3) := by decide +kernel
theorem dX2_hangUp_110 : decode cX2_hangUp 110 = .ok (.goto (-39), 3) := by decide +kernel
theorem dX2_hangUp_113 : decode cX2_hangUp 113 = .ok (.iload_n 3, 1) := by decide +kernel
theorem dX2_hangUp_114 : decode cX2_hangUp 114 = .ok (.ifCond .eq 7, 3) := by decide +kernel
theorem dX2_hangUp_117 : decode cX2_hangUp 117 = .ok (.iconst 0, 1) := by decide +kernel
theorem dX2_hangUp_118 : decode cX2_hangUp 118 = .ok (.goto 4, 3) := by decide +kernel
theorem dX2_hangUp_121 : decode cX2_hangUp 121 = .ok (.iload_n 2, 1) := by decide +kernel
theorem dX2_hangUp_122 : decode cX2_hangUp 122 = .ok (.ireturn, 1) := by decide +kernel
theorem dX2_attempts_0 : decode cX2_attempts 0 = .ok (.aload_n 0, 1) := by decide +kernel
theorem dX2_attempts_1 : decode cX2_attempts 1 = .ok (.getfield 7, 3) := by decide +kernel
theorem dX2_attempts_4 : decode cX2_attempts 4 = .ok (.iconst 5, 1) := by decide +kernel
theorem dX2_attempts_5 : decode cX2_attempts 5 = .ok (.iaload, 1) := by decide +kernel
theorem dX2_attempts_6 : decode cX2_attempts 6 = .ok (.ireturn, 1) := by decide +kernel
theorem dX2_lastChannel_0 : decode cX2_lastChannel 0 = .ok (.aload_n 0, 1) := by decide +kernel
theorem dX2_lastChannel_1 : decode cX2_lastChannel 1 = .ok (.getfield 7, 3) := by decide +kernel
theorem dX2_lastChannel_4 : decode cX2_lastChannel 4 = .ok (.bipush 6, 2) := by decide +kernel
theorem dX2_lastChannel_6 : decode cX2_lastChannel 6 = .ok (.iaload, 1) := by decide +kernel
theorem dX2_lastChannel_7 : decode cX2_lastChannel 7 = .ok (.ireturn, 1) := by decide +kernel
theorem dX2_lastUnanimous_0 : decode cX2_lastUnanimous 0 = .ok (.aload_n 0, 1) := by decide +kernel
theorem dX2_lastUnanimous_1 : decode cX2_lastUnanimous 1 = .ok (.getfield 7, 3) := by decide +kernel
theorem dX2_lastUnanimous_4 : decode cX2_lastUnanimous 4 = .ok (.bipush 7, 2) := by decide +kernel
theorem dX2_lastUnanimous_6 : decode cX2_lastUnanimous 6 = .ok (.iaload, 1) := by decide +kernel
theorem dX2_lastUnanimous_7 : decode cX2_lastUnanimous 7 = .ok (.ireturn, 1) := by decide +kernel
theorem dX2_lastVoted_0 : decode cX2_lastVoted 0 = .ok (.aload_n 0, 1) := by decide +kernel
theorem dX2_lastVoted_1 : decode cX2_lastVoted 1 = .ok (.getfield 7, 3) := by decide +kernel
theorem dX2_lastVoted_4 : decode cX2_lastVoted 4 = .ok (.bipush 8, 2) := by decide +kernel
theorem dX2_lastVoted_6 : decode cX2_lastVoted 6 = .ok (.iaload, 1) := by decide +kernel
theorem dX2_lastVoted_7 : decode cX2_lastVoted 7 = .ok (.ireturn, 1) := by decide +kernel
set_option maxRecDepth 20000 in
theorem ggX2_scan_X2_isStation : GoodIn wsX2_scan wsX2_isStation := goodIn_r _ [5, 6, 7, 4, 8] (by decide +kernel) (by decide +kernel)
set_option maxRecDepth 20000 in
theorem gX2_scan_X2_isStation : GoodIn wsX2_scan (va_wsS RX2 37 yX2_isStation wsX2_isStation) := goodIn_app (goodIn_of _ (by decide +kernel)) ggX2_scan_X2_isStation
set_option maxRecDepth 20000 in
theorem ggX2_scan_X2_fail : GoodIn wsX2_scan wsX2_fail := goodIn_r _ [12, 13, 14, 15, 16, 17, 18, 19, 20] (by decide +kernel) (by decide +kernel)
set_option maxRecDepth 20000 in
theorem gX2_scan_X2_fail : GoodIn wsX2_scan (wsV RX2 29 RX2 yX2_fail wsX2_fail) := goodIn_app (goodIn_of _ (by decide +kernel)) ggX2_scan_X2_fail
theorem dX2_scan_0 : decode cX2_scan 0 = .ok (.iload_n 1, 1) := by decide +kernel
theorem dX2_scan_1 : decode cX2_scan 1 = .ok (.invokestatic 37, 3) := by decide +kernel
theorem dX2_scan_4 : decode cX2_scan 4 = .ok (.ifCond .eq 15, 3) := by decide +kernel
theorem dX2_scan_7 : decode cX2_scan 7 = .ok (.aload_n 0, 1) := by decide +kernel
theorem dX2_scan_8 : decode cX2_scan 8 = .ok (.getfield 7, 3) := by decide +kernel
theorem dX2_scan_11 : decode cX2_scan 11 = .ok (.bipush 9, 2) := by decide +kernel
theorem dX2_scan_13 : decode cX2_scan 13 = .ok (.iload_n 1, 1) := by decide +kernel
theorem dX2_scan_14 : decode cX2_scan 14 = .ok (.iadd, 1) := by decide +kernel
theorem dX2_scan_15 : decode cX2_scan 15 = .ok (.iaload, 1) := by decide +kernel
theorem dX2_scan_16 : decode cX2_scan 16 = .ok (.goto 9, 3) := by decide +kernel
theorem dX2_scan_19 : decode cX2_scan 19 = .ok (.aload_n 0, 1) := by decide +kernel
theorem dX2_scan_20 : decode cX2_scan 20 = .ok (.bipush (-2), 2) := by decide +kernel
theorem dX2_scan_22 : decode cX2_scan 22 = .ok (.invokevirtual 29, 3) := by decide +kernel
theorem dX2_scan_25 : decode cX2_scan 25 = .ok (.ireturn, 1) := by decide +kernel
set_option maxRecDepth 20000 in
theorem ggX2_listening_X2_isStation : GoodIn wsX2_listening wsX2_isStation := goodIn_r _ [5, 6, 7, 4, 8] (by decide +kernel) (by decide +kernel)
set_option maxRecDepth 20000 in
theorem gX2_listening_X2_isStation : GoodIn wsX2_listening (va_wsS RX2 37 yX2_isStation wsX2_isStation) := goodIn_app (goodIn_of _ (by decide +kernel)) ggX2_listening_X2_isStation
set_option maxRecDepth 20000 in
theorem ggX2_listening_X2_fail : GoodIn wsX2_listening wsX2_fail := goodIn_r _ [12, 13, 28, 29, 30, 31, 32, 33, 34] (by decide +kernel) (by decide +kernel)
set_option maxRecDepth 20000 in
theorem gX2_listening_X2_fail : GoodIn wsX2_listening (wsV RX2 29 RX2 yX2_fail wsX2_fail) := goodIn_app (goodIn_of _ (by decide +kernel)) ggX2_listening_X2_fail
set_option maxRecDepth 20000 in
theorem ggX2_listening_X2_isLinked : GoodIn wsX2_listening wsX2_isLinked := goodIn_r _ [17, 1, 28, 29, 30, 31, 32, 33, 34] (by decide +kernel) (by decide +kernel)
set_option maxRecDepth 20000 in
theorem gX2_listening_X2_isLinked : GoodIn wsX2_listening (wsV RX2 79 RX2 yX2_isLinked wsX2_isLinked) := goodIn_app (goodIn_of _ (by decide +kernel)) ggX2_listening_X2_isLinked
set_option maxRecDepth 20000 in
theorem ggX2_listening_X2_listens : GoodIn wsX2_listening wsX2_listens := goodIn_r _ [21, 1, 22, 23, 4, 24, 25, 26, 27, 28, 29, 30, 31, 32, 33, 34] (by decide +kernel) (by decide +kernel)
set_option maxRecDepth 20000 in
theorem gX2_listening_X2_listens : GoodIn wsX2_listening (wsV RX2 85 RX2 yX2_listens wsX2_listens) := goodIn_app (goodIn_of _ (by decide +kernel)) ggX2_listening_X2_listens
theorem dX2_listening_0 : decode cX2_listening 0 = .ok (.iload_n 1, 1) := by decide +kernel
theorem dX2_listening_1 : decode cX2_listening 1 = .ok (.invokestatic 37, 3) := by decide +kernel
theorem dX2_listening_4 : decode cX2_listening 4 = .ok (.ifCond .ne 12, 3) := by decide +kernel
theorem dX2_listening_7 : decode cX2_listening 7 = .ok (.aload_n 0, 1) := by decide +kernel
theorem dX2_listening_8 : decode cX2_listening 8 = .ok (.bipush (-2), 2) := by decide +kernel
theorem dX2_listening_10 : decode cX2_listening 10 = .ok (.invokevirtual 29, 3) := by decide +kernel
theorem dX2_listening_13 : decode cX2_listening 13 = .ok (.goto 26, 3) := by decide +kernel
theorem dX2_listening_16 : decode cX2_listening 16 = .ok (.aload_n 0, 1) := by decide +kernel
theorem dX2_listening_17 : decode cX2_listening 17 = .ok (.iload_n 1, 1) := by decide +kernel
theorem dX2_listening_18 : decode cX2_listening 18 = .ok (.invokevirtual 79, 3) := by decide +kernel
theorem dX2_listening_21 : decode cX2_listening 21 = .ok (.ifCond .eq 7, 3) := by decide +kernel
theorem dX2_listening_24 : decode cX2_listening 24 = .ok (.iconst (-1), 1) := by decide +kernel
theorem dX2_listening_25 : decode cX2_listening 25 = .ok (.goto 14, 3) := by decide +kernel
theorem dX2_listening_28 : decode cX2_listening 28 = .ok (.aload_n 0, 1) := by decide +kernel
theorem dX2_listening_29 : decode cX2_listening 29 = .ok (.iload_n 1, 1) := by decide +kernel
theorem dX2_listening_30 : decode cX2_listening 30 = .ok (.aload_n 0, 1) := by decide +kernel
theorem dX2_listening_31 : decode cX2_listening 31 = .ok (.getfield 7, 3) := by decide +kernel
theorem dX2_listening_34 : decode cX2_listening 34 = .ok (.iconst 0, 1) := by decide +kernel
theorem dX2_listening_35 : decode cX2_listening 35 = .ok (.iaload, 1) := by decide +kernel
theorem dX2_listening_36 : decode cX2_listening 36 = .ok (.invokevirtual 85, 3) := by decide +kernel
theorem dX2_listening_39 : decode cX2_listening 39 = .ok (.ireturn, 1) := by decide +kernel
set_option maxRecDepth 20000 in
theorem ggX2_isThere_X2_arePair : GoodIn wsX2_isThere wsX2_arePair := goodIn_r _ [4, 5, 6, 3, 7, 8, 9, 10] (by decide +kernel) (by decide +kernel)
set_option maxRecDepth 20000 in
theorem gX2_isThere_X2_arePair : GoodIn wsX2_isThere (va_wsS RX2 44 yX2_arePair wsX2_arePair) := goodIn_app (goodIn_of _ (by decide +kernel)) ggX2_isThere_X2_arePair
set_option maxRecDepth 20000 in
theorem ggX2_isThere_X2_isChannel : GoodIn wsX2_isThere wsX2_isChannel := goodIn_r _ [13, 8, 9, 3, 10] (by decide +kernel) (by decide +kernel)
set_option maxRecDepth 20000 in
theorem gX2_isThere_X2_isChannel : GoodIn wsX2_isThere (va_wsS RX2 48 yX2_isChannel wsX2_isChannel) := goodIn_app (goodIn_of _ (by decide +kernel)) ggX2_isThere_X2_isChannel
theorem dX2_isThere_0 : decode cX2_isThere 0 = .ok (.iload_n 0, 1) := by decide +kernel
theorem dX2_isThere_1 : decode cX2_isThere 1 = .ok (.iload_n 1, 1) := by decide +kernel
theorem dX2_isThere_2 : decode cX2_isThere 2 = .ok (.invokestatic 44, 3) := by decide +kernel
theorem dX2_isThere_5 : decode cX2_isThere 5 = .ok (.ifCond .eq 14, 3) := by decide +kernel
theorem dX2_isThere_8 : decode cX2_isThere 8 = .ok (.iload_n 2, 1) := by decide +kernel
theorem dX2_isThere_9 : decode cX2_isThere 9 = .ok (.invokestatic 48, 3) := by decide +kernel
theorem dX2_isThere_12 : decode cX2_isThere 12 = .ok (.ifCond .eq 7, 3) := by decide +kernel
theorem dX2_isThere_15 : decode cX2_isThere 15 = .ok (.iconst 1, 1) := by decide +kernel
theorem dX2_isThere_16 : decode cX2_isThere 16 = .ok (.goto 4, 3) := by decide +kernel
theorem dX2_isThere_19 : decode cX2_isThere 19 = .ok (.iconst 0, 1) := by decide +kernel
theorem dX2_isThere_20 : decode cX2_isThere 20 = .ok (.ireturn, 1) := by decide +kernel
set_option maxRecDepth 20000 in
theorem ggX2_quality_X2_isThere : GoodIn wsX2_quality wsX2_isThere := goodIn_r _ [5, 6, 7, 4, 8, 9, 10, 11, 12, 13, 14, 15, 16, 17] (by decide +kernel) (by decide +kernel)
set_option maxRecDepth 20000 in
theorem gX2_quality_X2_isThere : GoodIn wsX2_quality (va_wsS RX2 121 yX2_isThere wsX2_isThere) := goodIn_app (goodIn_of _ (by decide +kernel)) ggX2_quality_X2_isThere
set_option maxRecDepth 20000 in
theorem ggX2_quality_X2_at : GoodIn wsX2_quality wsX2_at := goodIn_r _ [20] (by decide +kernel) (by decide +kernel)
set_option maxRecDepth 20000 in
theorem gX2_quality_X2_at : GoodIn wsX2_quality (va_wsS RX2 51 yX2_at wsX2_at) := goodIn_app (goodIn_of _ (by decide +kernel)) ggX2_quality_X2_at
set_option maxRecDepth 20000 in
theorem ggX2_quality_X2_fail : GoodIn wsX2_quality wsX2_fail := goodIn_r _ [24, 25, 26, 27, 28, 29, 30, 31, 32] (by decide +kernel) (by decide +kernel)
set_option maxRecDepth 20000 in
theorem gX2_quality_X2_fail : GoodIn wsX2_quality (wsV RX2 29 RX2 yX2_fail wsX2_fail) := goodIn_app (goodIn_of _ (by decide +kernel)) ggX2_quality_X2_fail
theorem dX2_quality_0 : decode cX2_quality 0 = .ok (.iload_n 1, 1) := by decide +kernel
theorem dX2_quality_1 : decode cX2_quality 1 = .ok (.iload_n 2, 1) := by decide +kernel
theorem dX2_quality_2 : decode cX2_quality 2 = .ok (.iload_n 3, 1) := by decide +kernel
theorem dX2_quality_3 : decode cX2_quality 3 = .ok (.invokestatic 121, 3) := by decide +kernel
theorem dX2_quality_6 : decode cX2_quality 6 = .ok (.ifCond .eq 20, 3) := by decide +kernel
theorem dX2_quality_9 : decode cX2_quality 9 = .ok (.aload_n 0, 1) := by decide +kernel
theorem dX2_quality_10 : decode cX2_quality 10 = .ok (.getfield 7, 3) := by decide +kernel
theorem dX2_quality_13 : decode cX2_quality 13 = .ok (.bipush 24, 2) := by decide +kernel
theorem dX2_quality_15 : decode cX2_quality 15 = .ok (.iload_n 1, 1) := by decide +kernel
theorem dX2_quality_16 : decode cX2_quality 16 = .ok (.iload_n 2, 1) := by decide +kernel
theorem dX2_quality_17 : decode cX2_quality 17 = .ok (.iload_n 3, 1) := by decide +kernel
theorem dX2_quality_18 : decode cX2_quality 18 = .ok (.invokestatic 51, 3) := by decide +kernel
theorem dX2_quality_21 : decode cX2_quality 21 = .ok (.iadd, 1) := by decide +kernel
theorem dX2_quality_22 : decode cX2_quality 22 = .ok (.iaload, 1) := by decide +kernel
theorem dX2_quality_23 : decode cX2_quality 23 = .ok (.goto 9, 3) := by decide +kernel
theorem dX2_quality_26 : decode cX2_quality 26 = .ok (.aload_n 0, 1) := by decide +kernel
theorem dX2_quality_27 : decode cX2_quality 27 = .ok (.bipush (-2), 2) := by decide +kernel
theorem dX2_quality_29 : decode cX2_quality 29 = .ok (.invokevirtual 29, 3) := by decide +kernel
theorem dX2_quality_32 : decode cX2_quality 32 = .ok (.ireturn, 1) := by decide +kernel
set_option maxRecDepth 20000 in
theorem ggX2_score_X2_isThere : GoodIn wsX2_score wsX2_isThere := goodIn_r _ [5, 6, 7, 4, 8, 9, 10, 11, 12, 13, 14, 15, 16, 17] (by decide +kernel) (by decide +kernel)
set_option maxRecDepth 20000 in
theorem gX2_score_X2_isThere : GoodIn wsX2_score (va_wsS RX2 121 yX2_isThere wsX2_isThere) := goodIn_app (goodIn_of _ (by decide +kernel)) ggX2_score_X2_isThere
set_option maxRecDepth 20000 in
theorem ggX2_score_X2_at : GoodIn wsX2_score wsX2_at := goodIn_r _ [20] (by decide +kernel) (by decide +kernel)
set_option maxRecDepth 20000 in
theorem gX2_score_X2_at : GoodIn wsX2_score (va_wsS RX2 51 yX2_at wsX2_at) := goodIn_app (goodIn_of _ (by decide +kernel)) ggX2_score_X2_at
set_option maxRecDepth 20000 in
theorem ggX2_score_X2_fail : GoodIn wsX2_score wsX2_fail := goodIn_r _ [24, 25, 26, 27, 28, 29, 30, 31, 32] (by decide +kernel) (by decide +kernel)
set_option maxRecDepth 20000 in
theorem gX2_score_X2_fail : GoodIn wsX2_score (wsV RX2 29 RX2 yX2_fail wsX2_fail) := goodIn_app (goodIn_of _ (by decide +kernel)) ggX2_score_X2_fail
theorem dX2_score_0 : decode cX2_score 0 = .ok (.iload_n 1, 1) := by decide +kernel
theorem dX2_score_1 : decode cX2_score 1 = .ok (.iload_n 2, 1) := by decide +kernel
theorem dX2_score_2 : decode cX2_score 2 = .ok (.iload_n 3, 1) := by decide +kernel
theorem dX2_score_3 : decode cX2_score 3 = .ok (.invokestatic 121, 3) := by decide +kernel
theorem dX2_score_6 : decode cX2_score 6 = .ok (.ifCond .eq 21, 3) := by decide +kernel
theorem dX2_score_9 : decode cX2_score 9 = .ok (.aload_n 0, 1) := by decide +kernel
theorem dX2_score_10 : decode cX2_score 10 = .ok (.getfield 7, 3) := by decide +kernel
theorem dX2_score_13 : decode cX2_score 13 = .ok (.sipush 224, 3) := by decide +kernel
theorem dX2_score_16 : decode cX2_score 16 = .ok (.iload_n 1, 1) := by decide +kernel
theorem dX2_score_17 : decode cX2_score 17 = .ok (.iload_n 2, 1) := by decide +kernel
theorem dX2_score_18 : decode cX2_score 18 = .ok (.iload_n 3, 1) := by decide +kernel
theorem dX2_score_19 : decode cX2_score 19 = .ok (.invokestatic 51, 3) := by decide +kernel
theorem dX2_score_22 : decode cX2_score 22 = .ok (.iadd, 1) := by decide +kernel
theorem dX2_score_23 : decode cX2_score 23 = .ok (.iaload, 1) := by decide +kernel
theorem dX2_score_24 : decode cX2_score 24 = .ok (.goto 9, 3) := by decide +kernel
theorem dX2_score_27 : decode cX2_score 27 = .ok (.aload_n 0, 1) := by decide +kernel
theorem dX2_score_28 : decode cX2_score 28 = .ok (.bipush (-2), 2) := by decide +kernel
theorem dX2_score_30 : decode cX2_score 30 = .ok (.invokevirtual 29, 3) := by decide +kernel
theorem dX2_score_33 : decode cX2_score 33 = .ok (.ireturn, 1) := by decide +kernel
set_option maxRecDepth 20000 in
theorem ggX2_effective_X2_isThere : GoodIn wsX2_effective wsX2_isThere := goodIn_r _ [4, 5, 6, 3, 7, 8, 9, 10, 11, 12, 13, 14, 15, 16] (by decide +kernel) (by decide +kernel)
set_option maxRecDepth 20000 in
theorem gX2_effective_X2_isThere : GoodIn wsX2_effective (va_wsS RX2 121 yX2_isThere wsX2_isThere) := goodIn_app (goodIn_of _ (by decide +kernel)) ggX2_effective_X2_isThere
set_option maxRecDepth 20000 in
theorem ggX2_effective_X2_effectiveOf : GoodIn wsX2_effective wsX2_effectiveOf := goodIn_r _ [20, 21, 22, 23, 3, 24, 30, 31, 32, 33, 34, 35, 36] (by decide +kernel) (by decide +kernel)
set_option maxRecDepth 20000 in
theorem gX2_effective_X2_effectiveOf : GoodIn wsX2_effective (wsV RX2 92 RX2 yX2_effectiveOf wsX2_effectiveOf) := goodIn_app (goodIn_of _ (by decide +kernel)) ggX2_effective_X2_effectiveOf
set_option maxRecDepth 20000 in
theorem ggX2_effective_X2_fail : GoodIn wsX2_effective wsX2_fail := goodIn_r _ [28, 29, 30, 31, 32, 33, 34, 35, 36] (by decide +kernel) (by decide +kernel)
set_option maxRecDepth 20000 in
theorem gX2_effective_X2_fail : GoodIn wsX2_effective (wsV RX2 29 RX2 yX2_fail wsX2_fail) := goodIn_app (goodIn_of _ (by decide +kernel)) ggX2_effective_X2_fail
theorem dX2_effective_0 : decode cX2_effective 0 = .ok (.iload_n 1, 1) := by decide +kernel
theorem dX2_effective_1 : decode cX2_effective 1 = .ok (.iload_n 2, 1) := by decide +kernel
theorem dX2_effective_2 : decode cX2_effective 2 = .ok (.iload_n 3, 1) := by decide +kernel
theorem dX2_effective_3 : decode cX2_effective 3 = .ok (.invokestatic 121, 3) := by decide +kernel
theorem dX2_effective_6 : decode cX2_effective 6 = .ok (.ifCond .eq 13, 3) := by decide +kernel
theorem dX2_effective_9 : decode cX2_effective 9 = .ok (.aload_n 0, 1) := by decide +kernel
theorem dX2_effective_10 : decode cX2_effective 10 = .ok (.iload_n 1, 1) := by decide +kernel
theorem dX2_effective_11 : decode cX2_effective 11 = .ok (.iload_n 2, 1) := by decide +kernel
theorem dX2_effective_12 : decode cX2_effective 12 = .ok (.iload_n 3, 1) := by decide +kernel
theorem dX2_effective_13 : decode cX2_effective 13 = .ok (.invokevirtual 92, 3) := by decide +kernel
theorem dX2_effective_16 : decode cX2_effective 16 = .ok (.goto 9, 3) := by decide +kernel
theorem dX2_effective_19 : decode cX2_effective 19 = .ok (.aload_n 0, 1) := by decide +kernel
theorem dX2_effective_20 : decode cX2_effective 20 = .ok (.bipush (-2), 2) := by decide +kernel
theorem dX2_effective_22 : decode cX2_effective 22 = .ok (.invokevirtual 29, 3) := by decide +kernel
theorem dX2_effective_25 : decode cX2_effective 25 = .ok (.ireturn, 1) := by decide +kernel
set_option maxRecDepth 20000 in
theorem ggX2_bestChannel_X2_arePair : GoodIn wsX2_bestChannel wsX2_arePair := goodIn_r _ [5, 6, 7, 4, 8, 9, 10, 11] (by decide +kernel) (by decide +kernel)
set_option maxRecDepth 20000 in
theorem gX2_bestChannel_X2_arePair : GoodIn wsX2_bestChannel (va_wsS RX2 44 yX2_arePair wsX2_arePair) := goodIn_app (goodIn_of _ (by decide +kernel)) ggX2_bestChannel_X2_arePair
set_option maxRecDepth 20000 in
theorem ggX2_bestChannel_X2_fail : GoodIn wsX2_bestChannel wsX2_fail := goodIn_r _ [15, 16, 33, 34, 35, 36, 37, 38, 39] (by decide +kernel) (by decide +kernel)
set_option maxRecDepth 20000 in
theorem gX2_bestChannel_X2_fail : GoodIn wsX2_bestChannel (wsV RX2 29 RX2 yX2_fail wsX2_fail) := goodIn_app (goodIn_of _ (by decide +kernel)) ggX2_bestChannel_X2_fail
set_option maxRecDepth 20000 in
theorem ggX2_bestChannel_X2_sortChannels : GoodIn wsX2_bestChannel wsX2_sortChannels := goodIn_r _ [20, 21, 22, 1, 23, 24, 4, 25, 26, 27, 28, 29, 30, 31, 32, 33, 34, 35, 36, 37, 38, 39] (by decide +kernel) (by decide +kernel)
set_option maxRecDepth 20000 in
theorem gX2_bestChannel_X2_sortChannels : GoodIn wsX2_bestChannel (wsV RX2 95 RX2 yX2_sortChannels wsX2_sortChannels) := goodIn_app (goodIn_of _ (by decide +kernel)) ggX2_bestChannel_X2_sortChannels
theorem dX2_bestChannel_0 : decode cX2_bestChannel 0 = .ok (.iload_n 1, 1) := by decide +kernel
theorem dX2_bestChannel_1 : decode cX2_bestChannel 1 = .ok (.iload_n 2, 1) := by decide +kernel
theorem dX2_bestChannel_2 : decode cX2_bestChannel 2 = .ok (.invokestatic 44, 3) := by decide +kernel
theorem dX2_bestChannel_5 : decode cX2_bestChannel 5 = .ok (.ifCond .ne 10, 3) := by decide +kernel
theorem dX2_bestChannel_8 : decode cX2_bestChannel 8 = .ok (.aload_n 0, 1) := by decide +kernel
theorem dX2_bestChannel_9 : decode cX2_bestChannel 9 = .ok (.bipush (-2), 2) := by decide +kernel
theorem dX2_bestChannel_11 : decode cX2_bestChannel 11 = .ok (.invokevirtual 29, 3) := by decide +kernel
theorem dX2_bestChannel_14 : decode cX2_bestChannel 14 = .ok (.ireturn, 1) := by decide +kernel
theorem dX2_bestChannel_15 : decode cX2_bestChannel 15 = .ok (.aload_n 0, 1) := by decide +kernel
theorem dX2_bestChannel_16 : decode cX2_bestChannel 16 = .ok (.iload_n 1, 1) := by decide +kernel
theorem dX2_bestChannel_17 : decode cX2_bestChannel 17 = .ok (.iload_n 2, 1) := by decide +kernel
theorem dX2_bestChannel_18 : decode cX2_bestChannel 18 = .ok (.invokevirtual 95, 3) := by decide +kernel
theorem dX2_bestChannel_21 : decode cX2_bestChannel 21 = .ok (.istore_n 3, 1) := by decide +kernel
theorem dX2_bestChannel_22 : decode cX2_bestChannel 22 = .ok (.iload_n 3, 1) := by decide +kernel
theorem dX2_bestChannel_23 : decode cX2_bestChannel 23 = .ok (.ifCond .le 12, 3) := by decide +kernel
theorem dX2_bestChannel_26 : decode cX2_bestChannel 26 = .ok (.aload_n 0, 1) := by decide +kernel
theorem dX2_bestChannel_27 : decode cX2_bestChannel 27 = .ok (.getfield 19, 3) := by decide +kernel
theorem dX2_bestChannel_30 : decode cX2_bestChannel 30 = .ok (.iconst 0, 1) := by decide +kernel
theorem dX2_bestChannel_31 : decode cX2_bestChannel 31 = .ok (.iaload, 1) := by decide +kernel
theorem dX2_bestChannel_32 : decode cX2_bestChannel 32 = .ok (.goto 4, 3) := by decide +kernel
theorem dX2_bestChannel_35 : decode cX2_bestChannel 35 = .ok (.iconst (-1), 1) := by decide +kernel
theorem dX2_bestChannel_36 : decode cX2_bestChannel 36 = .ok (.ireturn, 1) := by decide +kernel
set_option maxRecDepth 20000 in
theorem ggX2_netChannel_X2_isNet : GoodIn wsX2_netChannel wsX2_isNet := goodIn_r _ [4, 5, 6, 3, 7, 8, 9, 10, 11, 12, 13] (by decide +kernel) (by decide +kernel)
set_option maxRecDepth 20000 in
theorem gX2_netChannel_X2_isNet : GoodIn wsX2_netChannel (va_wsS RX2 108 yX2_isNet wsX2_isNet) := goodIn_app (goodIn_of _ (by decide +kernel)) ggX2_netChannel_X2_isNet
set_option maxRecDepth 20000 in
theorem ggX2_netChannel_X2_netChannelOf : GoodIn wsX2_netChannel wsX2_netChannelOf := goodIn_r _ [17, 18, 11, 12, 3, 13, 19, 20, 21, 22, 23, 24, 25, 26, 27, 28, 29, 35, 36, 37, 38, 39, 40, 41] (by decide +kernel) (by decide +kernel)
set_option maxRecDepth 20000 in
theorem gX2_netChannel_X2_netChannelOf : GoodIn wsX2_netChannel (wsV RX2 111 RX2 yX2_netChannelOf wsX2_netChannelOf) := goodIn_app (goodIn_of _ (by decide +kernel)) ggX2_netChannel_X2_netChannelOf
set_option maxRecDepth 20000 in
theorem ggX2_netChannel_X2_fail : GoodIn wsX2_netChannel wsX2_fail := goodIn_r _ [33, 34, 35, 36, 37, 38, 39, 40, 41] (by decide +kernel) (by decide +kernel)
set_option maxRecDepth 20000 in
theorem gX2_netChannel_X2_fail : GoodIn wsX2_netChannel (wsV RX2 29 RX2 yX2_fail wsX2_fail) := goodIn_app (goodIn_of _ (by decide +kernel)) ggX2_netChannel_X2_fail
theorem dX2_netChannel_0 : decode cX2_netChannel 0 = .ok (.iload_n 1, 1) := by decide +kernel
theorem dX2_netChannel_1 : decode cX2_netChannel 1 = .ok (.iload_n 2, 1) := by decide +kernel
theorem dX2_netChannel_2 : decode cX2_netChannel 2 = .ok (.invokestatic 108, 3) := by decide +kernel
theorem dX2_netChannel_5 : decode cX2_netChannel 5 = .ok (.ifCond .eq 12, 3) := by decide +kernel
theorem dX2_netChannel_8 : decode cX2_netChannel 8 = .ok (.aload_n 0, 1) := by decide +kernel
theorem dX2_netChannel_9 : decode cX2_netChannel 9 = .ok (.iload_n 1, 1) := by decide +kernel
theorem dX2_netChannel_10 : decode cX2_netChannel 10 = .ok (.iload_n 2, 1) := by decide +kernel
theorem dX2_netChannel_11 : decode cX2_netChannel 11 = .ok (.invokevirtual 111, 3) := by decide +kernel
theorem dX2_netChannel_14 : decode cX2_netChannel 14 = .ok (.goto 9, 3) := by decide +kernel
theorem dX2_netChannel_17 : decode cX2_netChannel 17 = .ok (.aload_n 0, 1) := by decide +kernel
theorem dX2_netChannel_18 : decode cX2_netChannel 18 = .ok (.bipush (-2), 2) := by decide +kernel
theorem dX2_netChannel_20 : decode cX2_netChannel 20 = .ok (.invokevirtual 29, 3) := by decide +kernel
theorem dX2_netChannel_23 : decode cX2_netChannel 23 = .ok (.ireturn, 1) := by decide +kernel
set_option maxRecDepth 20000 in
theorem ggX2_link_X2_isStation : GoodIn wsX2_link wsX2_isStation := goodIn_r _ [5, 6, 7, 4, 8] (by decide +kernel) (by decide +kernel)
set_option maxRecDepth 20000 in
theorem gX2_link_X2_isStation : GoodIn wsX2_link (va_wsS RX2 37 yX2_isStation wsX2_isStation) := goodIn_app (goodIn_of _ (by decide +kernel)) ggX2_link_X2_isStation
set_option maxRecDepth 20000 in
theorem ggX2_link_X2_fail : GoodIn wsX2_link wsX2_fail := goodIn_r _ [12, 13, 14, 15, 16, 17, 18, 19, 20] (by decide +kernel) (by decide +kernel)
set_option maxRecDepth 20000 in
theorem gX2_link_X2_fail : GoodIn wsX2_link (wsV RX2 29 RX2 yX2_fail wsX2_fail) := goodIn_app (goodIn_of _ (by decide +kernel)) ggX2_link_X2_fail
theorem dX2_link_0 : decode cX2_link 0 = .ok (.iload_n 1, 1) := by decide +kernel
theorem dX2_link_1 : decode cX2_link 1 = .ok (.invokestatic 37, 3) := by decide +kernel
theorem dX2_link_4 : decode cX2_link 4 = .ok (.ifCond .eq 15, 3) := by decide +kernel
theorem dX2_link_7 : decode cX2_link 7 = .ok (.aload_n 0, 1) := by decide +kernel
theorem dX2_link_8 : decode cX2_link 8 = .ok (.getfield 7, 3) := by decide +kernel
theorem dX2_link_11 : decode cX2_link 11 = .ok (.bipush 14, 2) := by decide +kernel
theorem dX2_link_13 : decode cX2_link 13 = .ok (.iload_n 1, 1) := by decide +kernel
theorem dX2_link_14 : decode cX2_link 14 = .ok (.iadd, 1) := by decide +kernel
theorem dX2_link_15 : decode cX2_link 15 = .ok (.iaload, 1) := by decide +kernel
theorem dX2_link_16 : decode cX2_link 16 = .ok (.goto 9, 3) := by decide +kernel
theorem dX2_link_19 : decode cX2_link 19 = .ok (.aload_n 0, 1) := by decide +kernel
theorem dX2_link_20 : decode cX2_link 20 = .ok (.bipush (-2), 2) := by decide +kernel
theorem dX2_link_22 : decode cX2_link 22 = .ok (.invokevirtual 29, 3) := by decide +kernel
theorem dX2_link_25 : decode cX2_link 25 = .ok (.ireturn, 1) := by decide +kernel
set_option maxRecDepth 20000 in
theorem ggX2_linkChannel_X2_isStation : GoodIn wsX2_linkChannel wsX2_isStation := goodIn_r _ [5, 6, 7, 4, 8] (by decide +kernel) (by decide +kernel)
set_option maxRecDepth 20000 in
theorem gX2_linkChannel_X2_isStation : GoodIn wsX2_linkChannel (va_wsS RX2 37 yX2_isStation wsX2_isStation) := goodIn_app (goodIn_of _ (by decide +kernel)) ggX2_linkChannel_X2_isStation
set_option maxRecDepth 20000 in
theorem ggX2_linkChannel_X2_fail : GoodIn wsX2_linkChannel wsX2_fail := goodIn_r _ [12, 13, 14, 15, 16, 17, 18, 19, 20] (by decide +kernel) (by decide +kernel)
set_option maxRecDepth 20000 in
theorem gX2_linkChannel_X2_fail : GoodIn wsX2_linkChannel (wsV RX2 29 RX2 yX2_fail wsX2_fail) := goodIn_app (goodIn_of _ (by decide +kernel)) ggX2_linkChannel_X2_fail
theorem dX2_linkChannel_0 : decode cX2_linkChannel 0 = .ok (.iload_n 1, 1) := by decide +kernel
theorem dX2_linkChannel_1 : decode cX2_linkChannel 1 = .ok (.invokestatic 37, 3) := by decide +kernel
theorem dX2_linkChannel_4 : decode cX2_linkChannel 4 = .ok (.ifCond .eq 15, 3) := by decide +kernel
theorem dX2_linkChannel_7 : decode cX2_linkChannel 7 = .ok (.aload_n 0, 1) := by decide +kernel
theorem dX2_linkChannel_8 : decode cX2_linkChannel 8 = .ok (.getfield 7, 3) := by decide +kernel
theorem dX2_linkChannel_11 : decode cX2_linkChannel 11 = .ok (.bipush 19, 2) := by decide +kernel
theorem dX2_linkChannel_13 : decode cX2_linkChannel 13 = .ok (.iload_n 1, 1) := by decide +kernel
theorem dX2_linkChannel_14 : decode cX2_linkChannel 14 = .ok (.iadd, 1) := by decide +kernel
theorem dX2_linkChannel_15 : decode cX2_linkChannel 15 = .ok (.iaload, 1) := by decide +kernel
theorem dX2_linkChannel_16 : decode cX2_linkChannel 16 = .ok (.goto 9, 3) := by decide +kernel
theorem dX2_linkChannel_19 : decode cX2_linkChannel 19 = .ok (.aload_n 0, 1) := by decide +kernel
theorem dX2_linkChannel_20 : decode cX2_linkChannel 20 = .ok (.bipush (-2), 2) := by decide +kernel
theorem dX2_linkChannel_22 : decode cX2_linkChannel 22 = .ok (.invokevirtual 29, 3) := by decide +kernel
theorem dX2_linkChannel_25 : decode cX2_linkChannel 25 = .ok (.ireturn, 1) := by decide +kernel
theorem dX2_time_0 : decode cX2_time 0 = .ok (.aload_n 0, 1) := by decide +kernel
theorem dX2_time_1 : decode cX2_time 1 = .ok (.getfield 7, 3) := by decide +kernel
theorem dX2_time_4 : decode cX2_time 4 = .ok (.iconst 0, 1) := by decide +kernel
theorem dX2_time_5 : decode cX2_time 5 = .ok (.iaload, 1) := by decide +kernel
theorem dX2_time_6 : decode cX2_time 6 = .ok (.ireturn, 1) := by decide +kernel
theorem dX2_transmitted_0 : decode cX2_transmitted 0 = .ok (.aload_n 0, 1) := by decide +kernel
theorem dX2_transmitted_1 : decode cX2_transmitted 1 = .ok (.getfield 7, 3) := by decide +kernel
theorem dX2_transmitted_4 : decode cX2_transmitted 4 = .ok (.iconst 3, 1) := by decide +kernel
theorem dX2_transmitted_5 : decode cX2_transmitted 5 = .ok (.iaload, 1) := by decide +kernel
theorem dX2_transmitted_6 : decode cX2_transmitted 6 = .ok (.ireturn, 1) := by decide +kernel
theorem dX2_decoded_0 : decode cX2_decoded 0 = .ok (.aload_n 0, 1) := by decide +kernel
theorem dX2_decoded_1 : decode cX2_decoded 1 = .ok (.getfield 7, 3) := by decide +kernel
theorem dX2_decoded_4 : decode cX2_decoded 4 = .ok (.iconst 4, 1) := by decide +kernel
theorem dX2_decoded_5 : decode cX2_decoded 5 = .ok (.iaload, 1) := by decide +kernel
theorem dX2_decoded_6 : decode cX2_decoded 6 = .ok (.ireturn, 1) := by decide +kernel
set_option maxRecDepth 20000 in
theorem ggX2_isWord_X2_in : GoodIn wsX2_isWord wsX2_in := goodIn_r _ [5] (by decide +kernel) (by decide +kernel)
set_option maxRecDepth 20000 in
theorem gX2_isWord_X2_in : GoodIn wsX2_isWord (va_wsS RX2 33 yX2_in wsX2_in) := goodIn_app (goodIn_of _ (by decide +kernel)) ggX2_isWord_X2_in
theorem dX2_isWord_0 : decode cX2_isWord 0 = .ok (.iload_n 0, 1) := by decide +kernel
theorem dX2_isWord_1 : decode cX2_isWord 1 = .ok (.iconst 0, 1) := by decide +kernel
theorem dX2_isWord_2 : decode cX2_isWord 2 = .ok (.ldc 124, 2) := by decide +kernel
theorem dX2_isWord_4 : decode cX2_isWord 4 = .ok (.invokestatic 33, 3) := by decide +kernel
theorem dX2_isWord_7 : decode cX2_isWord 7 = .ok (.ireturn, 1) := by decide +kernel
set_option maxRecDepth 20000 in
theorem ggX2_vote_X2_isWord : GoodIn wsX2_vote wsX2_isWord := goodIn_r _ [4, 5, 6, 7, 3, 8] (by decide +kernel) (by decide +kernel)
set_option maxRecDepth 20000 in
theorem gX2_vote_X2_isWord : GoodIn wsX2_vote (va_wsS RX2 125 yX2_isWord wsX2_isWord) := goodIn_app (goodIn_of _ (by decide +kernel)) ggX2_vote_X2_isWord
set_option maxRecDepth 20000 in
theorem ggX2_vote_X2_majority : GoodIn wsX2_vote wsX2_majority := goodIn_r _ [11] (by decide +kernel) (by decide +kernel)
set_option maxRecDepth 20000 in
theorem gX2_vote_X2_majority : GoodIn wsX2_vote (va_wsS RX2 73 yX2_majority wsX2_majority) := goodIn_app (goodIn_of _ (by decide +kernel)) ggX2_vote_X2_majority
set_option maxRecDepth 20000 in
theorem ggX2_vote_X2_fail : GoodIn wsX2_vote wsX2_fail := goodIn_r _ [15, 16, 17, 18, 19, 20, 21, 22, 23] (by decide +kernel) (by decide +kernel)
set_option maxRecDepth 20000 in
theorem gX2_vote_X2_fail : GoodIn wsX2_vote (wsV RX2 29 RX2 yX2_fail wsX2_fail) := goodIn_app (goodIn_of _ (by decide +kernel)) ggX2_vote_X2_fail
theorem dX2_vote_0 : decode cX2_vote 0 = .ok (.iload_n 1, 1) := by decide +kernel
theorem dX2_vote_1 : decode cX2_vote 1 = .ok (.invokestatic 125, 3) := by decide +kernel
theorem dX2_vote_4 : decode cX2_vote 4 = .ok (.ifCond .eq 26, 3) := by decide +kernel
theorem dX2_vote_7 : decode cX2_vote 7 = .ok (.iload_n 2, 1) := by decide +kernel
theorem dX2_vote_8 : decode cX2_vote 8 = .ok (.invokestatic 125, 3) := by decide +kernel
theorem dX2_vote_11 : decode cX2_vote 11 = .ok (.ifCond .eq 19, 3) := by decide +kernel
theorem dX2_vote_14 : decode cX2_vote 14 = .ok (.iload_n 3, 1) := by decide +kernel
theorem dX2_vote_15 : decode cX2_vote 15 = .ok (.invokestatic 125, 3) := by decide +kernel
theorem dX2_vote_18 : decode cX2_vote 18 = .ok (.ifCond .eq 12, 3) := by decide +kernel
theorem dX2_vote_21 : decode cX2_vote 21 = .ok (.iload_n 1, 1) := by decide +kernel
theorem dX2_vote_22 : decode cX2_vote 22 = .ok (.iload_n 2, 1) := by decide +kernel
theorem dX2_vote_23 : decode cX2_vote 23 = .ok (.iload_n 3, 1) := by decide +kernel
theorem dX2_vote_24 : decode cX2_vote 24 = .ok (.invokestatic 73, 3) := by decide +kernel
theorem dX2_vote_27 : decode cX2_vote 27 = .ok (.goto 9, 3) := by decide +kernel
theorem dX2_vote_30 : decode cX2_vote 30 = .ok (.aload_n 0, 1) := by decide +kernel
theorem dX2_vote_31 : decode cX2_vote 31 = .ok (.bipush (-2), 2) := by decide +kernel
theorem dX2_vote_33 : decode cX2_vote 33 = .ok (.invokevirtual 29, 3) := by decide +kernel
theorem dX2_vote_36 : decode cX2_vote 36 = .ok (.ireturn, 1) := by decide +kernel
set_option maxRecDepth 20000 in
theorem ggX2_errorCount_X2_in : GoodIn wsX2_errorCount wsX2_in := goodIn_r _ [5] (by decide +kernel) (by decide +kernel)
set_option maxRecDepth 20000 in
theorem gX2_errorCount_X2_in : GoodIn wsX2_errorCount (va_wsS RX2 33 yX2_in wsX2_in) := goodIn_app (goodIn_of _ (by decide +kernel)) ggX2_errorCount_X2_in
set_option maxRecDepth 20000 in
theorem ggX2_errorCount_X2_fail : GoodIn wsX2_errorCount wsX2_fail := goodIn_r _ [9, 1, 10, 11, 12, 13, 14, 15, 16] (by decide +kernel) (by decide +kernel)
set_option maxRecDepth 20000 in
theorem gX2_errorCount_X2_fail : GoodIn wsX2_errorCount (wsV RX2 29 RX2 yX2_fail wsX2_fail) := goodIn_app (goodIn_of _ (by decide +kernel)) ggX2_errorCount_X2_fail
theorem dX2_errorCount_0 : decode cX2_errorCount 0 = .ok (.iload_n 1, 1) := by decide +kernel
theorem dX2_errorCount_1 : decode cX2_errorCount 1 = .ok (.iconst 0, 1) := by decide +kernel
theorem dX2_errorCount_2 : decode cX2_errorCount 2 = .ok (.iconst 1, 1) := by decide +kernel
theorem dX2_errorCount_3 : decode cX2_errorCount 3 = .ok (.invokestatic 33, 3) := by decide +kernel
theorem dX2_errorCount_6 : decode cX2_errorCount 6 = .ok (.ifCond .eq 12, 3) := by decide +kernel
theorem dX2_errorCount_9 : decode cX2_errorCount 9 = .ok (.aload_n 0, 1) := by decide +kernel
theorem dX2_errorCount_10 : decode cX2_errorCount 10 = .ok (.getfield 16, 3) := by decide +kernel
theorem dX2_errorCount_13 : decode cX2_errorCount 13 = .ok (.iload_n 1, 1) := by decide +kernel
theorem dX2_errorCount_14 : decode cX2_errorCount 14 = .ok (.iaload, 1) := by decide +kernel
theorem dX2_errorCount_15 : decode cX2_errorCount 15 = .ok (.goto 9, 3) := by decide +kernel
theorem dX2_errorCount_18 : decode cX2_errorCount 18 = .ok (.aload_n 0, 1) := by decide +kernel
theorem dX2_errorCount_19 : decode cX2_errorCount 19 = .ok (.bipush (-2), 2) := by decide +kernel
theorem dX2_errorCount_21 : decode cX2_errorCount 21 = .ok (.invokevirtual 29, 3) := by decide +kernel
theorem dX2_errorCount_24 : decode cX2_errorCount 24 = .ok (.ireturn, 1) := by decide +kernel
theorem dX2_add_0 : decode cX2_add 0 = .ok (.aload_n 0, 1) := by decide +kernel
theorem dX2_add_1 : decode cX2_add 1 = .ok (.ldc2_w 128, 3) := by decide +kernel
theorem dX2_add_4 : decode cX2_add 4 = .ok (.aload_n 0, 1) := by decide +kernel
theorem dX2_add_5 : decode cX2_add 5 = .ok (.getfield 130, 3) := by decide +kernel
theorem dX2_add_8 : decode cX2_add 8 = .ok (.lmul, 1) := by decide +kernel
theorem dX2_add_9 : decode cX2_add 9 = .ok (.iload_n 1, 1) := by decide +kernel
theorem dX2_add_10 : decode cX2_add 10 = .ok (.i2l, 1) := by decide +kernel
theorem dX2_add_11 : decode cX2_add 11 = .ok (.ladd, 1) := by decide +kernel
theorem dX2_add_12 : decode cX2_add 12 = .ok (.putfield 130, 3) := by decide +kernel
theorem dX2_add_15 : decode cX2_add 15 = .ok (.return_, 1) := by decide +kernel
set_option maxRecDepth 20000 in
theorem ggX2_digest_X2_add : GoodIn wsX2_digest wsX2_add := goodIn_r _ [10, 11, 2, 19, 20, 21, 22, 23, 24, 25] (by decide +kernel) (by decide +kernel)
set_option maxRecDepth 20000 in
theorem gX2_digest_X2_add : GoodIn wsX2_digest (wsV RX2 136 RX2 yX2_add wsX2_add) := goodIn_app (goodIn_of _ (by decide +kernel)) ggX2_digest_X2_add
set_option maxRecDepth 20000 in
theorem ggX2_digest_X2_effectiveOf : GoodIn wsX2_digest wsX2_effectiveOf := goodIn_r _ [15, 5, 16, 17, 9, 18, 19, 20, 21, 22, 23, 24, 25] (by decide +kernel) (by decide +kernel)
set_option maxRecDepth 20000 in
theorem gX2_digest_X2_effectiveOf : GoodIn wsX2_digest (wsV RX2 92 RX2 yX2_effectiveOf wsX2_effectiveOf) := goodIn_app (goodIn_of _ (by decide +kernel)) ggX2_digest_X2_effectiveOf
theorem dX2_digest_0 : decode cX2_digest 0 = .ok (.aload_n 0, 1) := by decide +kernel
theorem dX2_digest_1 : decode cX2_digest 1 = .ok (.ldc2_w 134, 3) := by decide +kernel
theorem dX2_digest_4 : decode cX2_digest 4 = .ok (.putfield 130, 3) := by decide +kernel
theorem dX2_digest_7 : decode cX2_digest 7 = .ok (.aload_n 0, 1) := by decide +kernel
theorem dX2_digest_8 : decode cX2_digest 8 = .ok (.aload_n 0, 1) := by decide +kernel
theorem dX2_digest_9 : decode cX2_digest 9 = .ok (.getfield 16, 3) := by decide +kernel
theorem dX2_digest_12 : decode cX2_digest 12 = .ok (.iconst 0, 1) := by decide +kernel
theorem dX2_digest_13 : decode cX2_digest 13 = .ok (.iaload, 1) := by decide +kernel
theorem dX2_digest_14 : decode cX2_digest 14 = .ok (.invokevirtual 136, 3) := by decide +kernel
theorem dX2_digest_17 : decode cX2_digest 17 = .ok (.aload_n 0, 1) := by decide +kernel
theorem dX2_digest_18 : decode cX2_digest 18 = .ok (.aload_n 0, 1) := by decide +kernel
theorem dX2_digest_19 : decode cX2_digest 19 = .ok (.getfield 16, 3) := by decide +kernel
theorem dX2_digest_22 : decode cX2_digest 22 = .ok (.iconst 1, 1) := by decide +kernel
theorem dX2_digest_23 : decode cX2_digest 23 = .ok (.iaload, 1) := by decide +kernel
theorem dX2_digest_24 : decode cX2_digest 24 = .ok (.invokevirtual 136, 3) := by decide +kernel
theorem dX2_digest_27 : decode cX2_digest 27 = .ok (.aload_n 0, 1) := by decide +kernel
theorem dX2_digest_28 : decode cX2_digest 28 = .ok (.aload_n 0, 1) := by decide +kernel
theorem dX2_digest_29 : decode cX2_digest 29 = .ok (.getfield 25, 3) := by decide +kernel
theorem dX2_digest_32 : decode cX2_digest 32 = .ok (.invokevirtual 136, 3) := by decide +kernel
theorem dX2_digest_35 : decode cX2_digest 35 = .ok (.aload_n 0, 1) := by decide +kernel
theorem dX2_digest_36 : decode cX2_digest 36 = .ok (.aload_n 0, 1) := by decide +kernel
theorem dX2_digest_37 : decode cX2_digest 37 = .ok (.getfield 7, 3) := by decide +kernel
theorem dX2_digest_40 : decode cX2_digest 40 = .ok (.iconst 0, 1) := by decide +kernel
theorem dX2_digest_41 : decode cX2_digest 41 = .ok (.iaload, 1) := by decide +kernel
theorem dX2_digest_42 : decode cX2_digest 42 = .ok (.invokevirtual 136, 3) := by decide +kernel
theorem dX2_digest_45 : decode cX2_digest 45 = .ok (.aload_n 0, 1) := by decide +kernel
theorem dX2_digest_46 : decode cX2_digest 46 = .ok (.aload_n 0, 1) := by decide +kernel
theorem dX2_digest_47 : decode cX2_digest 47 = .ok (.getfield 7, 3) := by decide +kernel
theorem dX2_digest_50 : decode cX2_digest 50 = .ok (.iconst 2, 1) := by decide +kernel
theorem dX2_digest_51 : decode cX2_digest 51 = .ok (.iaload, 1) := by decide +kernel
theorem dX2_digest_52 : decode cX2_digest 52 = .ok (.invokevirtual 136, 3) := by decide +kernel
theorem dX2_digest_55 : decode cX2_digest 55 = .ok (.aload_n 0, 1) := by decide +kernel
theorem dX2_digest_56 : decode cX2_digest 56 = .ok (.aload_n 0, 1) := by decide +kernel
theorem dX2_digest_57 : decode cX2_digest 57 = .ok (.getfield 7, 3) := by decide +kernel
theorem dX2_digest_60 : decode cX2_digest 60 = .ok (.iconst 1, 1) := by decide +kernel
theorem dX2_digest_61 : decode cX2_digest 61 = .ok (.iaload, 1) := by decide +kernel
theorem dX2_digest_62 : decode cX2_digest 62 = .ok (.invokevirtual 136, 3) := by decide +kernel
theorem dX2_digest_65 : decode cX2_digest 65 = .ok (.iconst 3, 1) := by decide +kernel
theorem dX2_digest_66 : decode cX2_digest 66 = .ok (.istore_n 1, 1) := by decide +kernel
theorem dX2_digest_67 : decode cX2_digest 67 = .ok (.iload_n 1, 1) := by decide +kernel
theorem dX2_digest_68 : decode cX2_digest 68 = .ok (.bipush 8, 2) := by decide +kernel
theorem dX2_digest_70 : decode cX2_digest 70 = .ok (.if_icmp .gt 19, 3) := by decide +kernel
theorem dX2_digest_73 : decode cX2_digest 73 = .ok (.aload_n 0, 1) := by decide +kernel
theorem dX2_digest_74 : decode cX2_digest 74 = .ok (.aload_n 0, 1) := by decide +kernel
theorem dX2_digest_75 : decode cX2_digest 75 = .ok (.getfield 7, 3) := by decide +kernel
theorem dX2_digest_78 : decode cX2_digest 78 = .ok (.iload_n 1, 1) := by decide +kernel
theorem dX2_digest_79 : decode cX2_digest 79 = .ok (.iaload, 1) := by decide +kernel
theorem dX2_digest_80 : decode cX2_digest 80 = .ok (.invokevirtual 136, 3) := by decide +kernel
theorem dX2_digest_83 : decode cX2_digest 83 = .ok (.iinc 1 1, 3) := by decide +kernel
theorem dX2_digest_86 : decode cX2_digest 86 = .ok (.goto (-19), 3) := by decide +kernel
theorem dX2_digest_89 : decode cX2_digest 89 = .ok (.iconst 0, 1) := by decide +kernel
theorem dX2_digest_90 : decode cX2_digest 90 = .ok (.istore_n 1, 1) := by decide +kernel
theorem dX2_digest_91 : decode cX2_digest 91 = .ok (.iload_n 1, 1) := by decide +kernel
theorem dX2_digest_92 : decode cX2_digest 92 = .ok (.iconst 5, 1) := by decide +kernel
theorem dX2_digest_93 : decode cX2_digest 93 = .ok (.if_icmp .ge 48, 3) := by decide +kernel
theorem dX2_digest_96 : decode cX2_digest 96 = .ok (.aload_n 0, 1) := by decide +kernel
theorem dX2_digest_97 : decode cX2_digest 97 = .ok (.aload_n 0, 1) := by decide +kernel
theorem dX2_digest_98 : decode cX2_digest 98 = .ok (.getfield 7, 3) := by decide +kernel
theorem dX2_digest_101 : decode cX2_digest 101 = .ok (.bipush 9, 2) := by decide +kernel
theorem dX2_digest_103 : decode cX2_digest 103 = .ok (.iload_n 1, 1) := by decide +kernel
theorem dX2_digest_104 : decode cX2_digest 104 = .ok (.iadd, 1) := by decide +kernel
theorem dX2_digest_105 : decode cX2_digest 105 = .ok (.iaload, 1) := by decide +kernel
theorem dX2_digest_106 : decode cX2_digest 106 = .ok (.invokevirtual 136, 3) := by decide +kernel
theorem dX2_digest_109 : decode cX2_digest 109 = .ok (.aload_n 0, 1) := by decide +kernel
theorem dX2_digest_110 : decode cX2_digest 110 = .ok (.aload_n 0, 1) := by decide +kernel
theorem dX2_digest_111 : decode cX2_digest 111 = .ok (.getfield 7, 3) := by decide +kernel
theorem dX2_digest_114 : decode cX2_digest 114 = .ok (.bipush 14, 2) := by decide +kernel
theorem dX2_digest_116 : decode cX2_digest 116 = .ok (.iload_n 1, 1) := by decide +kernel
theorem dX2_digest_117 : decode cX2_digest 117 = .ok (.iadd, 1) := by decide +kernel
theorem dX2_digest_118 : decode cX2_digest 118 = .ok (.iaload, 1) := by decide +kernel
theorem dX2_digest_119 : decode cX2_digest 119 = .ok (.invokevirtual 136, 3) := by decide +kernel
theorem dX2_digest_122 : decode cX2_digest 122 = .ok (.aload_n 0, 1) := by decide +kernel
theorem dX2_digest_123 : decode cX2_digest 123 = .ok (.aload_n 0, 1) := by decide +kernel
theorem dX2_digest_124 : decode cX2_digest 124 = .ok (.getfield 7, 3) := by decide +kernel
theorem dX2_digest_127 : decode cX2_digest 127 = .ok (.bipush 19, 2) := by decide +kernel
theorem dX2_digest_129 : decode cX2_digest 129 = .ok (.iload_n 1, 1) := by decide +kernel
theorem dX2_digest_130 : decode cX2_digest 130 = .ok (.iadd, 1) := by decide +kernel
theorem dX2_digest_131 : decode cX2_digest 131 = .ok (.iaload, 1) := by decide +kernel
theorem dX2_digest_132 : decode cX2_digest 132 = .ok (.invokevirtual 136, 3) := by decide +kernel
theorem dX2_digest_135 : decode cX2_digest 135 = .ok (.iinc 1 1, 3) := by decide +kernel
theorem dX2_digest_138 : decode cX2_digest 138 = .ok (.goto (-47), 3) := by decide +kernel
theorem dX2_digest_141 : decode cX2_digest 141 = .ok (.iconst 0, 1) := by decide +kernel
theorem dX2_digest_142 : decode cX2_digest 142 = .ok (.istore_n 1, 1) := by decide +kernel
theorem dX2_digest_143 : decode cX2_digest 143 = .ok (.iload_n 1, 1) := by decide +kernel
theorem dX2_digest_144 : decode cX2_digest 144 = .ok (.sipush 200, 3) := by decide +kernel
theorem dX2_digest_147 : decode cX2_digest 147 = .ok (.if_icmp .ge 54, 3) := by decide +kernel
theorem dX2_digest_150 : decode cX2_digest 150 = .ok (.iload_n 1, 1) := by decide +kernel
theorem dX2_digest_151 : decode cX2_digest 151 = .ok (.bipush 40, 2) := by decide +kernel
theorem dX2_digest_153 : decode cX2_digest 153 = .ok (.idiv, 1) := by decide +kernel
theorem dX2_digest_154 : decode cX2_digest 154 = .ok (.istore_n 2, 1) := by decide +kernel
theorem dX2_digest_155 : decode cX2_digest 155 = .ok (.iload_n 1, 1) := by decide +kernel
theorem dX2_digest_156 : decode cX2_digest 156 = .ok (.bipush 8, 2) := by decide +kernel
theorem dX2_digest_158 : decode cX2_digest 158 = .ok (.idiv, 1) := by decide +kernel
theorem dX2_digest_159 : decode cX2_digest 159 = .ok (.iconst 5, 1) := by decide +kernel
theorem dX2_digest_160 : decode cX2_digest 160 = .ok (.irem, 1) := by decide +kernel
theorem dX2_digest_161 : decode cX2_digest 161 = .ok (.istore_n 3, 1) := by decide +kernel
theorem dX2_digest_162 : decode cX2_digest 162 = .ok (.iload_n 2, 1) := by decide +kernel
theorem dX2_digest_163 : decode cX2_digest 163 = .ok (.iload_n 3, 1) := by decide +kernel
theorem dX2_digest_164 : decode cX2_digest 164 = .ok (.if_icmp .eq 31, 3) := by decide +kernel
theorem dX2_digest_167 : decode cX2_digest 167 = .ok (.aload_n 0, 1) := by decide +kernel
theorem dX2_digest_168 : decode cX2_digest 168 = .ok (.aload_n 0, 1) := by decide +kernel
theorem dX2_digest_169 : decode cX2_digest 169 = .ok (.getfield 7, 3) := by decide +kernel
theorem dX2_digest_172 : decode cX2_digest 172 = .ok (.sipush 224, 3) := by decide +kernel
theorem dX2_digest_175 : decode cX2_digest 175 = .ok (.iload_n 1, 1) := by decide +kernel
theorem dX2_digest_176 : decode cX2_digest 176 = .ok (.iadd, 1) := by decide +kernel
theorem dX2_digest_177 : decode cX2_digest 177 = .ok (.iaload, 1) := by decide +kernel
theorem dX2_digest_178 : decode cX2_digest 178 = .ok (.invokevirtual 136, 3) := by decide +kernel
theorem dX2_digest_181 : decode cX2_digest 181 = .ok (.aload_n 0, 1) := by decide +kernel
theorem dX2_digest_182 : decode cX2_digest 182 = .ok (.aload_n 0, 1) := by decide +kernel
theorem dX2_digest_183 : decode cX2_digest 183 = .ok (.iload_n 2, 1) := by decide +kernel
theorem dX2_digest_184 : decode cX2_digest 184 = .ok (.iload_n 3, 1) := by decide +kernel
theorem dX2_digest_185 : decode cX2_digest 185 = .ok (.iload_n 1, 1) := by decide +kernel
theorem dX2_digest_186 : decode cX2_digest 186 = .ok (.bipush 8, 2) := by decide +kernel
theorem dX2_digest_188 : decode cX2_digest 188 = .ok (.irem, 1) := by decide +kernel
theorem dX2_digest_189 : decode cX2_digest 189 = .ok (.invokevirtual 92, 3) := by decide +kernel
theorem dX2_digest_192 : decode cX2_digest 192 = .ok (.invokevirtual 136, 3) := by decide +kernel
theorem dX2_digest_195 : decode cX2_digest 195 = .ok (.iinc 1 1, 3) := by decide +kernel
theorem dX2_digest_198 : decode cX2_digest 198 = .ok (.goto (-55), 3) := by decide +kernel
theorem dX2_digest_201 : decode cX2_digest 201 = .ok (.aload_n 0, 1) := by decide +kernel
theorem dX2_digest_202 : decode cX2_digest 202 = .ok (.getfield 130, 3) := by decide +kernel
theorem dX2_digest_205 : decode cX2_digest 205 = .ok (.lreturn, 1) := by decide +kernel
