theorem fDm_ex {s : Sz} {h : Int64} {i j ch : Nat} (e : j = i) (hi : i < 5) (hc : ch ≤ 8) : fDm s h (40 * i + 8 * j + ch) = fDm s h (40 * i + 8 * (j + 1)) := by
  subst e
  rw [show 40 * j + 8 * (j + 1) = 40 * j + 8 * j + 8 by omega, ← fDm_sk hi ch hc, ← fDm_sk hi 8 (Nat.le_refl _)]
theorem hd_X0_mixCounters : hdZ yX0_mixCounters 1 := by decide +kernel
set_option maxRecDepth 100000 in
set_option maxHeartbeats 4000000 in
theorem c_X0_mixCounters (l : Launch) (D : va_G) (cI cN : ClassId) (a : Nat → Nat) (s : Sz) (rk : Sz) (h : Int64) : Fn l D cI cN yX0_mixCounters wsX0_mixCounters 1 (nW cI a s rk) [.ref (a 0), .long h] (some (.long (fDa h s))) (nW cI a s rk) := by
  refine Fn.of (cc := cX0_mixCounters) (nL := 5) (ret := (some .long)) (lv := [(0, .ref (a 0)), (1, .long h)]) (by decide +kernel) rfl (Nat.le_of_ble_eq_true rfl) rfl ?_
  intro p e s_ m args below meth c A B hr hA H locs ls hz hl
  have hx := B.1.1
  have hb := B.1.2.1
  have hinX0 : ∀ w ∈ u_ws RX0 TX0 16, w ∈ wsX0_mixCounters := by decide +kernel
  have lk9 : Cond.fieldLink yX0_mixCounters.cls 9 RX0 (TX0 1).2.1 (TX0 1).2.2.1 ∈ wsX0_mixCounters := by decide +kernel
  have lk15 : Cond.fieldLink yX0_mixCounters.cls 15 RX0 (TX0 2).2.1 (TX0 2).2.2.1 ∈ wsX0_mixCounters := by decide +kernel
  have lk18 : Cond.fieldLink yX0_mixCounters.cls 18 RX0 (TX0 6).2.1 (TX0 6).2.2.1 ∈ wsX0_mixCounters := by decide +kernel
  have lk21 : Cond.fieldLink yX0_mixCounters.cls 21 RX0 (TX0 7).2.1 (TX0 7).2.2.1 ∈ wsX0_mixCounters := by decide +kernel
  have lk24 : Cond.fieldLink yX0_mixCounters.cls 24 RX0 (TX0 8).2.1 (TX0 8).2.2.1 ∈ wsX0_mixCounters := by decide +kernel
  have lk55 : Cond.fieldLink yX0_mixCounters.cls 55 RX0 (TX0 0).2.1 (TX0 0).2.2.1 ∈ wsX0_mixCounters := by decide +kernel
  have lk58 : Cond.fieldLink yX0_mixCounters.cls 58 RX0 (TX0 3).2.1 (TX0 3).2.2.1 ∈ wsX0_mixCounters := by decide +kernel
  have lk61 : Cond.fieldLink yX0_mixCounters.cls 61 RX0 (TX0 4).2.1 (TX0 4).2.2.1 ∈ wsX0_mixCounters := by decide +kernel
  have lk64 : Cond.fieldLink yX0_mixCounters.cls 64 RX0 (TX0 5).2.1 (TX0 5).2.2.1 ∈ wsX0_mixCounters := by decide +kernel
  refine lv_lload_n hx hb dX0_mixCounters_0 rfl (lv_at hl 1 rfl) ?_
  refine lv_aload_n hx hb dX0_mixCounters_1 rfl (lv_at hl 0 rfl) ?_
  refine gz (C := RX0) (T := TX0) (N := 16) (v := .int (s 0)) B hz hinX0 0 rfl rfl 0 (by decide) lk55 rfl rfl dX0_mixCounters_2 ?_
  refine lv_i2l hx hb dX0_mixCounters_5 rfl ?_
  refine cNst (k := 1) (As := [.long h, .long ((s 0).toInt64)]) (rest := []) (v := .long (31 * h + ((s 0).toInt64))) B hz hA (c_X1_mix l D cI cN h ((s 0).toInt64) ) gX0_mixCounters_X1_mix_n156 rfl (by decide +kernel) (by decide +kernel) (by decide +kernel) rfl hd_X1_mix (by decide) rfl hl.1 rfl (Nat.le_of_ble_eq_true rfl) dX0_mixCounters_6 (fun H locs hz => ?_)
  refine lv_lstore_n (lv' := [(3, .long (31 * h + ((s 0).toInt64))), (0, .ref (a 0)), (1, .long h)]) hx hb dX0_mixCounters_9 rfl hl (by decide) rfl (fun ls hl => ?_)
  refine lv_lload_n hx hb dX0_mixCounters_10 rfl (lv_at hl 0 rfl) ?_
  refine lv_aload_n hx hb dX0_mixCounters_11 rfl (lv_at hl 1 rfl) ?_
  refine gz (C := RX0) (T := TX0) (N := 16) (v := .int (s 2)) B hz hinX0 0 rfl rfl 1 (by decide) lk9 rfl rfl dX0_mixCounters_12 ?_
  refine lv_i2l hx hb dX0_mixCounters_15 rfl ?_
  refine cNst (k := 1) (As := [.long (31 * h + ((s 0).toInt64)), .long ((s 2).toInt64)]) (rest := []) (v := .long (31 * (31 * h + ((s 0).toInt64)) + ((s 2).toInt64))) B hz hA (c_X1_mix l D cI cN (31 * h + ((s 0).toInt64)) ((s 2).toInt64) ) gX0_mixCounters_X1_mix_n156 rfl (by decide +kernel) (by decide +kernel) (by decide +kernel) rfl hd_X1_mix (by decide) rfl hl.1 rfl (Nat.le_of_ble_eq_true rfl) dX0_mixCounters_16 (fun H locs hz => ?_)
  refine lv_lstore_n (lv' := [(3, .long (31 * (31 * h + ((s 0).toInt64)) + ((s 2).toInt64))), (0, .ref (a 0)), (1, .long h)]) hx hb dX0_mixCounters_19 rfl hl (by decide) rfl (fun ls hl => ?_)
  refine lv_lload_n hx hb dX0_mixCounters_20 rfl (lv_at hl 0 rfl) ?_
  refine lv_aload_n hx hb dX0_mixCounters_21 rfl (lv_at hl 1 rfl) ?_
  refine gz (C := RX0) (T := TX0) (N := 16) (v := .int (s 1)) B hz hinX0 0 rfl rfl 2 (by decide) lk15 rfl rfl dX0_mixCounters_22 ?_
  refine lv_i2l hx hb dX0_mixCounters_25 rfl ?_
  refine cNst (k := 1) (As := [.long (31 * (31 * h + ((s 0).toInt64)) + ((s 2).toInt64)), .long ((s 1).toInt64)]) (rest := []) (v := .long (31 * (31 * (31 * h + ((s 0).toInt64)) + ((s 2).toInt64)) + ((s 1).toInt64))) B hz hA (c_X1_mix l D cI cN (31 * (31 * h + ((s 0).toInt64)) + ((s 2).toInt64)) ((s 1).toInt64) ) gX0_mixCounters_X1_mix_n156 rfl (by decide +kernel) (by decide +kernel) (by decide +kernel) rfl hd_X1_mix (by decide) rfl hl.1 rfl (Nat.le_of_ble_eq_true rfl) dX0_mixCounters_26 (fun H locs hz => ?_)
  refine lv_lstore_n (lv' := [(3, .long (31 * (31 * (31 * h + ((s 0).toInt64)) + ((s 2).toInt64)) + ((s 1).toInt64))), (0, .ref (a 0)), (1, .long h)]) hx hb dX0_mixCounters_29 rfl hl (by decide) rfl (fun ls hl => ?_)
  refine lv_lload_n hx hb dX0_mixCounters_30 rfl (lv_at hl 0 rfl) ?_
  refine lv_aload_n hx hb dX0_mixCounters_31 rfl (lv_at hl 1 rfl) ?_
  refine gz (C := RX0) (T := TX0) (N := 16) (v := .int (s 3)) B hz hinX0 0 rfl rfl 3 (by decide) lk58 rfl rfl dX0_mixCounters_32 ?_
  refine lv_i2l hx hb dX0_mixCounters_35 rfl ?_
  refine cNst (k := 1) (As := [.long (31 * (31 * (31 * h + ((s 0).toInt64)) + ((s 2).toInt64)) + ((s 1).toInt64)), .long ((s 3).toInt64)]) (rest := []) (v := .long (31 * (31 * (31 * (31 * h + ((s 0).toInt64)) + ((s 2).toInt64)) + ((s 1).toInt64)) + ((s 3).toInt64))) B hz hA (c_X1_mix l D cI cN (31 * (31 * (31 * h + ((s 0).toInt64)) + ((s 2).toInt64)) + ((s 1).toInt64)) ((s 3).toInt64) ) gX0_mixCounters_X1_mix_n156 rfl (by decide +kernel) (by decide +kernel) (by decide +kernel) rfl hd_X1_mix (by decide) rfl hl.1 rfl (Nat.le_of_ble_eq_true rfl) dX0_mixCounters_36 (fun H locs hz => ?_)
  refine lv_lstore_n (lv' := [(3, .long (31 * (31 * (31 * (31 * h + ((s 0).toInt64)) + ((s 2).toInt64)) + ((s 1).toInt64)) + ((s 3).toInt64))), (0, .ref (a 0)), (1, .long h)]) hx hb dX0_mixCounters_39 rfl hl (by decide) rfl (fun ls hl => ?_)
  refine lv_lload_n hx hb dX0_mixCounters_40 rfl (lv_at hl 0 rfl) ?_
  refine lv_aload_n hx hb dX0_mixCounters_41 rfl (lv_at hl 1 rfl) ?_
  refine gz (C := RX0) (T := TX0) (N := 16) (v := .int (s 4)) B hz hinX0 0 rfl rfl 4 (by decide) lk61 rfl rfl dX0_mixCounters_42 ?_
  refine lv_i2l hx hb dX0_mixCounters_45 rfl ?_
  refine cNst (k := 1) (As := [.long (31 * (31 * (31 * (31 * h + ((s 0).toInt64)) + ((s 2).toInt64)) + ((s 1).toInt64)) + ((s 3).toInt64)), .long ((s 4).toInt64)]) (rest := []) (v := .long (31 * (31 * (31 * (31 * (31 * h + ((s 0).toInt64)) + ((s 2).toInt64)) + ((s 1).toInt64)) + ((s 3).toInt64)) + ((s 4).toInt64))) B hz hA (c_X1_mix l D cI cN (31 * (31 * (31 * (31 * h + ((s 0).toInt64)) + ((s 2).toInt64)) + ((s 1).toInt64)) + ((s 3).toInt64)) ((s 4).toInt64) ) gX0_mixCounters_X1_mix_n156 rfl (by decide +kernel) (by decide +kernel) (by decide +kernel) rfl hd_X1_mix (by decide) rfl hl.1 rfl (Nat.le_of_ble_eq_true rfl) dX0_mixCounters_46 (fun H locs hz => ?_)
  refine lv_lstore_n (lv' := [(3, .long (31 * (31 * (31 * (31 * (31 * h + ((s 0).toInt64)) + ((s 2).toInt64)) + ((s 1).toInt64)) + ((s 3).toInt64)) + ((s 4).toInt64))), (0, .ref (a 0)), (1, .long h)]) hx hb dX0_mixCounters_49 rfl hl (by decide) rfl (fun ls hl => ?_)
  refine lv_lload_n hx hb dX0_mixCounters_50 rfl (lv_at hl 0 rfl) ?_
  refine lv_aload_n hx hb dX0_mixCounters_51 rfl (lv_at hl 1 rfl) ?_
  refine gz (C := RX0) (T := TX0) (N := 16) (v := .int (s 5)) B hz hinX0 0 rfl rfl 5 (by decide) lk64 rfl rfl dX0_mixCounters_52 ?_
  refine lv_i2l hx hb dX0_mixCounters_55 rfl ?_
  refine cNst (k := 1) (As := [.long (31 * (31 * (31 * (31 * (31 * h + ((s 0).toInt64)) + ((s 2).toInt64)) + ((s 1).toInt64)) + ((s 3).toInt64)) + ((s 4).toInt64)), .long ((s 5).toInt64)]) (rest := []) (v := .long (31 * (31 * (31 * (31 * (31 * (31 * h + ((s 0).toInt64)) + ((s 2).toInt64)) + ((s 1).toInt64)) + ((s 3).toInt64)) + ((s 4).toInt64)) + ((s 5).toInt64))) B hz hA (c_X1_mix l D cI cN (31 * (31 * (31 * (31 * (31 * h + ((s 0).toInt64)) + ((s 2).toInt64)) + ((s 1).toInt64)) + ((s 3).toInt64)) + ((s 4).toInt64)) ((s 5).toInt64) ) gX0_mixCounters_X1_mix_n156 rfl (by decide +kernel) (by decide +kernel) (by decide +kernel) rfl hd_X1_mix (by decide) rfl hl.1 rfl (Nat.le_of_ble_eq_true rfl) dX0_mixCounters_56 (fun H locs hz => ?_)
  refine lv_lstore_n (lv' := [(3, .long (31 * (31 * (31 * (31 * (31 * (31 * h + ((s 0).toInt64)) + ((s 2).toInt64)) + ((s 1).toInt64)) + ((s 3).toInt64)) + ((s 4).toInt64)) + ((s 5).toInt64))), (0, .ref (a 0)), (1, .long h)]) hx hb dX0_mixCounters_59 rfl hl (by decide) rfl (fun ls hl => ?_)
  refine lv_lload_n hx hb dX0_mixCounters_60 rfl (lv_at hl 0 rfl) ?_
  refine lv_aload_n hx hb dX0_mixCounters_61 rfl (lv_at hl 1 rfl) ?_
  refine gz (C := RX0) (T := TX0) (N := 16) (v := .int (s 6)) B hz hinX0 0 rfl rfl 6 (by decide) lk18 rfl rfl dX0_mixCounters_62 ?_
  refine lv_i2l hx hb dX0_mixCounters_65 rfl ?_
  refine cNst (k := 1) (As := [.long (31 * (31 * (31 * (31 * (31 * (31 * h + ((s 0).toInt64)) + ((s 2).toInt64)) + ((s 1).toInt64)) + ((s 3).toInt64)) + ((s 4).toInt64)) + ((s 5).toInt64)), .long ((s 6).toInt64)]) (rest := []) (v := .long (31 * (31 * (31 * (31 * (31 * (31 * (31 * h + ((s 0).toInt64)) + ((s 2).toInt64)) + ((s 1).toInt64)) + ((s 3).toInt64)) + ((s 4).toInt64)) + ((s 5).toInt64)) + ((s 6).toInt64))) B hz hA (c_X1_mix l D cI cN (31 * (31 * (31 * (31 * (31 * (31 * h + ((s 0).toInt64)) + ((s 2).toInt64)) + ((s 1).toInt64)) + ((s 3).toInt64)) + ((s 4).toInt64)) + ((s 5).toInt64)) ((s 6).toInt64) ) gX0_mixCounters_X1_mix_n156 rfl (by decide +kernel) (by decide +kernel) (by decide +kernel) rfl hd_X1_mix (by decide) rfl hl.1 rfl (Nat.le_of_ble_eq_true rfl) dX0_mixCounters_66 (fun H locs hz => ?_)
  refine lv_lstore_n (lv' := [(3, .long (31 * (31 * (31 * (31 * (31 * (31 * (31 * h + ((s 0).toInt64)) + ((s 2).toInt64)) + ((s 1).toInt64)) + ((s 3).toInt64)) + ((s 4).toInt64)) + ((s 5).toInt64)) + ((s 6).toInt64))), (0, .ref (a 0)), (1, .long h)]) hx hb dX0_mixCounters_69 rfl hl (by decide) rfl (fun ls hl => ?_)
  refine lv_lload_n hx hb dX0_mixCounters_70 rfl (lv_at hl 0 rfl) ?_
  refine lv_aload_n hx hb dX0_mixCounters_71 rfl (lv_at hl 1 rfl) ?_
  refine gz (C := RX0) (T := TX0) (N := 16) (v := .int (s 7)) B hz hinX0 0 rfl rfl 7 (by decide) lk21 rfl rfl dX0_mixCounters_72 ?_
  refine lv_i2l hx hb dX0_mixCounters_75 rfl ?_
  refine cNst (k := 1) (As := [.long (31 * (31 * (31 * (31 * (31 * (31 * (31 * h + ((s 0).toInt64)) + ((s 2).toInt64)) + ((s 1).toInt64)) + ((s 3).toInt64)) + ((s 4).toInt64)) + ((s 5).toInt64)) + ((s 6).toInt64)), .long ((s 7).toInt64)]) (rest := []) (v := .long (31 * (31 * (31 * (31 * (31 * (31 * (31 * (31 * h + ((s 0).toInt64)) + ((s 2).toInt64)) + ((s 1).toInt64)) + ((s 3).toInt64)) + ((s 4).toInt64)) + ((s 5).toInt64)) + ((s 6).toInt64)) + ((s 7).toInt64))) B hz hA (c_X1_mix l D cI cN (31 * (31 * (31 * (31 * (31 * (31 * (31 * h + ((s 0).toInt64)) + ((s 2).toInt64)) + ((s 1).toInt64)) + ((s 3).toInt64)) + ((s 4).toInt64)) + ((s 5).toInt64)) + ((s 6).toInt64)) ((s 7).toInt64) ) gX0_mixCounters_X1_mix_n156 rfl (by decide +kernel) (by decide +kernel) (by decide +kernel) rfl hd_X1_mix (by decide) rfl hl.1 rfl (Nat.le_of_ble_eq_true rfl) dX0_mixCounters_76 (fun H locs hz => ?_)
  refine lv_lstore_n (lv' := [(3, .long (31 * (31 * (31 * (31 * (31 * (31 * (31 * (31 * h + ((s 0).toInt64)) + ((s 2).toInt64)) + ((s 1).toInt64)) + ((s 3).toInt64)) + ((s 4).toInt64)) + ((s 5).toInt64)) + ((s 6).toInt64)) + ((s 7).toInt64))), (0, .ref (a 0)), (1, .long h)]) hx hb dX0_mixCounters_79 rfl hl (by decide) rfl (fun ls hl => ?_)
  refine lv_lload_n hx hb dX0_mixCounters_80 rfl (lv_at hl 0 rfl) ?_
  refine lv_aload_n hx hb dX0_mixCounters_81 rfl (lv_at hl 1 rfl) ?_
  refine gz (C := RX0) (T := TX0) (N := 16) (v := .int (s 8)) B hz hinX0 0 rfl rfl 8 (by decide) lk24 rfl rfl dX0_mixCounters_82 ?_
  refine lv_i2l hx hb dX0_mixCounters_85 rfl ?_
  refine cNst (k := 1) (As := [.long (31 * (31 * (31 * (31 * (31 * (31 * (31 * (31 * h + ((s 0).toInt64)) + ((s 2).toInt64)) + ((s 1).toInt64)) + ((s 3).toInt64)) + ((s 4).toInt64)) + ((s 5).toInt64)) + ((s 6).toInt64)) + ((s 7).toInt64)), .long ((s 8).toInt64)]) (rest := []) (v := .long (31 * (31 * (31 * (31 * (31 * (31 * (31 * (31 * (31 * h + ((s 0).toInt64)) + ((s 2).toInt64)) + ((s 1).toInt64)) + ((s 3).toInt64)) + ((s 4).toInt64)) + ((s 5).toInt64)) + ((s 6).toInt64)) + ((s 7).toInt64)) + ((s 8).toInt64))) B hz hA (c_X1_mix l D cI cN (31 * (31 * (31 * (31 * (31 * (31 * (31 * (31 * h + ((s 0).toInt64)) + ((s 2).toInt64)) + ((s 1).toInt64)) + ((s 3).toInt64)) + ((s 4).toInt64)) + ((s 5).toInt64)) + ((s 6).toInt64)) + ((s 7).toInt64)) ((s 8).toInt64) ) gX0_mixCounters_X1_mix_n156 rfl (by decide +kernel) (by decide +kernel) (by decide +kernel) rfl hd_X1_mix (by decide) rfl hl.1 rfl (Nat.le_of_ble_eq_true rfl) dX0_mixCounters_86 (fun H locs hz => ?_)
  exact rz_l B hr hz dX0_mixCounters_89 (by rfl) (by rfl)
theorem hd_X0_mixStations : hdZ yX0_mixStations 1 := by decide +kernel
set_option maxRecDepth 100000 in
set_option maxHeartbeats 4000000 in
theorem c_X0_mixStations (l : Launch) (D : va_G) (cI cN : ClassId) (a : Nat → Nat) (s : Sz) (rk : Sz) (h : Int64) : Fn l D cI cN yX0_mixStations wsX0_mixStations 1 (nW cI a s rk) [.ref (a 0), .long h] (some (.long (fDs s h 5))) (nW cI a s rk) := by
  refine Fn.of (cc := cX0_mixStations) (nL := 6) (ret := (some .long)) (lv := [(0, .ref (a 0)), (1, .long h)]) (by decide +kernel) rfl (Nat.le_of_ble_eq_true rfl) rfl ?_
  intro p e s_ m args below meth c A B hr hA H locs ls hz hl
  have hx := B.1.1
  have hb := B.1.2.1
  have hinX0 : ∀ w ∈ u_ws RX0 TX0 16, w ∈ wsX0_mixStations := by decide +kernel
  have lk27 : Cond.fieldLink yX0_mixStations.cls 27 RX0 (TX0 9).2.1 (TX0 9).2.2.1 ∈ wsX0_mixStations := by decide +kernel
  have lk31 : Cond.fieldLink yX0_mixStations.cls 31 RX0 (TX0 10).2.1 (TX0 10).2.2.1 ∈ wsX0_mixStations := by decide +kernel
  have lk34 : Cond.fieldLink yX0_mixStations.cls 34 RX0 (TX0 11).2.1 (TX0 11).2.2.1 ∈ wsX0_mixStations := by decide +kernel
  refine lv_lload_n hx hb dX0_mixStations_0 rfl (lv_at hl 1 rfl) ?_
  refine lv_lstore_n (lv' := [(3, .long h), (0, .ref (a 0)), (1, .long h)]) hx hb dX0_mixStations_1 rfl hl (by decide) rfl (fun ls hl => ?_)
  refine lv_iconst (v := (nI 0)) hx hb dX0_mixStations_2 (by decide) ?_
  refine lv_istore (lv' := [(5, .int (nI 0)), (3, .long h), (0, .ref (a 0)), (1, .long h)]) hx hb dX0_mixStations_3 hl (by decide) rfl (fun ls hl => ?_)
  have LP5 : ∀ (n_LP5 : Nat) (i : Nat), (i ≤ 5) → 5 - i < n_LP5 → ∀ (H : Heap) (locs : List Loc) (ls : Array Slot), Hz D A s_.heap H locs (nW cI a s rk) → lv_has ls 6 [(0, .ref (a 0)), (1, .long h), (3, .long (fDs s h i)), (5, .int (nI i))] → Wz p l e 1 s_ m args below meth c D A (some (.long (fDs s h 5))) (nW cI a s rk) H locs (F0 m 5 ls []) := by
    intro n_LP5
    induction n_LP5 with
    | zero => intro i hi hm; exact absurd hm (Nat.not_lt_zero _)
    | succ n_LP5 ih_LP5 =>
      intro i hi hm H locs ls hz hl
      refine lv_iload hx hb dX0_mixStations_5 (lv_at hl 3 rfl) ?_
      refine lv_iconst (v := (nI 5)) hx hb dX0_mixStations_7 (by decide) ?_
      refine ln_icmp_ge (tgt := 56) hx hb dX0_mixStations_8 (by decide) (by constructor <;> omega) (fun c8 => ?_) (fun c8 => ?_)
      · refine lv_lload_n hx hb dX0_mixStations_56 rfl (lv_at hl 2 rfl) ?_
        exact rz_l B hr hz dX0_mixStations_57 (by rw [show i = 5 by omega]) (by rfl)
      · refine lv_lload_n hx hb dX0_mixStations_11 rfl (lv_at hl 2 rfl) ?_
        refine lv_aload_n hx hb dX0_mixStations_12 rfl (lv_at hl 0 rfl) ?_
        refine gz (C := RX0) (T := TX0) (N := 16) (v := .ref (a 1)) B hz hinX0 0 rfl rfl 9 (by decide) lk27 rfl rfl dX0_mixStations_13 ?_
        refine lv_iload hx hb dX0_mixStations_16 (lv_at hl 3 rfl) ?_
        refine ildz (n := 5) (j := i) (v := (s (9 + i))) B hz 1 rfl (by omega) (by decide) (seg_at (by omega)) dX0_mixStations_18 ?_
        refine lv_i2l hx hb dX0_mixStations_19 rfl ?_
        refine cNst (k := 1) (As := [.long (fDs s h i), .long ((s (9 + i)).toInt64)]) (rest := []) (v := .long (31 * (fDs s h i) + ((s (9 + i)).toInt64))) B hz hA (c_X1_mix l D cI cN (fDs s h i) ((s (9 + i)).toInt64) ) gX0_mixStations_X1_mix_n156 rfl (by decide +kernel) (by decide +kernel) (by decide +kernel) rfl hd_X1_mix (by decide) rfl hl.1 rfl (Nat.le_of_ble_eq_true rfl) dX0_mixStations_20 (fun H locs hz => ?_)
        refine lv_lstore_n (lv' := [(3, .long (31 * (fDs s h i) + ((s (9 + i)).toInt64))), (0, .ref (a 0)), (1, .long h), (5, .int (nI i))]) hx hb dX0_mixStations_23 rfl hl (by decide) rfl (fun ls hl => ?_)
        refine lv_lload_n hx hb dX0_mixStations_24 rfl (lv_at hl 0 rfl) ?_
        refine lv_aload_n hx hb dX0_mixStations_25 rfl (lv_at hl 1 rfl) ?_
        refine gz (C := RX0) (T := TX0) (N := 16) (v := .ref (a 2)) B hz hinX0 0 rfl rfl 10 (by decide) lk31 rfl rfl dX0_mixStations_26 ?_
        refine lv_iload hx hb dX0_mixStations_29 (lv_at hl 3 rfl) ?_
        refine ildz (n := 5) (j := i) (v := (s (14 + i))) B hz 2 rfl (by omega) (by decide) (seg_at (by omega)) dX0_mixStations_31 ?_
        refine lv_i2l hx hb dX0_mixStations_32 rfl ?_
        refine cNst (k := 1) (As := [.long (31 * (fDs s h i) + ((s (9 + i)).toInt64)), .long ((s (14 + i)).toInt64)]) (rest := []) (v := .long (31 * (31 * (fDs s h i) + ((s (9 + i)).toInt64)) + ((s (14 + i)).toInt64))) B hz hA (c_X1_mix l D cI cN (31 * (fDs s h i) + ((s (9 + i)).toInt64)) ((s (14 + i)).toInt64) ) gX0_mixStations_X1_mix_n156 rfl (by decide +kernel) (by decide +kernel) (by decide +kernel) rfl hd_X1_mix (by decide) rfl hl.1 rfl (Nat.le_of_ble_eq_true rfl) dX0_mixStations_33 (fun H locs hz => ?_)
        refine lv_lstore_n (lv' := [(3, .long (31 * (31 * (fDs s h i) + ((s (9 + i)).toInt64)) + ((s (14 + i)).toInt64))), (0, .ref (a 0)), (1, .long h), (5, .int (nI i))]) hx hb dX0_mixStations_36 rfl hl (by decide) rfl (fun ls hl => ?_)
        refine lv_lload_n hx hb dX0_mixStations_37 rfl (lv_at hl 0 rfl) ?_
        refine lv_aload_n hx hb dX0_mixStations_38 rfl (lv_at hl 1 rfl) ?_
        refine gz (C := RX0) (T := TX0) (N := 16) (v := .ref (a 3)) B hz hinX0 0 rfl rfl 11 (by decide) lk34 rfl rfl dX0_mixStations_39 ?_
        refine lv_iload hx hb dX0_mixStations_42 (lv_at hl 3 rfl) ?_
        refine ildz (n := 5) (j := i) (v := (s (19 + i))) B hz 3 rfl (by omega) (by decide) (seg_at (by omega)) dX0_mixStations_44 ?_
        refine lv_i2l hx hb dX0_mixStations_45 rfl ?_
        refine cNst (k := 1) (As := [.long (31 * (31 * (fDs s h i) + ((s (9 + i)).toInt64)) + ((s (14 + i)).toInt64)), .long ((s (19 + i)).toInt64)]) (rest := []) (v := .long (31 * (31 * (31 * (fDs s h i) + ((s (9 + i)).toInt64)) + ((s (14 + i)).toInt64)) + ((s (19 + i)).toInt64))) B hz hA (c_X1_mix l D cI cN (31 * (31 * (fDs s h i) + ((s (9 + i)).toInt64)) + ((s (14 + i)).toInt64)) ((s (19 + i)).toInt64) ) gX0_mixStations_X1_mix_n156 rfl (by decide +kernel) (by decide +kernel) (by decide +kernel) rfl hd_X1_mix (by decide) rfl hl.1 rfl (Nat.le_of_ble_eq_true rfl) dX0_mixStations_46 (fun H locs hz => ?_)
        refine lv_lstore_n (lv' := [(3, .long (31 * (31 * (31 * (fDs s h i) + ((s (9 + i)).toInt64)) + ((s (14 + i)).toInt64)) + ((s (19 + i)).toInt64))), (0, .ref (a 0)), (1, .long h), (5, .int (nI i))]) hx hb dX0_mixStations_49 rfl hl (by decide) rfl (fun ls hl => ?_)
        refine lv_iinc (v := nI (i + 1)) (lv' := [(5, .int (nI (i + 1))), (3, .long (31 * (31 * (31 * (fDs s h i) + ((s (9 + i)).toInt64)) + ((s (14 + i)).toInt64)) + ((s (19 + i)).toInt64))), (0, .ref (a 0)), (1, .long h)]) hx hb dX0_mixStations_50 hl (k := 3) rfl (nI_add i 1) (by decide) rfl (fun ls hl => ?_)
        refine lv_goto (tgt := 5) hx hb dX0_mixStations_53 (by decide) ?_
        exact ih_LP5 (i + 1) (by omega) (by omega) H locs ls (hz.cast (by rfl)) (lv_cast (lv_sub hl [2, 3, 1, 0] (l' := [(0, .ref (a 0)), (1, .long h), (3, .long (31 * (31 * (31 * (fDs s h i) + ((s (9 + i)).toInt64)) + ((s (14 + i)).toInt64)) + ((s (19 + i)).toInt64))), (5, .int (nI (i + 1)))]) rfl) (by rfl))
  exact LP5 _ 0 (by omega) (Nat.lt_succ_self _) H locs ls (hz.cast (by rfl)) (lv_cast (lv_sub hl [2, 3, 1, 0] (l' := [(0, .ref (a 0)), (1, .long h), (3, .long h), (5, .int (nI 0))]) rfl) (by rfl))
theorem hd_X0_mixScores : hdZ yX0_mixScores 1 := by decide +kernel
set_option maxRecDepth 100000 in
set_option maxHeartbeats 4000000 in
theorem c_X0_mixScores (l : Launch) (D : va_G) (cI cN : ClassId) (a : Nat → Nat) (s : Sz) (rk : Sz) (h : Int64) (hv : IvA s) : Fn l D cI cN yX0_mixScores wsX0_mixScores 2 (nW cI a s rk) [.ref (a 0), .long h] (some (.long (fDm s h 200))) (nW cI a s rk) := by
  refine Fn.of (cc := cX0_mixScores) (nL := 8) (ret := (some .long)) (lv := [(0, .ref (a 0)), (1, .long h)]) (by decide +kernel) rfl (Nat.le_of_ble_eq_true rfl) rfl ?_
  intro p e s_ m args below meth c A B hr hA H locs ls hz hl
  have hx := B.1.1
  have hb := B.1.2.1
  have hinX0 : ∀ w ∈ u_ws RX0 TX0 16, w ∈ wsX0_mixScores := by decide +kernel
  have lk40 : Cond.fieldLink yX0_mixScores.cls 40 RX0 (TX0 13).2.1 (TX0 13).2.2.1 ∈ wsX0_mixScores := by decide +kernel
  refine lv_lload_n hx hb dX0_mixScores_0 rfl (lv_at hl 1 rfl) ?_
  refine lv_lstore_n (lv' := [(3, .long h), (0, .ref (a 0)), (1, .long h)]) hx hb dX0_mixScores_1 rfl hl (by decide) rfl (fun ls hl => ?_)
  refine lv_iconst (v := (nI 0)) hx hb dX0_mixScores_2 (by decide) ?_
  refine lv_istore (lv' := [(5, .int (nI 0)), (3, .long h), (0, .ref (a 0)), (1, .long h)]) hx hb dX0_mixScores_3 hl (by decide) rfl (fun ls hl => ?_)
  have LP5 : ∀ (n_LP5 : Nat) (i : Nat), (i ≤ 5) → 5 - i < n_LP5 → ∀ (H : Heap) (locs : List Loc) (ls : Array Slot), Hz D A s_.heap H locs (nW cI a s rk) → lv_has ls 8 [(0, .ref (a 0)), (1, .long h), (3, .long (fDm s h (40 * i))), (5, .int (nI i))] → Wz p l e 2 s_ m args below meth c D A (some (.long (fDm s h 200))) (nW cI a s rk) H locs (F0 m 5 ls []) := by
    intro n_LP5
    induction n_LP5 with
    | zero => intro i hi hm; exact absurd hm (Nat.not_lt_zero _)
    | succ n_LP5 ih_LP5 =>
      intro i hi hm H locs ls hz hl
      refine lv_iload hx hb dX0_mixScores_5 (lv_at hl 3 rfl) ?_
      refine lv_iconst (v := (nI 5)) hx hb dX0_mixScores_7 (by decide) ?_
      refine ln_icmp_ge (tgt := 91) hx hb dX0_mixScores_8 (by decide) (by constructor <;> omega) (fun c8 => ?_) (fun c8 => ?_)
      · refine lv_lload_n hx hb dX0_mixScores_91 rfl (lv_at hl 2 rfl) ?_
        exact rz_l B hr hz dX0_mixScores_92 (by rw [show i = 5 by omega]) (by rfl)
      · refine lv_iconst (v := (nI 0)) hx hb dX0_mixScores_11 (by decide) ?_
        refine lv_istore (lv' := [(6, .int (nI 0)), (0, .ref (a 0)), (1, .long h), (3, .long (fDm s h (40 * i))), (5, .int (nI i))]) hx hb dX0_mixScores_12 hl (by decide) rfl (fun ls hl => ?_)
        have LP14 : ∀ (n_LP14 : Nat) (j : Nat), (j ≤ 5) → 5 - j < n_LP14 → ∀ (H : Heap) (locs : List Loc) (ls : Array Slot), Hz D A s_.heap H locs (nW cI a s rk) → lv_has ls 8 [(0, .ref (a 0)), (1, .long h), (3, .long (fDm s h (40 * i + 8 * j))), (5, .int (nI i)), (6, .int (nI j))] → Wz p l e 2 s_ m args below meth c D A (some (.long (fDm s h 200))) (nW cI a s rk) H locs (F0 m 14 ls []) := by
          intro n_LP14
          induction n_LP14 with
          | zero => intro j hj hm; exact absurd hm (Nat.not_lt_zero _)
          | succ n_LP14 ih_LP14 =>
            intro j hj hm H locs ls hz hl
            refine lv_iload hx hb dX0_mixScores_14 (lv_at hl 4 rfl) ?_
            refine lv_iconst (v := (nI 5)) hx hb dX0_mixScores_16 (by decide) ?_
            refine ln_icmp_ge (tgt := 85) hx hb dX0_mixScores_17 (by decide) (by constructor <;> omega) (fun c17 => ?_) (fun c17 => ?_)
            · obtain rfl : j = 5 := by omega
              refine lv_iinc (v := nI (i + 1)) (lv' := [(5, .int (nI (i + 1))), (0, .ref (a 0)), (1, .long h), (3, .long (fDm s h (40 * i + 8 * 5))), (6, .int (nI 5))]) hx hb dX0_mixScores_85 hl (k := 3) rfl (nI_add i 1) (by decide) rfl (fun ls hl => ?_)
              refine lv_goto (tgt := 5) hx hb dX0_mixScores_88 (by decide) ?_
              exact ih_LP5 (i + 1) (by omega) (by omega) H locs ls (hz.cast (by rfl)) (lv_cast (lv_sub hl [1, 2, 3, 0] (l' := [(0, .ref (a 0)), (1, .long h), (3, .long (fDm s h (40 * i + 8 * 5))), (5, .int (nI (i + 1)))]) rfl) (by rw [show 40 * (i + 1) = 40 * i + 8 * 5 by omega]))
            · refine lv_iconst (v := (nI 0)) hx hb dX0_mixScores_20 (by decide) ?_
              refine lv_istore (lv' := [(7, .int (nI 0)), (0, .ref (a 0)), (1, .long h), (3, .long (fDm s h (40 * i + 8 * j))), (5, .int (nI i)), (6, .int (nI j))]) hx hb dX0_mixScores_21 hl (by decide) rfl (fun ls hl => ?_)
              have LP23 : ∀ (n_LP23 : Nat) (ch : Nat), (ch ≤ 8) → 8 - ch < n_LP23 → ∀ (H : Heap) (locs : List Loc) (ls : Array Slot), Hz D A s_.heap H locs (nW cI a s rk) → lv_has ls 8 [(0, .ref (a 0)), (1, .long h), (3, .long (fDm s h (40 * i + 8 * j + ch))), (5, .int (nI i)), (6, .int (nI j)), (7, .int (nI ch))] → Wz p l e 2 s_ m args below meth c D A (some (.long (fDm s h 200))) (nW cI a s rk) H locs (F0 m 23 ls []) := by
                intro n_LP23
                induction n_LP23 with
                | zero => intro ch hch hm; exact absurd hm (Nat.not_lt_zero _)
                | succ n_LP23 ih_LP23 =>
                  intro ch hch hm H locs ls hz hl
                  refine lv_iload hx hb dX0_mixScores_23 (lv_at hl 5 rfl) ?_
                  refine lv_bipush (v := (nI 8)) hx hb dX0_mixScores_25 (by decide) ?_
                  refine ln_icmp_ge (tgt := 79) hx hb dX0_mixScores_27 (by decide) (by constructor <;> omega) (fun c27 => ?_) (fun c27 => ?_)
                  · obtain rfl : ch = 8 := by omega
                    refine lv_iinc (v := nI (j + 1)) (lv' := [(6, .int (nI (j + 1))), (0, .ref (a 0)), (1, .long h), (3, .long (fDm s h (40 * i + 8 * j + 8))), (5, .int (nI i)), (7, .int (nI 8))]) hx hb dX0_mixScores_79 hl (k := 4) rfl (nI_add j 1) (by decide) rfl (fun ls hl => ?_)
                    refine lv_goto (tgt := 14) hx hb dX0_mixScores_82 (by decide) ?_
                    exact ih_LP14 (j + 1) (by omega) (by omega) H locs ls (hz.cast (by rfl)) (lv_cast (lv_sub hl [1, 2, 3, 4, 0] (l' := [(0, .ref (a 0)), (1, .long h), (3, .long (fDm s h (40 * i + 8 * j + 8))), (5, .int (nI i)), (6, .int (nI (j + 1)))]) rfl) (by first | (rw [show 40 * i + 8 * (j + 1) = 40 * i + 8 * j + 8 by omega]; done) | (rw [fDm_ex c34 (by omega) hch]; done)))
                  · refine lv_iload hx hb dX0_mixScores_30 (lv_at hl 4 rfl) ?_
                    refine lv_iload hx hb dX0_mixScores_32 (lv_at hl 3 rfl) ?_
                    refine ln_icmp_eq (tgt := 79) hx hb dX0_mixScores_34 (by decide) (by constructor <;> omega) (fun c34 => ?_) (fun c34 => ?_)
                    · refine lv_iinc (v := nI (j + 1)) (lv' := [(6, .int (nI (j + 1))), (0, .ref (a 0)), (1, .long h), (3, .long (fDm s h (40 * i + 8 * j + ch))), (5, .int (nI i)), (7, .int (nI ch))]) hx hb dX0_mixScores_79 hl (k := 4) rfl (nI_add j 1) (by decide) rfl (fun ls hl => ?_)
                      refine lv_goto (tgt := 14) hx hb dX0_mixScores_82 (by decide) ?_
                      exact ih_LP14 (j + 1) (by omega) (by omega) H locs ls (hz.cast (by rfl)) (lv_cast (lv_sub hl [1, 2, 3, 4, 0] (l' := [(0, .ref (a 0)), (1, .long h), (3, .long (fDm s h (40 * i + 8 * j + ch))), (5, .int (nI i)), (6, .int (nI (j + 1)))]) rfl) (by first | (rw [show 40 * i + 8 * (j + 1) = 40 * i + 8 * j + 8 by omega]; done) | (rw [fDm_ex c34 (by omega) hch]; done)))
                    · refine lv_lload_n hx hb dX0_mixScores_37 rfl (lv_at hl 2 rfl) ?_
                      refine lv_aload_n hx hb dX0_mixScores_38 rfl (lv_at hl 0 rfl) ?_
                      refine gz (C := RX0) (T := TX0) (N := 16) (v := .ref (a 5)) B hz hinX0 0 rfl rfl 13 (by decide) lk40 rfl rfl dX0_mixScores_39 ?_
                      refine lv_iload hx hb dX0_mixScores_42 (lv_at hl 3 rfl) ?_
                      refine lv_iload hx hb dX0_mixScores_44 (lv_at hl 4 rfl) ?_
                      refine lv_iload hx hb dX0_mixScores_46 (lv_at hl 5 rfl) ?_
                      refine cNst (k := 2) (As := [.int (nI i), .int (nI j), .int (nI ch)]) (rest := [.ref (a 5), .long (fDm s h (40 * i + 8 * j + ch))]) (v := .int (nI (fAt i j ch))) B hz hA (c_X1_cell l D cI cN i j ch ) gX0_mixScores_X1_cell_n103 rfl (by decide +kernel) (by decide +kernel) (by decide +kernel) rfl hd_X1_cell (by decide) rfl hl.1 rfl (Nat.le_of_ble_eq_true rfl) dX0_mixScores_48 (fun H locs hz => ?_)
                      refine ildz (n := 200) (j := (fAt i j ch)) (v := (s (224 + (fAt i j ch)))) B hz 5 rfl (by have hat := fAt_lt (a := i) (b := j) (c := ch) (by omega) (by omega) (by omega); omega) (by decide) (seg_at (by have hat := fAt_lt (a := i) (b := j) (c := ch) (by omega) (by omega) (by omega); omega)) dX0_mixScores_51 ?_
                      refine lv_i2l hx hb dX0_mixScores_52 rfl ?_
                      refine cNst (k := 2) (As := [.long (fDm s h (40 * i + 8 * j + ch)), .long ((s (224 + (fAt i j ch))).toInt64)]) (rest := []) (v := .long (31 * (fDm s h (40 * i + 8 * j + ch)) + ((s (224 + (fAt i j ch))).toInt64))) B hz hA (c_X1_mix l D cI cN (fDm s h (40 * i + 8 * j + ch)) ((s (224 + (fAt i j ch))).toInt64) ) gX0_mixScores_X1_mix_n156 rfl (by decide +kernel) (by decide +kernel) (by decide +kernel) rfl hd_X1_mix (by decide) rfl hl.1 rfl (Nat.le_of_ble_eq_true rfl) dX0_mixScores_53 (fun H locs hz => ?_)
                      refine lv_lstore_n (lv' := [(3, .long (31 * (fDm s h (40 * i + 8 * j + ch)) + ((s (224 + (fAt i j ch))).toInt64))), (0, .ref (a 0)), (1, .long h), (5, .int (nI i)), (6, .int (nI j)), (7, .int (nI ch))]) hx hb dX0_mixScores_56 rfl hl (by decide) rfl (fun ls hl => ?_)
                      refine lv_lload_n hx hb dX0_mixScores_57 rfl (lv_at hl 0 rfl) ?_
                      refine lv_aload_n hx hb dX0_mixScores_58 rfl (lv_at hl 1 rfl) ?_
                      refine lv_iload hx hb dX0_mixScores_59 (lv_at hl 3 rfl) ?_
                      refine lv_iload hx hb dX0_mixScores_61 (lv_at hl 4 rfl) ?_
                      refine lv_iload hx hb dX0_mixScores_63 (lv_at hl 5 rfl) ?_
                      refine cV (C := RX0) (T := TX0) (N := 16) (ci := 0) (q0 := 0) (k := 2) (As := [.int (nI i), .int (nI j), .int (nI ch)]) (rest := [.long (31 * (fDm s h (40 * i + 8 * j + ch)) + ((s (224 + (fAt i j ch))).toInt64))]) (v := .int (fEf i j ch s)) (ws1 := (nW cI a s rk)) B hz hA (c_X0_agedScore l D cI cN a s rk i j ch (by omega) (by omega) (by omega) (hv)) gX0_mixScores_X0_agedScore rfl rfl hd_X0_agedScore (by decide) rfl rfl rfl hl.1 rfl (Nat.le_of_ble_eq_true rfl) dX0_mixScores_65 (fun H locs hz => ?_)
                      refine lv_i2l hx hb dX0_mixScores_68 rfl ?_
                      refine cNst (k := 2) (As := [.long (31 * (fDm s h (40 * i + 8 * j + ch)) + ((s (224 + (fAt i j ch))).toInt64)), .long ((fEf i j ch s).toInt64)]) (rest := []) (v := .long (31 * (31 * (fDm s h (40 * i + 8 * j + ch)) + ((s (224 + (fAt i j ch))).toInt64)) + ((fEf i j ch s).toInt64))) B hz hA (c_X1_mix l D cI cN (31 * (fDm s h (40 * i + 8 * j + ch)) + ((s (224 + (fAt i j ch))).toInt64)) ((fEf i j ch s).toInt64) ) gX0_mixScores_X1_mix_n156 rfl (by decide +kernel) (by decide +kernel) (by decide +kernel) rfl hd_X1_mix (by decide) rfl hl.1 rfl (Nat.le_of_ble_eq_true rfl) dX0_mixScores_69 (fun H locs hz => ?_)
                      refine lv_lstore_n (lv' := [(3, .long (31 * (31 * (fDm s h (40 * i + 8 * j + ch)) + ((s (224 + (fAt i j ch))).toInt64)) + ((fEf i j ch s).toInt64))), (0, .ref (a 0)), (1, .long h), (5, .int (nI i)), (6, .int (nI j)), (7, .int (nI ch))]) hx hb dX0_mixScores_72 rfl hl (by decide) rfl (fun ls hl => ?_)
                      refine lv_iinc (v := nI (ch + 1)) (lv' := [(7, .int (nI (ch + 1))), (3, .long (31 * (31 * (fDm s h (40 * i + 8 * j + ch)) + ((s (224 + (fAt i j ch))).toInt64)) + ((fEf i j ch s).toInt64))), (0, .ref (a 0)), (1, .long h), (5, .int (nI i)), (6, .int (nI j))]) hx hb dX0_mixScores_73 hl (k := 5) rfl (nI_add ch 1) (by decide) rfl (fun ls hl => ?_)
                      refine lv_goto (tgt := 23) hx hb dX0_mixScores_76 (by decide) ?_
                      exact ih_LP23 (ch + 1) (by omega) (by omega) H locs ls (hz.cast (by rfl)) (lv_cast (lv_sub hl [2, 3, 1, 4, 5, 0] (l' := [(0, .ref (a 0)), (1, .long h), (3, .long (31 * (31 * (fDm s h (40 * i + 8 * j + ch)) + ((s (224 + (fAt i j ch))).toInt64)) + ((fEf i j ch s).toInt64))), (5, .int (nI i)), (6, .int (nI j)), (7, .int (nI (ch + 1)))]) rfl) (by rw [← fDm_st (by omega) (by omega) c34]; rfl))
              exact LP23 _ 0 (by omega) (Nat.lt_succ_self _) H locs ls (hz.cast (by rfl)) (lv_cast (lv_sub hl [1, 2, 3, 4, 5, 0] (l' := [(0, .ref (a 0)), (1, .long h), (3, .long (fDm s h (40 * i + 8 * j))), (5, .int (nI i)), (6, .int (nI j)), (7, .int (nI 0))]) rfl) (by rfl))
        exact LP14 _ 0 (by omega) (Nat.lt_succ_self _) H locs ls (hz.cast (by rfl)) (lv_cast (lv_sub hl [1, 2, 3, 4, 0] (l' := [(0, .ref (a 0)), (1, .long h), (3, .long (fDm s h (40 * i))), (5, .int (nI i)), (6, .int (nI 0))]) rfl) (by rfl))
  exact LP5 _ 0 (by omega) (Nat.lt_succ_self _) H locs ls (hz.cast (by rfl)) (lv_cast (lv_sub hl [2, 3, 1, 0] (l' := [(0, .ref (a 0)), (1, .long h), (3, .long h), (5, .int (nI 0))]) rfl) (by rfl))
