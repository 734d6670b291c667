theorem hd_X2_draw : hdZ yX2_draw 0 := by decide +kernel
set_option maxRecDepth 100000 in
set_option maxHeartbeats 4000000 in
theorem c_X2_draw (l : Launch) (D : va_G) (cI cN : ClassId) (a : Nat → Nat) (s : Sz) (pst : Sz) (np : Nat) (er : Sz) (od : Sz) (rk : Sz) (hs : Int64) (hn : fNn s) : Fn l D cI cN yX2_draw wsX2_draw 0 (mW cI a s pst np er od rk hs) [.ref (a 0)] (some (.int (fDv (fDx (s 1))))) (mW cI a (upd s 1 (fDx (s 1))) pst np er od rk hs) := by
  refine Fn.of (cc := cX2_draw) (nL := 3) (ret := (some .int)) (lv := [(0, .ref (a 0))]) (by decide +kernel) rfl (Nat.le_of_ble_eq_true rfl) rfl ?_
  intro p e s_ m args below meth c A B hr hA H locs ls hz hl
  have hx := B.1.1
  have hb := B.1.2.1
  have hinX2 : ∀ w ∈ u_ws RX2 TX2 7, w ∈ wsX2_draw := by decide +kernel
  have lk7 : Cond.fieldLink yX2_draw.cls 7 RX2 (TX2 0).2.1 (TX2 0).2.2.1 ∈ wsX2_draw := by decide +kernel
  refine lv_aload_n hx hb dX2_draw_0 rfl (lv_at hl 0 rfl) ?_
  refine gz (C := RX2) (T := TX2) (N := 7) (v := .ref (a 1)) B hz hinX2 0 rfl rfl 0 (by decide) lk7 rfl rfl dX2_draw_1 ?_
  refine lv_iconst (v := (nI 1)) hx hb dX2_draw_4 (by decide) ?_
  refine ildz (n := 624) (j := 1) (v := (s 1)) B hz 1 rfl (by omega) (by decide) rfl dX2_draw_5 ?_
  refine lv_i2l hx hb dX2_draw_6 rfl ?_
  refine ldc2z (v := 1103515245) B (by decide +kernel) dX2_draw_7 ?_
  refine lv_lmul hx hb dX2_draw_10 ?_
  refine ldc2z (v := 12345) B (by decide +kernel) dX2_draw_11 ?_
  refine lv_ladd hx hb dX2_draw_14 ?_
  refine ldc2z (v := 2147483648) B (by decide +kernel) dX2_draw_15 ?_
  refine lv_lrem hx hb dX2_draw_18 (by decide) ?_
  refine lv_lstore_n (lv' := [(1, .long (((((s 1).toInt64) * 1103515245) + 12345) - ((((s 1).toInt64) * 1103515245) + 12345) / 2147483648 * 2147483648)), (0, .ref (a 0))]) hx hb dX2_draw_19 rfl hl (by decide) rfl (fun ls hl => ?_)
  refine lv_aload_n hx hb dX2_draw_20 rfl (lv_at hl 1 rfl) ?_
  refine gz (C := RX2) (T := TX2) (N := 7) (v := .ref (a 1)) B hz hinX2 0 rfl rfl 0 (by decide) lk7 rfl rfl dX2_draw_21 ?_
  refine lv_iconst (v := (nI 1)) hx hb dX2_draw_24 (by decide) ?_
  refine lv_lload_n hx hb dX2_draw_25 rfl (lv_at hl 0 rfl) ?_
  refine lv_l2i hx hb dX2_draw_26 rfl ?_
  refine istz (n := 624) (j := 1) (ws1 := (mW cI a (upd s 1 ((((((s 1).toInt64) * 1103515245) + 12345) - ((((s 1).toInt64) * 1103515245) + 12345) / 2147483648 * 2147483648).toInt32)) pst np er od rk hs)) B hz 1 rfl (by omega) (by decide) rfl dX2_draw_27 (fun H locs hz => ?_)
  refine lv_aload_n hx hb dX2_draw_28 rfl (lv_at hl 1 rfl) ?_
  refine gz (C := RX2) (T := TX2) (N := 7) (v := .ref (a 1)) B hz hinX2 0 rfl rfl 0 (by decide) lk7 rfl rfl dX2_draw_29 ?_
  refine lv_iconst (v := (nI 1)) hx hb dX2_draw_32 (by decide) ?_
  refine ildz (n := 624) (j := 1) (v := ((upd s 1 ((((((s 1).toInt64) * 1103515245) + 12345) - ((((s 1).toInt64) * 1103515245) + 12345) / 2147483648 * 2147483648).toInt32)) 1)) B hz 1 rfl (by omega) (by decide) rfl dX2_draw_33 ?_
  refine cvt (y := ((((((s 1).toInt64) * 1103515245) + 12345) - ((((s 1).toInt64) * 1103515245) + 12345) / 2147483648 * 2147483648).toInt32)) pk_us ?_
  refine ldcz (v := (nI 65536)) B (by decide +kernel) dX2_draw_34 ?_
  refine lv_idiv hx hb dX2_draw_36 (by decide) ?_
  refine lv_bipush (v := (nI 31)) hx hb dX2_draw_37 (by decide) ?_
  refine lv_irem hx hb dX2_draw_39 (by decide) ?_
  exact rz_i B hr hz dX2_draw_40 (by rw [← fDl_eq hn]; rfl) (by rw [← fDl_eq hn]; rfl)
theorem hd_X2_copyOf : hdZ yX2_copyOf 2 := by decide +kernel
set_option maxRecDepth 100000 in
set_option maxHeartbeats 4000000 in
theorem c_X2_copyOf (l : Launch) (D : va_G) (cI cN : ClassId) (a : Nat → Nat) (s : Sz) (pst : Sz) (np : Nat) (er : Sz) (od : Sz) (rk : Sz) (hs : Int64) (w : Int32) (q : Int32) (hn : fNn s) : Fn l D cI cN yX2_copyOf wsX2_copyOf 1 (mW cI a s pst np er od rk hs) [.ref (a 0), .int w, .int q] (some (.int ((fCp w q 24 s).1))) (mW cI a ((fCp w q 24 s).2) pst np er od rk hs) := by
  refine Fn.of (cc := cX2_copyOf) (nL := 5) (ret := (some .int)) (lv := [(0, .ref (a 0)), (1, .int w), (2, .int q)]) (by decide +kernel) rfl (Nat.le_of_ble_eq_true rfl) rfl ?_
  intro p e s_ m args below meth c A B hr hA H locs ls hz hl
  have hx := B.1.1
  have hb := B.1.2.1
  refine lv_iload_n hx hb dX2_copyOf_0 rfl (lv_at hl 1 rfl) ?_
  refine lv_istore_n (lv' := [(3, .int w), (0, .ref (a 0)), (1, .int w), (2, .int q)]) hx hb dX2_copyOf_1 rfl hl (by decide) rfl (fun ls hl => ?_)
  refine lv_iconst (v := (nI 0)) hx hb dX2_copyOf_2 (by decide) ?_
  refine lv_istore (lv' := [(4, .int (nI 0)), (3, .int w), (0, .ref (a 0)), (1, .int w), (2, .int q)]) hx hb dX2_copyOf_3 hl (by decide) rfl (fun ls hl => ?_)
  have LP : ∀ (n_LP : Nat) (i : Nat), i ≤ 24 → 24 - i < n_LP → ∀ (H : Heap) (locs : List Loc) (ls : Array Slot), Hz D A s_.heap H locs (mW cI a ((fCp w q i s).2) pst np er od rk hs) → lv_has ls 5 [(0, .ref (a 0)), (1, .int w), (2, .int q), (3, .int ((fCp w q i s).1)), (4, .int (nI i))] → Wz p l e 1 s_ m args below meth c D A (some (.int ((fCp w q 24 s).1))) (mW cI a ((fCp w q 24 s).2) pst np er od rk hs) H locs (F0 m 5 ls []) := by
    intro n_LP
    induction n_LP with
    | zero => intro i hi hm; exact absurd hm (Nat.not_lt_zero _)
    | succ n_LP ih_LP =>
      intro i hi hm H locs ls hz hl
      refine lv_iload hx hb dX2_copyOf_5 (lv_at hl 4 rfl) ?_
      refine lv_bipush (v := (nI 24)) hx hb dX2_copyOf_7 (by decide) ?_
      refine ln_icmp_ge (tgt := 42) hx hb dX2_copyOf_9 (by decide) (by constructor <;> omega) (fun c9 => ?_) (fun c9 => ?_)
      · refine lv_iload_n hx hb dX2_copyOf_42 rfl (lv_at hl 3 rfl) ?_
        exact rz_i B hr hz dX2_copyOf_43 (by rw [show i = 24 by omega]) (by rw [show i = 24 by omega])
      · refine lv_iload_n hx hb dX2_copyOf_12 rfl (lv_at hl 3 rfl) ?_
        refine lv_iconst (v := (nI 2)) hx hb dX2_copyOf_13 (by decide) ?_
        refine lv_aload_n hx hb dX2_copyOf_14 rfl (lv_at hl 0 rfl) ?_
        refine cV (C := RX2) (T := TX2) (N := 7) (ci := 2) (q0 := 0) (k := 1) (As := []) (rest := [.int (nI 2), .int ((fCp w q i s).1)]) (v := .int (fDv (fDx (((fCp w q i s).2) 1)))) (ws1 := (mW cI a (upd ((fCp w q i s).2) 1 (fDx (((fCp w q i s).2) 1))) pst np er od rk hs)) B hz hA (c_X2_draw l D cI cN a ((fCp w q i s).2) pst np er od rk hs  (fCp_nn w q i s hn)) gX2_copyOf_X2_draw rfl rfl hd_X2_draw (by decide) rfl rfl rfl hl.1 rfl (Nat.le_of_ble_eq_true rfl) dX2_copyOf_15 (fun H locs hz => ?_)
        refine lv_imul hx hb dX2_copyOf_18 ?_
        refine lv_bipush (v := (nI 30)) hx hb dX2_copyOf_19 (by decide) ?_
        refine lv_iload_n hx hb dX2_copyOf_21 rfl (lv_at hl 2 rfl) ?_
        refine lv_iadd hx hb dX2_copyOf_22 ?_
        refine lv_icmp_le (tgt := 33) hx hb dX2_copyOf_23 (by decide) (fun c23 => ?_) (fun c23 => ?_)
        · refine lv_iconst (v := (nI 0)) hx hb dX2_copyOf_33 (by decide) ?_
          refine lv_ixor hx hb dX2_copyOf_34 ?_
          refine lv_istore_n (lv' := [(3, .int (((fCp w q i s).1) ^^^ (nI 0))), (0, .ref (a 0)), (1, .int w), (2, .int q), (4, .int (nI i))]) hx hb dX2_copyOf_35 rfl hl (by decide) rfl (fun ls hl => ?_)
          refine lv_iinc (v := nI (i + 1)) (lv' := [(4, .int (nI (i + 1))), (3, .int (((fCp w q i s).1) ^^^ (nI 0))), (0, .ref (a 0)), (1, .int w), (2, .int q)]) hx hb dX2_copyOf_36 hl (k := 4) rfl (nI_add i 1) (by decide) rfl (fun ls hl => ?_)
          refine lv_goto (tgt := 5) hx hb dX2_copyOf_39 (by decide) ?_
          exact ih_LP (i + 1) (by omega) (by omega) H locs ls (hz.cast (by rfl)) (lv_cast (lv_sub hl [2, 3, 4, 1, 0] (l' := [(0, .ref (a 0)), (1, .int w), (2, .int q), (3, .int (((fCp w q i s).1) ^^^ (nI 0))), (4, .int (nI (i + 1)))]) rfl) (by first | (simp only [fCp, if_pos c23, xor0]; done) | (simp only [fCp, if_neg c23]; done)))
        · refine lv_iconst (v := (nI 1)) hx hb dX2_copyOf_26 (by decide) ?_
          refine lv_iload hx hb dX2_copyOf_27 (lv_at hl 4 rfl) ?_
          refine lv_ishl hx hb dX2_copyOf_29 ?_
          refine lv_goto (tgt := 34) hx hb dX2_copyOf_30 (by decide) ?_
          refine lv_ixor hx hb dX2_copyOf_34 ?_
          refine lv_istore_n (lv' := [(3, .int (((fCp w q i s).1) ^^^ ((nI 1) <<< ((nI i) &&& 31)))), (0, .ref (a 0)), (1, .int w), (2, .int q), (4, .int (nI i))]) hx hb dX2_copyOf_35 rfl hl (by decide) rfl (fun ls hl => ?_)
          refine lv_iinc (v := nI (i + 1)) (lv' := [(4, .int (nI (i + 1))), (3, .int (((fCp w q i s).1) ^^^ ((nI 1) <<< ((nI i) &&& 31)))), (0, .ref (a 0)), (1, .int w), (2, .int q)]) hx hb dX2_copyOf_36 hl (k := 4) rfl (nI_add i 1) (by decide) rfl (fun ls hl => ?_)
          refine lv_goto (tgt := 5) hx hb dX2_copyOf_39 (by decide) ?_
          exact ih_LP (i + 1) (by omega) (by omega) H locs ls (hz.cast (by rfl)) (lv_cast (lv_sub hl [2, 3, 4, 1, 0] (l' := [(0, .ref (a 0)), (1, .int w), (2, .int q), (3, .int (((fCp w q i s).1) ^^^ ((nI 1) <<< ((nI i) &&& 31)))), (4, .int (nI (i + 1)))]) rfl) (by first | (simp only [fCp, if_pos c23, xor0]; done) | (simp only [fCp, if_neg c23]; done)))
  exact LP _ 0 (by omega) (Nat.lt_succ_self _) H locs ls (hz.cast (by rfl)) (lv_cast (lv_sub hl [2, 3, 4, 1, 0] (l' := [(0, .ref (a 0)), (1, .int w), (2, .int q), (3, .int w), (4, .int (nI 0))]) rfl) (by rfl))
theorem hd_X0_drawNoise : hdZ yX0_drawNoise 0 := by decide +kernel
set_option maxRecDepth 100000 in
set_option maxHeartbeats 4000000 in
theorem c_X0_drawNoise (l : Launch) (D : va_G) (cI cN : ClassId) (a : Nat → Nat) (s : Sz) (rk : Sz) : Fn l D cI cN yX0_drawNoise wsX0_drawNoise 0 (nW cI a s rk) [.ref (a 0)] (some (.int (fDv (fDx (s 1))))) (nW cI a (upd s 1 (fDx (s 1))) rk) := by
  refine Fn.of (cc := cX0_drawNoise) (nL := 1) (ret := (some .int)) (lv := [(0, .ref (a 0))]) (by decide +kernel) rfl (Nat.le_of_ble_eq_true rfl) rfl ?_
  intro p e s_ m args below meth c A B hr hA H locs ls hz hl
  have hx := B.1.1
  have hb := B.1.2.1
  have hinX0 : ∀ w ∈ u_ws RX0 TX0 16, w ∈ wsX0_drawNoise := by decide +kernel
  have lk15 : Cond.fieldLink yX0_drawNoise.cls 15 RX0 (TX0 2).2.1 (TX0 2).2.2.1 ∈ wsX0_drawNoise := by decide +kernel
  refine lv_aload_n hx hb dX0_drawNoise_0 rfl (lv_at hl 0 rfl) ?_
  refine lv_aload_n hx hb dX0_drawNoise_1 rfl (lv_at hl 0 rfl) ?_
  refine gz (C := RX0) (T := TX0) (N := 16) (v := .int (s 1)) B hz hinX0 0 rfl rfl 2 (by decide) lk15 rfl rfl dX0_drawNoise_2 ?_
  refine ldcz (v := (nI 1103515245)) B (by decide +kernel) dX0_drawNoise_5 ?_
  refine lv_imul hx hb dX0_drawNoise_7 ?_
  refine lv_sipush (v := (nI 12345)) hx hb dX0_drawNoise_8 (by decide) ?_
  refine lv_iadd hx hb dX0_drawNoise_11 ?_
  refine ldcz (v := (nI 2147483647)) B (by decide +kernel) dX0_drawNoise_12 ?_
  refine lv_iand hx hb dX0_drawNoise_14 ?_
  refine pz (C := RX0) (T := TX0) (N := 16) (ty := .int) (ws1 := (nW cI a (upd s 1 ((((s 1) * (nI 1103515245)) + (nI 12345)) &&& (nI 2147483647))) rk)) B hz hinX0 tyX0_ok nmX0 0 rfl rfl 2 (by decide) lk15 rfl rfl (by decide +kernel) rfl rfl (Nat.le_of_ble_eq_true rfl) (nW_f2 cI a _ _ _) dX0_drawNoise_15 (fun H locs hz => ?_)
  refine lv_aload_n hx hb dX0_drawNoise_18 rfl (lv_at hl 0 rfl) ?_
  refine gz (C := RX0) (T := TX0) (N := 16) (v := .int ((upd s 1 ((((s 1) * (nI 1103515245)) + (nI 12345)) &&& (nI 2147483647))) 1)) B hz hinX0 0 rfl rfl 2 (by decide) lk15 rfl rfl dX0_drawNoise_19 ?_
  refine cvt (y := ((((s 1) * (nI 1103515245)) + (nI 12345)) &&& (nI 2147483647))) pk_us ?_
  refine ldcz (v := (nI 65536)) B (by decide +kernel) dX0_drawNoise_22 ?_
  refine lv_idiv hx hb dX0_drawNoise_24 (by decide) ?_
  refine lv_bipush (v := (nI 31)) hx hb dX0_drawNoise_25 (by decide) ?_
  refine lv_irem hx hb dX0_drawNoise_27 (by decide) ?_
  exact rz_i B hr hz dX0_drawNoise_28 (by rfl) (by rfl)
theorem hd_X0_receiveCopy : hdZ yX0_receiveCopy 2 := by decide +kernel
set_option maxRecDepth 100000 in
set_option maxHeartbeats 4000000 in
theorem c_X0_receiveCopy (l : Launch) (D : va_G) (cI cN : ClassId) (a : Nat → Nat) (s : Sz) (rk : Sz) (w : Int32) (q : Int32) : Fn l D cI cN yX0_receiveCopy wsX0_receiveCopy 1 (nW cI a s rk) [.ref (a 0), .int w, .int q] (some (.int ((fCp w q 24 s).1))) (nW cI a ((fCp w q 24 s).2) rk) := by
  refine Fn.of (cc := cX0_receiveCopy) (nL := 5) (ret := (some .int)) (lv := [(0, .ref (a 0)), (1, .int w), (2, .int q)]) (by decide +kernel) rfl (Nat.le_of_ble_eq_true rfl) rfl ?_
  intro p e s_ m args below meth c A B hr hA H locs ls hz hl
  have hx := B.1.1
  have hb := B.1.2.1
  refine lv_iload_n hx hb dX0_receiveCopy_0 rfl (lv_at hl 1 rfl) ?_
  refine lv_istore_n (lv' := [(3, .int w), (0, .ref (a 0)), (1, .int w), (2, .int q)]) hx hb dX0_receiveCopy_1 rfl hl (by decide) rfl (fun ls hl => ?_)
  refine lv_iconst (v := (nI 0)) hx hb dX0_receiveCopy_2 (by decide) ?_
  refine lv_istore (lv' := [(4, .int (nI 0)), (3, .int w), (0, .ref (a 0)), (1, .int w), (2, .int q)]) hx hb dX0_receiveCopy_3 hl (by decide) rfl (fun ls hl => ?_)
  have LP : ∀ (n_LP : Nat) (i : Nat), i ≤ 24 → 24 - i < n_LP → ∀ (H : Heap) (locs : List Loc) (ls : Array Slot), Hz D A s_.heap H locs (nW cI a ((fCp w q i s).2) rk) → lv_has ls 5 [(0, .ref (a 0)), (1, .int w), (2, .int q), (3, .int ((fCp w q i s).1)), (4, .int (nI i))] → Wz p l e 1 s_ m args below meth c D A (some (.int ((fCp w q 24 s).1))) (nW cI a ((fCp w q 24 s).2) rk) H locs (F0 m 5 ls []) := by
    intro n_LP
    induction n_LP with
    | zero => intro i hi hm; exact absurd hm (Nat.not_lt_zero _)
    | succ n_LP ih_LP =>
      intro i hi hm H locs ls hz hl
      refine lv_iload hx hb dX0_receiveCopy_5 (lv_at hl 4 rfl) ?_
      refine lv_bipush (v := (nI 24)) hx hb dX0_receiveCopy_7 (by decide) ?_
      refine ln_icmp_ge (tgt := 38) hx hb dX0_receiveCopy_9 (by decide) (by constructor <;> omega) (fun c9 => ?_) (fun c9 => ?_)
      · refine lv_iload_n hx hb dX0_receiveCopy_38 rfl (lv_at hl 3 rfl) ?_
        exact rz_i B hr hz dX0_receiveCopy_39 (by rw [show i = 24 by omega]) (by rw [show i = 24 by omega])
      · refine lv_iconst (v := (nI 2)) hx hb dX0_receiveCopy_12 (by decide) ?_
        refine lv_aload_n hx hb dX0_receiveCopy_13 rfl (lv_at hl 0 rfl) ?_
        refine cV (C := RX0) (T := TX0) (N := 16) (ci := 0) (q0 := 0) (k := 1) (As := []) (rest := [.int (nI 2)]) (v := .int (fDv (fDx (((fCp w q i s).2) 1)))) (ws1 := (nW cI a (upd ((fCp w q i s).2) 1 (fDx (((fCp w q i s).2) 1))) rk)) B hz hA (c_X0_drawNoise l D cI cN a ((fCp w q i s).2) rk  ) gX0_receiveCopy_X0_drawNoise rfl rfl hd_X0_drawNoise (by decide) rfl rfl rfl hl.1 rfl (Nat.le_of_ble_eq_true rfl) dX0_receiveCopy_14 (fun H locs hz => ?_)
        refine lv_imul hx hb dX0_receiveCopy_17 ?_
        refine lv_bipush (v := (nI 30)) hx hb dX0_receiveCopy_18 (by decide) ?_
        refine lv_iload_n hx hb dX0_receiveCopy_20 rfl (lv_at hl 2 rfl) ?_
        refine lv_iadd hx hb dX0_receiveCopy_21 ?_
        refine lv_icmp_le (tgt := 32) hx hb dX0_receiveCopy_22 (by decide) (fun c22 => ?_) (fun c22 => ?_)
        · refine lv_iinc (v := nI (i + 1)) (lv' := [(4, .int (nI (i + 1))), (0, .ref (a 0)), (1, .int w), (2, .int q), (3, .int ((fCp w q i s).1))]) hx hb dX0_receiveCopy_32 hl (k := 4) rfl (nI_add i 1) (by decide) rfl (fun ls hl => ?_)
          refine lv_goto (tgt := 5) hx hb dX0_receiveCopy_35 (by decide) ?_
          exact ih_LP (i + 1) (by omega) (by omega) H locs ls (hz.cast (by rfl)) (lv_cast (lv_sub hl [1, 2, 3, 4, 0] (l' := [(0, .ref (a 0)), (1, .int w), (2, .int q), (3, .int ((fCp w q i s).1)), (4, .int (nI (i + 1)))]) rfl) (by first | (simp only [fCp, if_pos c22, xor0]; done) | (simp only [fCp, if_neg c22]; done)))
        · refine lv_iload_n hx hb dX0_receiveCopy_25 rfl (lv_at hl 3 rfl) ?_
          refine lv_iconst (v := (nI 1)) hx hb dX0_receiveCopy_26 (by decide) ?_
          refine lv_iload hx hb dX0_receiveCopy_27 (lv_at hl 4 rfl) ?_
          refine lv_ishl hx hb dX0_receiveCopy_29 ?_
          refine lv_ixor hx hb dX0_receiveCopy_30 ?_
          refine lv_istore_n (lv' := [(3, .int (((fCp w q i s).1) ^^^ ((nI 1) <<< ((nI i) &&& 31)))), (0, .ref (a 0)), (1, .int w), (2, .int q), (4, .int (nI i))]) hx hb dX0_receiveCopy_31 rfl hl (by decide) rfl (fun ls hl => ?_)
          refine lv_iinc (v := nI (i + 1)) (lv' := [(4, .int (nI (i + 1))), (3, .int (((fCp w q i s).1) ^^^ ((nI 1) <<< ((nI i) &&& 31)))), (0, .ref (a 0)), (1, .int w), (2, .int q)]) hx hb dX0_receiveCopy_32 hl (k := 4) rfl (nI_add i 1) (by decide) rfl (fun ls hl => ?_)
          refine lv_goto (tgt := 5) hx hb dX0_receiveCopy_35 (by decide) ?_
          exact ih_LP (i + 1) (by omega) (by omega) H locs ls (hz.cast (by rfl)) (lv_cast (lv_sub hl [2, 3, 4, 1, 0] (l' := [(0, .ref (a 0)), (1, .int w), (2, .int q), (3, .int (((fCp w q i s).1) ^^^ ((nI 1) <<< ((nI i) &&& 31)))), (4, .int (nI (i + 1)))]) rfl) (by first | (simp only [fCp, if_pos c22, xor0]; done) | (simp only [fCp, if_neg c22]; done)))
  exact LP _ 0 (by omega) (Nat.lt_succ_self _) H locs ls (hz.cast (by rfl)) (lv_cast (lv_sub hl [2, 3, 4, 1, 0] (l' := [(0, .ref (a 0)), (1, .int w), (2, .int q), (3, .int w), (4, .int (nI 0))]) rfl) (by rfl))
