def fRb (f t : Nat) (s rk : Sz) : Sz := fRk (nI 1 <<< (nI t &&& 31)) f s rk 8
theorem fCx_0 {a b : Nat} {rk : Sz} {n t : Nat} {s : Sz} (h : n = 0 ∨ t = 0) : fCx a b rk n t s = (-1, s) := by
  cases n with
  | zero => rfl
  | succ n =>
    rcases h with h | h
    · cases h
    · simp only [fCx, h, if_true]
theorem fCx_t {a b : Nat} {rk : Sz} {n t : Nat} {s : Sz} (hn : 0 < n) (h0 : ¬ t = 0) (h : (fAm a b (frn rk t) (fC1 (frn rk t) s)).1 = true) : fCx a b rk n t s = (nI (frn rk t), fJn (bit2 a b) (nI (frn rk t)) (fAm a b (frn rk t) (fC1 (frn rk t) s)).2 5) := by
  obtain ⟨k, rfl⟩ : ∃ k, n = k + 1 := ⟨n - 1, by omega⟩
  simp only [fCx, if_neg h0, h, if_true]
theorem fCx_f {a b : Nat} {rk : Sz} {n t : Nat} {s : Sz} (hn : 0 < n) (h0 : ¬ t = 0) (h : (fAm a b (frn rk t) (fC1 (frn rk t) s)).1 = false) : fCx a b rk n t s = fCx a b rk (n - 1) (clr t (frn rk t)) (fAm a b (frn rk t) (fC1 (frn rk t) s)).2 := by
  obtain ⟨k, rfl⟩ : ∃ k, n = k + 1 := ⟨n - 1, by omega⟩
  simp [fCx, h0, h]
theorem fLk_am {a b c d k : Nat} {s : Sz} (hk : k < 5) : fLk (fAm a b c (fC1 d s)).2 k = fLk s k := fLk_of (by rw [fAm_out (by omega), fC1_out (by omega)])
theorem IvS_am {a b c d : Nat} {s : Sz} (h : IvS s) : IvS (fAm a b c (fC1 d s)).2 := IvS_of h (fun k hk => by rw [fAm_out (by omega), fC1_out (by omega)])
theorem fNt_0 {a ch : Nat} {ms : Int32} {s : Sz} (h : (fNc a ch ms s).1 = 0) : (fNt a ch ms s).2 = (fNc a ch ms s).2 := if_pos h
theorem fNt_1 {a ch : Nat} {ms : Int32} {s : Sz} (h : ¬ (fNc a ch ms s).1 = 0) : (fNt a ch ms s).2 = fJn ((fNc a ch ms s).1 ||| (nI 1 <<< (nI a &&& 31))) (nI ch) (fNc a ch ms s).2 5 := if_neg h
theorem hd_X0_emitSounding : hdZ yX0_emitSounding 2 := by decide +kernel
set_option maxRecDepth 100000 in
set_option maxHeartbeats 4000000 in
theorem c_X0_emitSounding (l : Launch) (D : va_G) (cI cN : ClassId) (a : Nat → Nat) (s : Sz) (rk : Sz) (k : Nat) (ch : Nat) (hk : k < 5) (hc : ch < 8) (hI : IvS s) : Fn l D cI cN yX0_emitSounding wsX0_emitSounding 3 (nW cI a s rk) [.ref (a 0), .int (nI k), .int (nI ch)] (some (.int ((fSo k ch (fS0 s) 5).1))) (nW cI a ((fSo k ch (fS0 s) 5).2) rk) := by
  refine Fn.of (cc := cX0_emitSounding) (nL := 5) (ret := (some .int)) (lv := [(0, .ref (a 0)), (1, .int (nI k)), (2, .int (nI ch))]) (by decide +kernel) rfl (Nat.le_of_ble_eq_true rfl) rfl ?_
  intro p e s_ m args below meth c A B hr hA H locs ls hz hl
  have hx := B.1.1
  have hb := B.1.2.1
  have hinX0 : ∀ w ∈ u_ws RX0 TX0 16, w ∈ wsX0_emitSounding := by decide +kernel
  have lk55 : Cond.fieldLink yX0_emitSounding.cls 55 RX0 (TX0 0).2.1 (TX0 0).2.2.1 ∈ wsX0_emitSounding := by decide +kernel
  refine lv_aload_n hx hb dX0_emitSounding_0 rfl (lv_at hl 0 rfl) ?_
  refine lv_dup hx hb dX0_emitSounding_1 rfl ?_
  refine gz (C := RX0) (T := TX0) (N := 16) (v := .int (s 0)) B hz hinX0 0 rfl rfl 0 (by decide) lk55 rfl rfl dX0_emitSounding_2 ?_
  refine lv_aload_n hx hb dX0_emitSounding_5 rfl (lv_at hl 0 rfl) ?_
  refine lv_bipush (v := (nI 31)) hx hb dX0_emitSounding_6 (by decide) ?_
  refine cV (C := RX0) (T := TX0) (N := 16) (ci := 0) (q0 := 0) (k := 3) (As := [.int (nI 31)]) (rest := [.int (s 0), .ref (a 0)]) (v := .int (nI (fMo (nI 31) s 5))) (ws1 := (nW cI a s rk)) B hz hA (c_X0_longestScan l D cI cN a s rk (nI 31) (hI)) gX0_emitSounding_X0_longestScan rfl rfl hd_X0_longestScan (by decide) rfl rfl rfl hl.1 rfl (Nat.le_of_ble_eq_true rfl) dX0_emitSounding_8 (fun H locs hz => ?_)
  refine lv_iadd hx hb dX0_emitSounding_11 ?_
  refine pz (C := RX0) (T := TX0) (N := 16) (ty := .int) (ws1 := (nW cI a (upd s 0 ((s 0) + (nI (fMo (nI 31) s 5)))) rk)) B hz hinX0 tyX0_ok nmX0 0 rfl rfl 0 (by decide) lk55 rfl rfl (by decide +kernel) rfl rfl (Nat.le_of_ble_eq_true rfl) (nW_f0 cI a _ _ _) dX0_emitSounding_12 (fun H locs hz => ?_)
  refine lv_iconst (v := (nI 0)) hx hb dX0_emitSounding_15 (by decide) ?_
  refine lv_istore_n (lv' := [(3, .int (nI 0)), (0, .ref (a 0)), (1, .int (nI k)), (2, .int (nI ch))]) hx hb dX0_emitSounding_16 rfl hl (by decide) rfl (fun ls hl => ?_)
  refine lv_iconst (v := (nI 0)) hx hb dX0_emitSounding_17 (by decide) ?_
  refine lv_istore (lv' := [(4, .int (nI 0)), (3, .int (nI 0)), (0, .ref (a 0)), (1, .int (nI k)), (2, .int (nI ch))]) hx hb dX0_emitSounding_18 hl (by decide) rfl (fun ls hl => ?_)
  have LP20 : ∀ (n_LP20 : Nat) (i : Nat), (i ≤ 5) → 5 - i < n_LP20 → ∀ (H : Heap) (locs : List Loc) (ls : Array Slot), Hz D A s_.heap H locs (nW cI a ((fSo k ch (fS0 s) i).2) rk) → lv_has ls 5 [(0, .ref (a 0)), (1, .int (nI k)), (2, .int (nI ch)), (3, .int ((fSo k ch (fS0 s) i).1)), (4, .int (nI i))] → Wz p l e 3 s_ m args below meth c D A (some (.int ((fSo k ch (fS0 s) 5).1))) (nW cI a ((fSo k ch (fS0 s) 5).2) rk) H locs (F0 m 20 ls []) := by
    intro n_LP20
    induction n_LP20 with
    | zero => intro i hi hm; exact absurd hm (Nat.not_lt_zero _)
    | succ n_LP20 ih_LP20 =>
      intro i hi hm H locs ls hz hl
      refine lv_iload hx hb dX0_emitSounding_20 (lv_at hl 4 rfl) ?_
      refine lv_iconst (v := (nI 5)) hx hb dX0_emitSounding_22 (by decide) ?_
      refine ln_icmp_ge (tgt := 70) hx hb dX0_emitSounding_23 (by decide) (by constructor <;> omega) (fun c23 => ?_) (fun c23 => ?_)
      · refine lv_iload_n hx hb dX0_emitSounding_70 rfl (lv_at hl 3 rfl) ?_
        exact rz_i B hr hz dX0_emitSounding_71 (by rw [show i = 5 by omega]) (by rw [show i = 5 by omega])
      · refine lv_iload hx hb dX0_emitSounding_26 (lv_at hl 4 rfl) ?_
        refine lv_iload_n hx hb dX0_emitSounding_28 rfl (lv_at hl 1 rfl) ?_
        refine ln_icmp_eq (tgt := 64) hx hb dX0_emitSounding_29 (by decide) (by constructor <;> omega) (fun c29 => ?_) (fun c29 => ?_)
        · refine lv_iinc (v := nI (i + 1)) (lv' := [(4, .int (nI (i + 1))), (0, .ref (a 0)), (1, .int (nI k)), (2, .int (nI ch)), (3, .int ((fSo k ch (fS0 s) i).1))]) hx hb dX0_emitSounding_64 hl (k := 4) rfl (nI_add i 1) (by decide) rfl (fun ls hl => ?_)
          refine lv_goto (tgt := 20) hx hb dX0_emitSounding_67 (by decide) ?_
          exact ih_LP20 (i + 1) (by omega) (by omega) H locs ls (hz.cast (by first | (simp [fSo, c29]; done) | (simp [fSo, c29, c39]; done) | (simp [fSo, c29, c39, c54]; done))) (lv_cast (lv_sub hl [1, 2, 3, 4, 0] (l' := [(0, .ref (a 0)), (1, .int (nI k)), (2, .int (nI ch)), (3, .int ((fSo k ch (fS0 s) i).1)), (4, .int (nI (i + 1)))]) rfl) (by first | (simp [fSo, c29]; done) | (simp [fSo, c29, c39]; done) | (simp [fSo, c29, c39, c54]; done)))
        · refine lv_aload_n hx hb dX0_emitSounding_32 rfl (lv_at hl 0 rfl) ?_
          refine lv_iload hx hb dX0_emitSounding_33 (lv_at hl 4 rfl) ?_
          refine lv_iload_n hx hb dX0_emitSounding_35 rfl (lv_at hl 2 rfl) ?_
          refine cV (C := RX0) (T := TX0) (N := 16) (ci := 0) (q0 := 0) (k := 3) (As := [.int (nI i), .int (nI ch)]) (rest := []) (v := .int (b2i (fHe ((fSo k ch (fS0 s) i).2) i ch))) (ws1 := (nW cI a ((fSo k ch (fS0 s) i).2) rk)) B hz hA (c_X0_hears l D cI cN a ((fSo k ch (fS0 s) i).2) rk i ch (by omega)) gX0_emitSounding_X0_hears rfl rfl hd_X0_hears (by decide) rfl rfl rfl hl.1 rfl (Nat.le_of_ble_eq_true rfl) dX0_emitSounding_36 (fun H locs hz => ?_)
          refine lb_if_eq (tgt := 64) hx hb dX0_emitSounding_39 (by decide) (fun c39 => ?_) (fun c39 => ?_)
          · refine lv_iinc (v := nI (i + 1)) (lv' := [(4, .int (nI (i + 1))), (0, .ref (a 0)), (1, .int (nI k)), (2, .int (nI ch)), (3, .int ((fSo k ch (fS0 s) i).1))]) hx hb dX0_emitSounding_64 hl (k := 4) rfl (nI_add i 1) (by decide) rfl (fun ls hl => ?_)
            refine lv_goto (tgt := 20) hx hb dX0_emitSounding_67 (by decide) ?_
            exact ih_LP20 (i + 1) (by omega) (by omega) H locs ls (hz.cast (by first | (simp [fSo, c29]; done) | (simp [fSo, c29, c39]; done) | (simp [fSo, c29, c39, c54]; done))) (lv_cast (lv_sub hl [1, 2, 3, 4, 0] (l' := [(0, .ref (a 0)), (1, .int (nI k)), (2, .int (nI ch)), (3, .int ((fSo k ch (fS0 s) i).1)), (4, .int (nI (i + 1)))]) rfl) (by first | (simp [fSo, c29]; done) | (simp [fSo, c29, c39]; done) | (simp [fSo, c29, c39, c54]; done)))
          · refine lv_aload_n hx hb dX0_emitSounding_42 rfl (lv_at hl 0 rfl) ?_
            refine lv_iconst (v := (nI 1)) hx hb dX0_emitSounding_43 (by decide) ?_
            refine lv_iload_n hx hb dX0_emitSounding_44 rfl (lv_at hl 1 rfl) ?_
            refine lv_iload hx hb dX0_emitSounding_45 (lv_at hl 4 rfl) ?_
            refine lv_sipush (v := (nI 255)) hx hb dX0_emitSounding_47 (by decide) ?_
            refine lv_iload_n hx hb dX0_emitSounding_50 rfl (lv_at hl 2 rfl) ?_
            refine cV (C := RX0) (T := TX0) (N := 16) (ci := 0) (q0 := 0) (k := 3) (As := [.int (nI 1), .int (nI k), .int (nI i), .int (nI 255), .int (nI ch)]) (rest := []) (v := .int (b2i ((fTr 1 k i 255 ch ((fSo k ch (fS0 s) i).2)).1))) (ws1 := (nW cI a ((fTr 1 k i 255 ch ((fSo k ch (fS0 s) i).2)).2) rk)) B hz hA (c_X0_transmit l D cI cN a ((fSo k ch (fS0 s) i).2) rk 1 k i 255 ch (hk) (by omega) (hc)) gX0_emitSounding_X0_transmit rfl rfl hd_X0_transmit (by decide) rfl rfl rfl hl.1 rfl (Nat.le_of_ble_eq_true rfl) dX0_emitSounding_51 (fun H locs hz => ?_)
            refine lb_if_eq (tgt := 64) hx hb dX0_emitSounding_54 (by decide) (fun c54 => ?_) (fun c54 => ?_)
            · refine lv_iinc (v := nI (i + 1)) (lv' := [(4, .int (nI (i + 1))), (0, .ref (a 0)), (1, .int (nI k)), (2, .int (nI ch)), (3, .int ((fSo k ch (fS0 s) i).1))]) hx hb dX0_emitSounding_64 hl (k := 4) rfl (nI_add i 1) (by decide) rfl (fun ls hl => ?_)
              refine lv_goto (tgt := 20) hx hb dX0_emitSounding_67 (by decide) ?_
              exact ih_LP20 (i + 1) (by omega) (by omega) H locs ls (hz.cast (by first | (simp [fSo, c29]; done) | (simp [fSo, c29, c39]; done) | (simp [fSo, c29, c39, c54]; done))) (lv_cast (lv_sub hl [1, 2, 3, 4, 0] (l' := [(0, .ref (a 0)), (1, .int (nI k)), (2, .int (nI ch)), (3, .int ((fSo k ch (fS0 s) i).1)), (4, .int (nI (i + 1)))]) rfl) (by first | (simp [fSo, c29]; done) | (simp [fSo, c29, c39]; done) | (simp [fSo, c29, c39, c54]; done)))
            · refine lv_iload_n hx hb dX0_emitSounding_57 rfl (lv_at hl 3 rfl) ?_
              refine lv_iconst (v := (nI 1)) hx hb dX0_emitSounding_58 (by decide) ?_
              refine lv_iload hx hb dX0_emitSounding_59 (lv_at hl 4 rfl) ?_
              refine lv_ishl hx hb dX0_emitSounding_61 ?_
              refine lv_ior hx hb dX0_emitSounding_62 ?_
              refine lv_istore_n (lv' := [(3, .int (((fSo k ch (fS0 s) i).1) ||| ((nI 1) <<< ((nI i) &&& 31)))), (0, .ref (a 0)), (1, .int (nI k)), (2, .int (nI ch)), (4, .int (nI i))]) hx hb dX0_emitSounding_63 rfl hl (by decide) rfl (fun ls hl => ?_)
              refine lv_iinc (v := nI (i + 1)) (lv' := [(4, .int (nI (i + 1))), (3, .int (((fSo k ch (fS0 s) i).1) ||| ((nI 1) <<< ((nI i) &&& 31)))), (0, .ref (a 0)), (1, .int (nI k)), (2, .int (nI ch))]) hx hb dX0_emitSounding_64 hl (k := 4) rfl (nI_add i 1) (by decide) rfl (fun ls hl => ?_)
              refine lv_goto (tgt := 20) hx hb dX0_emitSounding_67 (by decide) ?_
              exact ih_LP20 (i + 1) (by omega) (by omega) H locs ls (hz.cast (by first | (simp [fSo, c29]; done) | (simp [fSo, c29, c39]; done) | (simp [fSo, c29, c39, c54]; done))) (lv_cast (lv_sub hl [2, 3, 4, 1, 0] (l' := [(0, .ref (a 0)), (1, .int (nI k)), (2, .int (nI ch)), (3, .int (((fSo k ch (fS0 s) i).1) ||| ((nI 1) <<< ((nI i) &&& 31)))), (4, .int (nI (i + 1)))]) rfl) (by first | (simp [fSo, c29]; done) | (simp [fSo, c29, c39]; done) | (simp [fSo, c29, c39, c54]; done)))
  exact LP20 _ 0 (by omega) (Nat.lt_succ_self _) H locs ls (hz.cast (by rfl)) (lv_cast (lv_sub hl [2, 3, 4, 1, 0] (l' := [(0, .ref (a 0)), (1, .int (nI k)), (2, .int (nI ch)), (3, .int (nI 0)), (4, .int (nI 0))]) rfl) (by rfl))
theorem hd_X0_callOne : hdZ yX0_callOne 2 := by decide +kernel
set_option maxRecDepth 100000 in
set_option maxHeartbeats 4000000 in
theorem c_X0_callOne (l : Launch) (D : va_G) (cI cN : ClassId) (a : Nat → Nat) (s : Sz) (rk : Sz) (f : Nat) (t : Nat) (hf : f < 5) (ht : t < 5) (hI : IvS s) (hv : IvA s) (hlk : fLk s t = false) : Fn l D cI cN yX0_callOne wsX0_callOne 4 (nW cI a s rk) [.ref (a 0), .int (nI f), .int (nI t)] (some (.int ((fCx f t (fRb f t s rk) 8 (scn s f) (upd s 5 (nI 0))).1))) (nW cI a ((fCx f t (fRb f t s rk) 8 (scn s f) (upd s 5 (nI 0))).2) (fRb f t s rk)) := by
  refine Fn.of (cc := cX0_callOne) (nL := 6) (ret := (some .int)) (lv := [(0, .ref (a 0)), (1, .int (nI f)), (2, .int (nI t))]) (by decide +kernel) rfl (Nat.le_of_ble_eq_true rfl) rfl ?_
  intro p e s_ m args below meth c A B hr hA H locs ls hz hl
  have hx := B.1.1
  have hb := B.1.2.1
  have hinX0 : ∀ w ∈ u_ws RX0 TX0 16, w ∈ wsX0_callOne := by decide +kernel
  have lk18 : Cond.fieldLink yX0_callOne.cls 18 RX0 (TX0 6).2.1 (TX0 6).2.2.1 ∈ wsX0_callOne := by decide +kernel
  have lk27 : Cond.fieldLink yX0_callOne.cls 27 RX0 (TX0 9).2.1 (TX0 9).2.2.1 ∈ wsX0_callOne := by decide +kernel
  have lk64 : Cond.fieldLink yX0_callOne.cls 64 RX0 (TX0 5).2.1 (TX0 5).2.2.1 ∈ wsX0_callOne := by decide +kernel
  refine lv_aload_n hx hb dX0_callOne_0 rfl (lv_at hl 0 rfl) ?_
  refine lv_iload_n hx hb dX0_callOne_1 rfl (lv_at hl 1 rfl) ?_
  refine lv_iconst (v := (nI 1)) hx hb dX0_callOne_2 (by decide) ?_
  refine lv_iload_n hx hb dX0_callOne_3 rfl (lv_at hl 2 rfl) ?_
  refine lv_ishl hx hb dX0_callOne_4 ?_
  refine cVv (C := RX0) (T := TX0) (N := 16) (ci := 0) (q0 := 0) (k := 4) (As := [.int (nI f), .int ((nI 1) <<< ((nI t) &&& 31))]) (rest := []) (ws1 := (nW cI a s (fRk ((nI 1) <<< ((nI t) &&& 31)) f s rk 8))) B hz hA (c_X0_rankChannels l D cI cN a s rk f ((nI 1) <<< ((nI t) &&& 31)) (hf) (hv)) gX0_callOne_X0_rankChannels rfl rfl hd_X0_rankChannels (by decide) rfl rfl rfl hl.1 rfl (Nat.le_of_ble_eq_true rfl) dX0_callOne_5 (fun H locs hz => ?_)
  refine lv_aload_n hx hb dX0_callOne_8 rfl (lv_at hl 0 rfl) ?_
  refine lv_iconst (v := (nI 0)) hx hb dX0_callOne_9 (by decide) ?_
  refine pz (C := RX0) (T := TX0) (N := 16) (ty := .int) (ws1 := (nW cI a (upd s 5 (nI 0)) (fRk ((nI 1) <<< ((nI t) &&& 31)) f s rk 8))) B hz hinX0 tyX0_ok nmX0 0 rfl rfl 5 (by decide) lk64 rfl rfl (by decide +kernel) rfl rfl (Nat.le_of_ble_eq_true rfl) (nW_f5 cI a _ _ _) dX0_callOne_10 (fun H locs hz => ?_)
  refine lv_aload_n hx hb dX0_callOne_13 rfl (lv_at hl 0 rfl) ?_
  refine gz (C := RX0) (T := TX0) (N := 16) (v := .ref (a 1)) B hz hinX0 0 rfl rfl 9 (by decide) lk27 rfl rfl dX0_callOne_14 ?_
  refine lv_iload_n hx hb dX0_callOne_17 rfl (lv_at hl 1 rfl) ?_
  refine ildz (n := 5) (j := f) (v := ((upd s 5 (nI 0)) (9 + f))) B hz 1 rfl (by omega) (by decide) (seg_at (by omega)) dX0_callOne_18 ?_
  refine cvt (y := (s (9 + f))) (pk_un (by omega)) ?_
  refine cvt (y := nI (scn s f)) ((show IvS s by assumption) f (by omega)).2.2 ?_
  refine lv_istore_n (lv' := [(3, .int (nI (scn s f))), (0, .ref (a 0)), (1, .int (nI f)), (2, .int (nI t))]) hx hb dX0_callOne_19 rfl hl (by decide) rfl (fun ls hl => ?_)
  refine lv_iconst (v := (nI 0)) hx hb dX0_callOne_20 (by decide) ?_
  refine lv_istore (lv' := [(4, .int (nI 0)), (3, .int (nI (scn s f))), (0, .ref (a 0)), (1, .int (nI f)), (2, .int (nI t))]) hx hb dX0_callOne_21 hl (by decide) rfl (fun ls hl => ?_)
  have LP : ∀ (n_LP : Nat) (i : Nat) (tt : Nat) (S : Sz), (i ≤ 8) → (tt < 256) → (IvS S) → (fLk S t = false) → (fCx f t (fRb f t s rk) (8 - i) tt S = fCx f t (fRb f t s rk) 8 (scn s f) (upd s 5 (nI 0))) → 8 - i < n_LP → ∀ (H : Heap) (locs : List Loc) (ls : Array Slot), Hz D A s_.heap H locs (nW cI a S (fRb f t s rk)) → lv_has ls 6 [(0, .ref (a 0)), (1, .int (nI f)), (2, .int (nI t)), (3, .int (nI tt)), (4, .int (nI i))] → Wz p l e 4 s_ m args below meth c D A (some (.int ((fCx f t (fRb f t s rk) 8 (scn s f) (upd s 5 (nI 0))).1))) (nW cI a ((fCx f t (fRb f t s rk) 8 (scn s f) (upd s 5 (nI 0))).2) (fRb f t s rk)) H locs (F0 m 23 ls []) := by
    intro n_LP
    induction n_LP with
    | zero => intro i tt S hi htt hIS hLS hR hm; exact absurd hm (Nat.not_lt_zero _)
    | succ n_LP ih_LP =>
      intro i tt S hi htt hIS hLS hR hm H locs ls hz hl
      refine lv_iload hx hb dX0_callOne_23 (lv_at hl 4 rfl) ?_
      refine lv_bipush (v := (nI 8)) hx hb dX0_callOne_25 (by decide) ?_
      refine ln_icmp_ge (tgt := 99) hx hb dX0_callOne_27 (by decide) (by constructor <;> omega) (fun c27 => ?_) (fun c27 => ?_)
      · refine lv_iconst (v := (-1)) hx hb dX0_callOne_99 (by decide) ?_
        exact rz_i B hr hz dX0_callOne_100 (by rw [← hR, fCx_0 (by first | exact Or.inr c31 | exact Or.inl (by omega))]) (by first | (rw [← hR, fCx_0 (by first | exact Or.inr c31 | exact Or.inl (by omega))]; done) | (rw [← hR, fCx_t (by omega) c31 c74]; rfl))
      · refine lv_iload_n hx hb dX0_callOne_30 rfl (lv_at hl 3 rfl) ?_
        refine ln_if_eq (tgt := 99) hx hb dX0_callOne_31 (by decide) (by omega) (fun c31 => ?_) (fun c31 => ?_)
        · refine lv_iconst (v := (-1)) hx hb dX0_callOne_99 (by decide) ?_
          exact rz_i B hr hz dX0_callOne_100 (by rw [← hR, fCx_0 (by first | exact Or.inr c31 | exact Or.inl (by omega))]) (by first | (rw [← hR, fCx_0 (by first | exact Or.inr c31 | exact Or.inl (by omega))]; done) | (rw [← hR, fCx_t (by omega) c31 c74]; rfl))
        · refine lv_aload_n hx hb dX0_callOne_34 rfl (lv_at hl 0 rfl) ?_
          refine lv_iload_n hx hb dX0_callOne_35 rfl (lv_at hl 3 rfl) ?_
          refine cV (C := RX0) (T := TX0) (N := 16) (ci := 0) (q0 := 0) (k := 4) (As := [.int (nI tt)]) (rest := []) (v := .int (oI (fFr (fRb f t s rk) (nI tt) 8))) (ws1 := (nW cI a S (fRb f t s rk))) B hz hA (c_X0_firstRanked l D cI cN a S (fRb f t s rk) (nI tt) ) gX0_callOne_X0_firstRanked rfl rfl hd_X0_firstRanked (by decide) rfl rfl rfl hl.1 rfl (Nat.le_of_ble_eq_true rfl) dX0_callOne_36 (fun H locs hz => ?_)
          refine cvt (y := nI (frn (fRb f t s rk) tt)) (by rw [(frn_ok htt c31).1]; rfl) ?_
          have hfr := (frn_ok (rk := fRb f t s rk) htt c31).2.1
          refine lv_istore (lv' := [(5, .int (nI (frn (fRb f t s rk) tt))), (0, .ref (a 0)), (1, .int (nI f)), (2, .int (nI t)), (3, .int (nI tt)), (4, .int (nI i))]) hx hb dX0_callOne_39 hl (by decide) rfl (fun ls hl => ?_)
          refine lv_iload_n hx hb dX0_callOne_41 rfl (lv_at hl 4 rfl) ?_
          refine lv_iconst (v := (nI 1)) hx hb dX0_callOne_42 (by decide) ?_
          refine lv_iload hx hb dX0_callOne_43 (lv_at hl 0 rfl) ?_
          refine lv_ishl hx hb dX0_callOne_45 ?_
          refine lv_iconst (v := (-1)) hx hb dX0_callOne_46 (by decide) ?_
          refine lv_ixor hx hb dX0_callOne_47 ?_
          refine lv_iand hx hb dX0_callOne_48 ?_
          refine cvt (y := nI (clr tt (frn (fRb f t s rk) tt))) ((clr_ok tt htt _ hfr).1) ?_
          refine lv_istore_n (lv' := [(3, .int (nI (clr tt (frn (fRb f t s rk) tt)))), (5, .int (nI (frn (fRb f t s rk) tt))), (0, .ref (a 0)), (1, .int (nI f)), (2, .int (nI t)), (4, .int (nI i))]) hx hb dX0_callOne_49 rfl hl (by decide) rfl (fun ls hl => ?_)
          refine lv_aload_n hx hb dX0_callOne_50 rfl (lv_at hl 2 rfl) ?_
          refine lv_dup hx hb dX0_callOne_51 rfl ?_
          refine gz (C := RX0) (T := TX0) (N := 16) (v := .int (S 5)) B hz hinX0 0 rfl rfl 5 (by decide) lk64 rfl rfl dX0_callOne_52 ?_
          refine lv_iconst (v := (nI 1)) hx hb dX0_callOne_55 (by decide) ?_
          refine lv_iadd hx hb dX0_callOne_56 ?_
          refine pz (C := RX0) (T := TX0) (N := 16) (ty := .int) (ws1 := (nW cI a (upd S 5 ((S 5) + (nI 1))) (fRb f t s rk))) B hz hinX0 tyX0_ok nmX0 0 rfl rfl 5 (by decide) lk64 rfl rfl (by decide +kernel) rfl rfl (Nat.le_of_ble_eq_true rfl) (nW_f5 cI a _ _ _) dX0_callOne_57 (fun H locs hz => ?_)
          refine lv_aload_n hx hb dX0_callOne_60 rfl (lv_at hl 2 rfl) ?_
          refine lv_iload hx hb dX0_callOne_61 (lv_at hl 1 rfl) ?_
          refine pz (C := RX0) (T := TX0) (N := 16) (ty := .int) (ws1 := (nW cI a (upd (upd S 5 ((S 5) + (nI 1))) 6 (nI (frn (fRb f t s rk) tt))) (fRb f t s rk))) B hz hinX0 tyX0_ok nmX0 0 rfl rfl 6 (by decide) lk18 rfl rfl (by decide +kernel) rfl rfl (Nat.le_of_ble_eq_true rfl) (nW_f6 cI a _ _ _) dX0_callOne_63 (fun H locs hz => ?_)
          refine lv_aload_n hx hb dX0_callOne_66 rfl (lv_at hl 2 rfl) ?_
          refine lv_iload_n hx hb dX0_callOne_67 rfl (lv_at hl 3 rfl) ?_
          refine lv_iload_n hx hb dX0_callOne_68 rfl (lv_at hl 4 rfl) ?_
          refine lv_iload hx hb dX0_callOne_69 (lv_at hl 1 rfl) ?_
          refine cV (C := RX0) (T := TX0) (N := 16) (ci := 0) (q0 := 0) (k := 4) (As := [.int (nI f), .int (nI t), .int (nI (frn (fRb f t s rk) tt))]) (rest := []) (v := .int (b2i ((fAm f t (frn (fRb f t s rk) tt) (upd (upd S 5 ((S 5) + (nI 1))) 6 (nI (frn (fRb f t s rk) tt)))).1))) (ws1 := (nW cI a ((fAm f t (frn (fRb f t s rk) tt) (upd (upd S 5 ((S 5) + (nI 1))) 6 (nI (frn (fRb f t s rk) tt)))).2) (fRb f t s rk))) B hz hA (c_X0_shakeHands l D cI cN a (upd (upd S 5 ((S 5) + (nI 1))) 6 (nI (frn (fRb f t s rk) tt))) (fRb f t s rk) f t (frn (fRb f t s rk) tt) (hf) (ht) (hfr) (IvS_upd (IvS_upd hIS (by omega)) (by omega)) ((fLk_of (s := S) ((pk_un (by omega)).trans (pk_un (by omega)))).trans hLS)) gX0_callOne_X0_shakeHands rfl rfl hd_X0_shakeHands (by decide) rfl rfl rfl hl.1 rfl (Nat.le_of_ble_eq_true rfl) dX0_callOne_71 (fun H locs hz => ?_)
          refine lb_if_eq (tgt := 93) hx hb dX0_callOne_74 (by decide) (fun c74 => ?_) (fun c74 => ?_)
          · refine lv_iinc (v := nI (i + 1)) (lv' := [(4, .int (nI (i + 1))), (3, .int (nI (clr tt (frn (fRb f t s rk) tt)))), (5, .int (nI (frn (fRb f t s rk) tt))), (0, .ref (a 0)), (1, .int (nI f)), (2, .int (nI t))]) hx hb dX0_callOne_93 hl (k := 5) rfl (nI_add i 1) (by decide) rfl (fun ls hl => ?_)
            refine lv_goto (tgt := 23) hx hb dX0_callOne_96 (by decide) ?_
            exact ih_LP (i + 1) (clr tt (frn (fRb f t s rk) tt)) ((fAm f t (frn (fRb f t s rk) tt) (fC1 (frn (fRb f t s rk) tt) S)).2) (by omega) ((clr_ok tt htt _ hfr).2) (IvS_of hIS (fun k hk => (fAm_out (by omega)).trans (fC1_out (by omega)))) ((fLk_am ht).trans hLS) ((fCx_f (n := 8 - i) (by omega) c31 c74).symm.trans hR) (by omega) H locs ls (hz.cast (by rfl)) (lv_cast (lv_sub hl [3, 4, 5, 1, 0] (l' := [(0, .ref (a 0)), (1, .int (nI f)), (2, .int (nI t)), (3, .int (nI (clr tt (frn (fRb f t s rk) tt)))), (4, .int (nI (i + 1)))]) rfl) (by rfl))
          · refine lv_aload_n hx hb dX0_callOne_77 rfl (lv_at hl 2 rfl) ?_
            refine lv_iconst (v := (nI 1)) hx hb dX0_callOne_78 (by decide) ?_
            refine lv_iload_n hx hb dX0_callOne_79 rfl (lv_at hl 3 rfl) ?_
            refine lv_ishl hx hb dX0_callOne_80 ?_
            refine lv_iconst (v := (nI 1)) hx hb dX0_callOne_81 (by decide) ?_
            refine lv_iload_n hx hb dX0_callOne_82 rfl (lv_at hl 4 rfl) ?_
            refine lv_ishl hx hb dX0_callOne_83 ?_
            refine lv_ior hx hb dX0_callOne_84 ?_
            refine lv_iload hx hb dX0_callOne_85 (lv_at hl 1 rfl) ?_
            refine cVv (C := RX0) (T := TX0) (N := 16) (ci := 0) (q0 := 0) (k := 4) (As := [.int (((nI 1) <<< ((nI f) &&& 31)) ||| ((nI 1) <<< ((nI t) &&& 31))), .int (nI (frn (fRb f t s rk) tt))]) (rest := []) (ws1 := (nW cI a (fJn (((nI 1) <<< ((nI f) &&& 31)) ||| ((nI 1) <<< ((nI t) &&& 31))) (nI (frn (fRb f t s rk) tt)) ((fAm f t (frn (fRb f t s rk) tt) (upd (upd S 5 ((S 5) + (nI 1))) 6 (nI (frn (fRb f t s rk) tt)))).2) 5) (fRb f t s rk))) B hz hA (c_X0_joinLink l D cI cN a ((fAm f t (frn (fRb f t s rk) tt) (upd (upd S 5 ((S 5) + (nI 1))) 6 (nI (frn (fRb f t s rk) tt)))).2) (fRb f t s rk) (((nI 1) <<< ((nI f) &&& 31)) ||| ((nI 1) <<< ((nI t) &&& 31))) (nI (frn (fRb f t s rk) tt)) ) gX0_callOne_X0_joinLink rfl rfl hd_X0_joinLink (by decide) rfl rfl rfl hl.1 rfl (Nat.le_of_ble_eq_true rfl) dX0_callOne_87 (fun H locs hz => ?_)
            refine lv_iload hx hb dX0_callOne_90 (lv_at hl 1 rfl) ?_
            exact rz_i B hr hz dX0_callOne_92 (by rw [← hR, fCx_t (by omega) c31 c74]) (by first | (rw [← hR, fCx_0 (by first | exact Or.inr c31 | exact Or.inl (by omega))]; done) | (rw [← hR, fCx_t (by omega) c31 c74]; rfl))
  exact LP _ 0 (scn s f) (upd s 5 (nI 0)) (by omega) ((hI f hf).2.1) (IvS_upd hI (by omega)) ((fLk_of (s := s) (pk_un (by omega))).trans hlk) (rfl) (Nat.lt_succ_self _) H locs ls (hz.cast (by rfl)) (lv_cast (lv_sub hl [2, 3, 4, 1, 0] (l' := [(0, .ref (a 0)), (1, .int (nI f)), (2, .int (nI t)), (3, .int (nI (scn s f))), (4, .int (nI 0))]) rfl) (by rfl))
theorem hd_X0_callMany : hdZ yX0_callMany 2 := by decide +kernel
set_option maxRecDepth 100000 in
set_option maxHeartbeats 4000000 in
theorem c_X0_callMany (l : Launch) (D : va_G) (cI cN : ClassId) (a : Nat → Nat) (s : Sz) (rk : Sz) (f : Nat) (ms : Int32) (hf : f < 5) (hI : IvS s) (hv : IvA s) : Fn l D cI cN yX0_callMany wsX0_callMany 5 (nW cI a s rk) [.ref (a 0), .int (nI f), .int ms] (some (.int ((fNt f (frn (fRk ms f s rk 8) (scn s f)) ms s).1))) (nW cI a ((fNt f (frn (fRk ms f s rk 8) (scn s f)) ms s).2) (fRk ms f s rk 8)) := by
  refine Fn.of (cc := cX0_callMany) (nL := 7) (ret := (some .int)) (lv := [(0, .ref (a 0)), (1, .int (nI f)), (2, .int ms)]) (by decide +kernel) rfl (Nat.le_of_ble_eq_true rfl) rfl ?_
  intro p e s_ m args below meth c A B hr hA H locs ls hz hl
  have hx := B.1.1
  have hb := B.1.2.1
  have hinX0 : ∀ w ∈ u_ws RX0 TX0 16, w ∈ wsX0_callMany := by decide +kernel
  have lk18 : Cond.fieldLink yX0_callMany.cls 18 RX0 (TX0 6).2.1 (TX0 6).2.2.1 ∈ wsX0_callMany := by decide +kernel
  have lk55 : Cond.fieldLink yX0_callMany.cls 55 RX0 (TX0 0).2.1 (TX0 0).2.2.1 ∈ wsX0_callMany := by decide +kernel
  have lk64 : Cond.fieldLink yX0_callMany.cls 64 RX0 (TX0 5).2.1 (TX0 5).2.2.1 ∈ wsX0_callMany := by decide +kernel
  have hs1 := (hI f hf).1
  have hs2 := (hI f hf).2.1
  have hfo := frn_ok (rk := fRk ms f s rk 8) hs2 (by omega)
  have hch := hfo.2.1
  refine lv_aload_n hx hb dX0_callMany_0 rfl (lv_at hl 0 rfl) ?_
  refine lv_iload_n hx hb dX0_callMany_1 rfl (lv_at hl 1 rfl) ?_
  refine lv_iload_n hx hb dX0_callMany_2 rfl (lv_at hl 2 rfl) ?_
  refine cV (C := RX0) (T := TX0) (N := 16) (ci := 0) (q0 := 0) (k := 5) (As := [.int (nI f), .int ms]) (rest := []) (v := .int (oI (fFr (fRk ms f s rk 8) (s (9 + f)) 8))) (ws1 := (nW cI a s (fRk ms f s rk 8))) B hz hA (c_X0_preferredChannel l D cI cN a s rk f ms (hf) (hv)) gX0_callMany_X0_preferredChannel rfl rfl hd_X0_preferredChannel (by decide) rfl rfl rfl hl.1 rfl (Nat.le_of_ble_eq_true rfl) dX0_callMany_3 (fun H locs hz => ?_)
  refine cvt (y := nI (frn (fRk ms f s rk 8) (scn s f))) (by rw [(hI f hf).2.2, hfo.1]; rfl) ?_
  refine lv_istore_n (lv' := [(3, .int (nI (frn (fRk ms f s rk 8) (scn s f)))), (0, .ref (a 0)), (1, .int (nI f)), (2, .int ms)]) hx hb dX0_callMany_6 rfl hl (by decide) rfl (fun ls hl => ?_)
  refine lv_aload_n hx hb dX0_callMany_7 rfl (lv_at hl 1 rfl) ?_
  refine lv_iconst (v := (nI 1)) hx hb dX0_callMany_8 (by decide) ?_
  refine pz (C := RX0) (T := TX0) (N := 16) (ty := .int) (ws1 := (nW cI a (upd s 5 (nI 1)) (fRk ms f s rk 8))) B hz hinX0 tyX0_ok nmX0 0 rfl rfl 5 (by decide) lk64 rfl rfl (by decide +kernel) rfl rfl (Nat.le_of_ble_eq_true rfl) (nW_f5 cI a _ _ _) dX0_callMany_9 (fun H locs hz => ?_)
  refine lv_aload_n hx hb dX0_callMany_12 rfl (lv_at hl 1 rfl) ?_
  refine lv_iload_n hx hb dX0_callMany_13 rfl (lv_at hl 0 rfl) ?_
  refine pz (C := RX0) (T := TX0) (N := 16) (ty := .int) (ws1 := (nW cI a (upd (upd s 5 (nI 1)) 6 (nI (frn (fRk ms f s rk 8) (scn s f)))) (fRk ms f s rk 8))) B hz hinX0 tyX0_ok nmX0 0 rfl rfl 6 (by decide) lk18 rfl rfl (by decide +kernel) rfl rfl (Nat.le_of_ble_eq_true rfl) (nW_f6 cI a _ _ _) dX0_callMany_14 (fun H locs hz => ?_)
  refine lv_aload_n hx hb dX0_callMany_17 rfl (lv_at hl 1 rfl) ?_
  refine lv_dup hx hb dX0_callMany_18 rfl ?_
  refine gz (C := RX0) (T := TX0) (N := 16) (v := .int ((upd (upd s 5 (nI 1)) 6 (nI (frn (fRk ms f s rk 8) (scn s f)))) 0)) B hz hinX0 0 rfl rfl 0 (by decide) lk55 rfl rfl dX0_callMany_19 ?_
  refine cvt (y := (s 0)) ((pk_un (by omega)).trans (pk_un (by omega))) ?_
  refine lv_aload_n hx hb dX0_callMany_22 rfl (lv_at hl 1 rfl) ?_
  refine lv_iload_n hx hb dX0_callMany_23 rfl (lv_at hl 3 rfl) ?_
  refine cV (C := RX0) (T := TX0) (N := 16) (ci := 0) (q0 := 0) (k := 5) (As := [.int ms]) (rest := [.int (s 0), .ref (a 0)]) (v := .int (nI (fMo ms (upd (upd s 5 (nI 1)) 6 (nI (frn (fRk ms f s rk 8) (scn s f)))) 5))) (ws1 := (nW cI a (upd (upd s 5 (nI 1)) 6 (nI (frn (fRk ms f s rk 8) (scn s f)))) (fRk ms f s rk 8))) B hz hA (c_X0_longestScan l D cI cN a (upd (upd s 5 (nI 1)) 6 (nI (frn (fRk ms f s rk 8) (scn s f)))) (fRk ms f s rk 8) ms (IvS_upd (IvS_upd hI (by omega)) (by omega))) gX0_callMany_X0_longestScan rfl rfl hd_X0_longestScan (by decide) rfl rfl rfl hl.1 rfl (Nat.le_of_ble_eq_true rfl) dX0_callMany_24 (fun H locs hz => ?_)
  refine lv_iadd hx hb dX0_callMany_27 ?_
  refine pz (C := RX0) (T := TX0) (N := 16) (ty := .int) (ws1 := (nW cI a (upd (upd (upd s 5 (nI 1)) 6 (nI (frn (fRk ms f s rk 8) (scn s f)))) 0 ((s 0) + (nI (fMo ms (upd (upd s 5 (nI 1)) 6 (nI (frn (fRk ms f s rk 8) (scn s f)))) 5)))) (fRk ms f s rk 8))) B hz hinX0 tyX0_ok nmX0 0 rfl rfl 0 (by decide) lk55 rfl rfl (by decide +kernel) rfl rfl (Nat.le_of_ble_eq_true rfl) (nW_f0 cI a _ _ _) dX0_callMany_28 (fun H locs hz => ?_)
  refine lv_iconst (v := (nI 0)) hx hb dX0_callMany_31 (by decide) ?_
  refine lv_istore (lv' := [(4, .int (nI 0)), (3, .int (nI (frn (fRk ms f s rk 8) (scn s f)))), (0, .ref (a 0)), (1, .int (nI f)), (2, .int ms)]) hx hb dX0_callMany_32 hl (by decide) rfl (fun ls hl => ?_)
  refine lv_iconst (v := (nI 0)) hx hb dX0_callMany_34 (by decide) ?_
  refine lv_istore (lv' := [(5, .int (nI 0)), (4, .int (nI 0)), (3, .int (nI (frn (fRk ms f s rk 8) (scn s f)))), (0, .ref (a 0)), (1, .int (nI f)), (2, .int ms)]) hx hb dX0_callMany_35 hl (by decide) rfl (fun ls hl => ?_)
  have LP37 : ∀ (n_LP37 : Nat) (i : Nat), (i ≤ 5) → 5 - i < n_LP37 → ∀ (H : Heap) (locs : List Loc) (ls : Array Slot), Hz D A s_.heap H locs (nW cI a ((fN1 f (frn (fRk ms f s rk 8) (scn s f)) ms (fNa (frn (fRk ms f s rk 8) (scn s f)) ms s) i).2) (fRk ms f s rk 8)) → lv_has ls 7 [(0, .ref (a 0)), (1, .int (nI f)), (2, .int ms), (3, .int (nI (frn (fRk ms f s rk 8) (scn s f)))), (4, .int ((fN1 f (frn (fRk ms f s rk 8) (scn s f)) ms (fNa (frn (fRk ms f s rk 8) (scn s f)) ms s) i).1)), (5, .int (nI i))] → Wz p l e 5 s_ m args below meth c D A (some (.int ((fNt f (frn (fRk ms f s rk 8) (scn s f)) ms s).1))) (nW cI a ((fNt f (frn (fRk ms f s rk 8) (scn s f)) ms s).2) (fRk ms f s rk 8)) H locs (F0 m 37 ls []) := by
    intro n_LP37
    induction n_LP37 with
    | zero => intro i hi hm; exact absurd hm (Nat.not_lt_zero _)
    | succ n_LP37 ih_LP37 =>
      intro i hi hm H locs ls hz hl
      refine lv_iload hx hb dX0_callMany_37 (lv_at hl 5 rfl) ?_
      refine lv_iconst (v := (nI 5)) hx hb dX0_callMany_39 (by decide) ?_
      refine ln_icmp_ge (tgt := 78) hx hb dX0_callMany_40 (by decide) (by constructor <;> omega) (fun c40 => ?_) (fun c40 => ?_)
      · obtain rfl : i = 5 := by omega
        refine lv_aload_n hx hb dX0_callMany_78 rfl (lv_at hl 0 rfl) ?_
        refine lv_dup hx hb dX0_callMany_79 rfl ?_
        refine gz (C := RX0) (T := TX0) (N := 16) (v := .int (((fN1 f (frn (fRk ms f s rk 8) (scn s f)) ms (fNa (frn (fRk ms f s rk 8) (scn s f)) ms s) 5).2) 0)) B hz hinX0 0 rfl rfl 0 (by decide) lk55 rfl rfl dX0_callMany_80 ?_
        refine lv_iconst (v := (nI 1)) hx hb dX0_callMany_83 (by decide) ?_
        refine lv_iadd hx hb dX0_callMany_84 ?_
        refine pz (C := RX0) (T := TX0) (N := 16) (ty := .int) (ws1 := (nW cI a (upd ((fN1 f (frn (fRk ms f s rk 8) (scn s f)) ms (fNa (frn (fRk ms f s rk 8) (scn s f)) ms s) 5).2) 0 ((((fN1 f (frn (fRk ms f s rk 8) (scn s f)) ms (fNa (frn (fRk ms f s rk 8) (scn s f)) ms s) 5).2) 0) + (nI 1))) (fRk ms f s rk 8))) B hz hinX0 tyX0_ok nmX0 0 rfl rfl 0 (by decide) lk55 rfl rfl (by decide +kernel) rfl rfl (Nat.le_of_ble_eq_true rfl) (nW_f0 cI a _ _ _) dX0_callMany_85 (fun H locs hz => ?_)
        refine lv_iconst (v := (nI 0)) hx hb dX0_callMany_88 (by decide) ?_
        refine lv_istore (lv' := [(5, .int (nI 0)), (0, .ref (a 0)), (1, .int (nI f)), (2, .int ms), (3, .int (nI (frn (fRk ms f s rk 8) (scn s f)))), (4, .int ((fN1 f (frn (fRk ms f s rk 8) (scn s f)) ms (fNa (frn (fRk ms f s rk 8) (scn s f)) ms s) 5).1))]) hx hb dX0_callMany_89 hl (by decide) rfl (fun ls hl => ?_)
        refine lv_iconst (v := (nI 0)) hx hb dX0_callMany_91 (by decide) ?_
        refine lv_istore (lv' := [(6, .int (nI 0)), (5, .int (nI 0)), (0, .ref (a 0)), (1, .int (nI f)), (2, .int ms), (3, .int (nI (frn (fRk ms f s rk 8) (scn s f)))), (4, .int ((fN1 f (frn (fRk ms f s rk 8) (scn s f)) ms (fNa (frn (fRk ms f s rk 8) (scn s f)) ms s) 5).1))]) hx hb dX0_callMany_92 hl (by decide) rfl (fun ls hl => ?_)
        have LP94 : ∀ (n_LP94 : Nat) (j : Nat), (j ≤ 5) → 5 - j < n_LP94 → ∀ (H : Heap) (locs : List Loc) (ls : Array Slot), Hz D A s_.heap H locs (nW cI a ((fN2 f (frn (fRk ms f s rk 8) (scn s f)) (fN1 f (frn (fRk ms f s rk 8) (scn s f)) ms (fNa (frn (fRk ms f s rk 8) (scn s f)) ms s) 5).1 (fNb f (frn (fRk ms f s rk 8) (scn s f)) ms s) j).2) (fRk ms f s rk 8)) → lv_has ls 7 [(0, .ref (a 0)), (1, .int (nI f)), (2, .int ms), (3, .int (nI (frn (fRk ms f s rk 8) (scn s f)))), (4, .int ((fN1 f (frn (fRk ms f s rk 8) (scn s f)) ms (fNa (frn (fRk ms f s rk 8) (scn s f)) ms s) 5).1)), (5, .int ((fN2 f (frn (fRk ms f s rk 8) (scn s f)) (fN1 f (frn (fRk ms f s rk 8) (scn s f)) ms (fNa (frn (fRk ms f s rk 8) (scn s f)) ms s) 5).1 (fNb f (frn (fRk ms f s rk 8) (scn s f)) ms s) j).1)), (6, .int (nI j))] → Wz p l e 5 s_ m args below meth c D A (some (.int ((fNt f (frn (fRk ms f s rk 8) (scn s f)) ms s).1))) (nW cI a ((fNt f (frn (fRk ms f s rk 8) (scn s f)) ms s).2) (fRk ms f s rk 8)) H locs (F0 m 94 ls []) := by
          intro n_LP94
          induction n_LP94 with
          | zero => intro j hj hm; exact absurd hm (Nat.not_lt_zero _)
          | succ n_LP94 ih_LP94 =>
            intro j hj hm H locs ls hz hl
            refine lv_iload hx hb dX0_callMany_94 (lv_at hl 6 rfl) ?_
            refine lv_iconst (v := (nI 5)) hx hb dX0_callMany_96 (by decide) ?_
            refine ln_icmp_ge (tgt := 140) hx hb dX0_callMany_97 (by decide) (by constructor <;> omega) (fun c97 => ?_) (fun c97 => ?_)
            · obtain rfl : j = 5 := by omega
              refine lv_iload hx hb dX0_callMany_140 (lv_at hl 5 rfl) ?_
              refine lv_if_eq (tgt := 156) hx hb dX0_callMany_142 (by decide) (fun c142 => ?_) (fun c142 => ?_)
              · refine lv_iload hx hb dX0_callMany_156 (lv_at hl 5 rfl) ?_
                exact rz_i B hr hz dX0_callMany_158 (by rfl) (by first | (rw [fNt_0 c142]; rfl) | (rw [fNt_1 c142]; rfl))
              · refine lv_aload_n hx hb dX0_callMany_145 rfl (lv_at hl 0 rfl) ?_
                refine lv_iload hx hb dX0_callMany_146 (lv_at hl 5 rfl) ?_
                refine lv_iconst (v := (nI 1)) hx hb dX0_callMany_148 (by decide) ?_
                refine lv_iload_n hx hb dX0_callMany_149 rfl (lv_at hl 1 rfl) ?_
                refine lv_ishl hx hb dX0_callMany_150 ?_
                refine lv_ior hx hb dX0_callMany_151 ?_
                refine lv_iload_n hx hb dX0_callMany_152 rfl (lv_at hl 3 rfl) ?_
                refine cVv (C := RX0) (T := TX0) (N := 16) (ci := 0) (q0 := 0) (k := 5) (As := [.int (((fN2 f (frn (fRk ms f s rk 8) (scn s f)) (fN1 f (frn (fRk ms f s rk 8) (scn s f)) ms (fNa (frn (fRk ms f s rk 8) (scn s f)) ms s) 5).1 (fNb f (frn (fRk ms f s rk 8) (scn s f)) ms s) 5).1) ||| ((nI 1) <<< ((nI f) &&& 31))), .int (nI (frn (fRk ms f s rk 8) (scn s f)))]) (rest := []) (ws1 := (nW cI a (fJn (((fN2 f (frn (fRk ms f s rk 8) (scn s f)) (fN1 f (frn (fRk ms f s rk 8) (scn s f)) ms (fNa (frn (fRk ms f s rk 8) (scn s f)) ms s) 5).1 (fNb f (frn (fRk ms f s rk 8) (scn s f)) ms s) 5).1) ||| ((nI 1) <<< ((nI f) &&& 31))) (nI (frn (fRk ms f s rk 8) (scn s f))) ((fN2 f (frn (fRk ms f s rk 8) (scn s f)) (fN1 f (frn (fRk ms f s rk 8) (scn s f)) ms (fNa (frn (fRk ms f s rk 8) (scn s f)) ms s) 5).1 (fNb f (frn (fRk ms f s rk 8) (scn s f)) ms s) 5).2) 5) (fRk ms f s rk 8))) B hz hA (c_X0_joinLink l D cI cN a ((fN2 f (frn (fRk ms f s rk 8) (scn s f)) (fN1 f (frn (fRk ms f s rk 8) (scn s f)) ms (fNa (frn (fRk ms f s rk 8) (scn s f)) ms s) 5).1 (fNb f (frn (fRk ms f s rk 8) (scn s f)) ms s) 5).2) (fRk ms f s rk 8) (((fN2 f (frn (fRk ms f s rk 8) (scn s f)) (fN1 f (frn (fRk ms f s rk 8) (scn s f)) ms (fNa (frn (fRk ms f s rk 8) (scn s f)) ms s) 5).1 (fNb f (frn (fRk ms f s rk 8) (scn s f)) ms s) 5).1) ||| ((nI 1) <<< ((nI f) &&& 31))) (nI (frn (fRk ms f s rk 8) (scn s f))) ) gX0_callMany_X0_joinLink rfl rfl hd_X0_joinLink (by decide) rfl rfl rfl hl.1 rfl (Nat.le_of_ble_eq_true rfl) dX0_callMany_153 (fun H locs hz => ?_)
                refine lv_iload hx hb dX0_callMany_156 (lv_at hl 5 rfl) ?_
                exact rz_i B hr hz dX0_callMany_158 (by rfl) (by first | (rw [fNt_0 c142]; rfl) | (rw [fNt_1 c142]; rfl))
            · refine lv_iload hx hb dX0_callMany_100 (lv_at hl 4 rfl) ?_
              refine lv_iload hx hb dX0_callMany_102 (lv_at hl 6 rfl) ?_
              refine cNst (k := 5) (As := [.int ((fN1 f (frn (fRk ms f s rk 8) (scn s f)) ms (fNa (frn (fRk ms f s rk 8) (scn s f)) ms s) 5).1), .int (nI j)]) (rest := []) (v := .int (b2i (fHas ((fN1 f (frn (fRk ms f s rk 8) (scn s f)) ms (fNa (frn (fRk ms f s rk 8) (scn s f)) ms s) 5).1) (nI j)))) B hz hA (c_X1_contains l D cI cN ((fN1 f (frn (fRk ms f s rk 8) (scn s f)) ms (fNa (frn (fRk ms f s rk 8) (scn s f)) ms s) 5).1) (nI j) ) gX0_callMany_X1_contains_n89 rfl (by decide +kernel) (by decide +kernel) (by decide +kernel) rfl hd_X1_contains (by decide) rfl hl.1 rfl (Nat.le_of_ble_eq_true rfl) dX0_callMany_104 (fun H locs hz => ?_)
              refine lb_if_eq (tgt := 134) hx hb dX0_callMany_107 (by decide) (fun c107 => ?_) (fun c107 => ?_)
              · refine lv_iinc (v := nI (j + 1)) (lv' := [(6, .int (nI (j + 1))), (0, .ref (a 0)), (1, .int (nI f)), (2, .int ms), (3, .int (nI (frn (fRk ms f s rk 8) (scn s f)))), (4, .int ((fN1 f (frn (fRk ms f s rk 8) (scn s f)) ms (fNa (frn (fRk ms f s rk 8) (scn s f)) ms s) 5).1)), (5, .int ((fN2 f (frn (fRk ms f s rk 8) (scn s f)) (fN1 f (frn (fRk ms f s rk 8) (scn s f)) ms (fNa (frn (fRk ms f s rk 8) (scn s f)) ms s) 5).1 (fNb f (frn (fRk ms f s rk 8) (scn s f)) ms s) j).1))]) hx hb dX0_callMany_134 hl (k := 6) rfl (nI_add j 1) (by decide) rfl (fun ls hl => ?_)
                refine lv_goto (tgt := 94) hx hb dX0_callMany_137 (by decide) ?_
                exact ih_LP94 (j + 1) (by omega) (by omega) H locs ls (hz.cast (by first | (simp [fN2, c107]; done) | (simp [fN2, c107, c122]; done))) (lv_cast (lv_sub hl [1, 2, 3, 4, 5, 6, 0] (l' := [(0, .ref (a 0)), (1, .int (nI f)), (2, .int ms), (3, .int (nI (frn (fRk ms f s rk 8) (scn s f)))), (4, .int ((fN1 f (frn (fRk ms f s rk 8) (scn s f)) ms (fNa (frn (fRk ms f s rk 8) (scn s f)) ms s) 5).1)), (5, .int ((fN2 f (frn (fRk ms f s rk 8) (scn s f)) (fN1 f (frn (fRk ms f s rk 8) (scn s f)) ms (fNa (frn (fRk ms f s rk 8) (scn s f)) ms s) 5).1 (fNb f (frn (fRk ms f s rk 8) (scn s f)) ms s) j).1)), (6, .int (nI (j + 1)))]) rfl) (by first | (simp [fN2, c107]; done) | (simp [fN2, c107, c122]; done)))
              · refine lv_aload_n hx hb dX0_callMany_110 rfl (lv_at hl 0 rfl) ?_
                refine lv_iconst (v := (nI 4)) hx hb dX0_callMany_111 (by decide) ?_
                refine lv_iload_n hx hb dX0_callMany_112 rfl (lv_at hl 1 rfl) ?_
                refine lv_iload hx hb dX0_callMany_113 (lv_at hl 6 rfl) ?_
                refine lv_sipush (v := (nI 255)) hx hb dX0_callMany_115 (by decide) ?_
                refine lv_iload_n hx hb dX0_callMany_118 rfl (lv_at hl 3 rfl) ?_
                refine cV (C := RX0) (T := TX0) (N := 16) (ci := 0) (q0 := 0) (k := 5) (As := [.int (nI 4), .int (nI f), .int (nI j), .int (nI 255), .int (nI (frn (fRk ms f s rk 8) (scn s f)))]) (rest := []) (v := .int (b2i ((fTr 4 f j 255 (frn (fRk ms f s rk 8) (scn s f)) ((fN2 f (frn (fRk ms f s rk 8) (scn s f)) (fN1 f (frn (fRk ms f s rk 8) (scn s f)) ms (fNa (frn (fRk ms f s rk 8) (scn s f)) ms s) 5).1 (fNb f (frn (fRk ms f s rk 8) (scn s f)) ms s) j).2)).1))) (ws1 := (nW cI a ((fTr 4 f j 255 (frn (fRk ms f s rk 8) (scn s f)) ((fN2 f (frn (fRk ms f s rk 8) (scn s f)) (fN1 f (frn (fRk ms f s rk 8) (scn s f)) ms (fNa (frn (fRk ms f s rk 8) (scn s f)) ms s) 5).1 (fNb f (frn (fRk ms f s rk 8) (scn s f)) ms s) j).2)).2) (fRk ms f s rk 8))) B hz hA (c_X0_transmit l D cI cN a ((fN2 f (frn (fRk ms f s rk 8) (scn s f)) (fN1 f (frn (fRk ms f s rk 8) (scn s f)) ms (fNa (frn (fRk ms f s rk 8) (scn s f)) ms s) 5).1 (fNb f (frn (fRk ms f s rk 8) (scn s f)) ms s) j).2) (fRk ms f s rk 8) 4 f j 255 (frn (fRk ms f s rk 8) (scn s f)) (hf) (by omega) (hch)) gX0_callMany_X0_transmit rfl rfl hd_X0_transmit (by decide) rfl rfl rfl hl.1 rfl (Nat.le_of_ble_eq_true rfl) dX0_callMany_119 (fun H locs hz => ?_)
                refine lb_if_eq (tgt := 134) hx hb dX0_callMany_122 (by decide) (fun c122 => ?_) (fun c122 => ?_)
                · refine lv_iinc (v := nI (j + 1)) (lv' := [(6, .int (nI (j + 1))), (0, .ref (a 0)), (1, .int (nI f)), (2, .int ms), (3, .int (nI (frn (fRk ms f s rk 8) (scn s f)))), (4, .int ((fN1 f (frn (fRk ms f s rk 8) (scn s f)) ms (fNa (frn (fRk ms f s rk 8) (scn s f)) ms s) 5).1)), (5, .int ((fN2 f (frn (fRk ms f s rk 8) (scn s f)) (fN1 f (frn (fRk ms f s rk 8) (scn s f)) ms (fNa (frn (fRk ms f s rk 8) (scn s f)) ms s) 5).1 (fNb f (frn (fRk ms f s rk 8) (scn s f)) ms s) j).1))]) hx hb dX0_callMany_134 hl (k := 6) rfl (nI_add j 1) (by decide) rfl (fun ls hl => ?_)
                  refine lv_goto (tgt := 94) hx hb dX0_callMany_137 (by decide) ?_
                  exact ih_LP94 (j + 1) (by omega) (by omega) H locs ls (hz.cast (by first | (simp [fN2, c107]; done) | (simp [fN2, c107, c122]; done))) (lv_cast (lv_sub hl [1, 2, 3, 4, 5, 6, 0] (l' := [(0, .ref (a 0)), (1, .int (nI f)), (2, .int ms), (3, .int (nI (frn (fRk ms f s rk 8) (scn s f)))), (4, .int ((fN1 f (frn (fRk ms f s rk 8) (scn s f)) ms (fNa (frn (fRk ms f s rk 8) (scn s f)) ms s) 5).1)), (5, .int ((fN2 f (frn (fRk ms f s rk 8) (scn s f)) (fN1 f (frn (fRk ms f s rk 8) (scn s f)) ms (fNa (frn (fRk ms f s rk 8) (scn s f)) ms s) 5).1 (fNb f (frn (fRk ms f s rk 8) (scn s f)) ms s) j).1)), (6, .int (nI (j + 1)))]) rfl) (by first | (simp [fN2, c107]; done) | (simp [fN2, c107, c122]; done)))
                · refine lv_iload hx hb dX0_callMany_125 (lv_at hl 5 rfl) ?_
                  refine lv_iconst (v := (nI 1)) hx hb dX0_callMany_127 (by decide) ?_
                  refine lv_iload hx hb dX0_callMany_128 (lv_at hl 6 rfl) ?_
                  refine lv_ishl hx hb dX0_callMany_130 ?_
                  refine lv_ior hx hb dX0_callMany_131 ?_
                  refine lv_istore (lv' := [(5, .int (((fN2 f (frn (fRk ms f s rk 8) (scn s f)) (fN1 f (frn (fRk ms f s rk 8) (scn s f)) ms (fNa (frn (fRk ms f s rk 8) (scn s f)) ms s) 5).1 (fNb f (frn (fRk ms f s rk 8) (scn s f)) ms s) j).1) ||| ((nI 1) <<< ((nI j) &&& 31)))), (0, .ref (a 0)), (1, .int (nI f)), (2, .int ms), (3, .int (nI (frn (fRk ms f s rk 8) (scn s f)))), (4, .int ((fN1 f (frn (fRk ms f s rk 8) (scn s f)) ms (fNa (frn (fRk ms f s rk 8) (scn s f)) ms s) 5).1)), (6, .int (nI j))]) hx hb dX0_callMany_132 hl (by decide) rfl (fun ls hl => ?_)
                  refine lv_iinc (v := nI (j + 1)) (lv' := [(6, .int (nI (j + 1))), (5, .int (((fN2 f (frn (fRk ms f s rk 8) (scn s f)) (fN1 f (frn (fRk ms f s rk 8) (scn s f)) ms (fNa (frn (fRk ms f s rk 8) (scn s f)) ms s) 5).1 (fNb f (frn (fRk ms f s rk 8) (scn s f)) ms s) j).1) ||| ((nI 1) <<< ((nI j) &&& 31)))), (0, .ref (a 0)), (1, .int (nI f)), (2, .int ms), (3, .int (nI (frn (fRk ms f s rk 8) (scn s f)))), (4, .int ((fN1 f (frn (fRk ms f s rk 8) (scn s f)) ms (fNa (frn (fRk ms f s rk 8) (scn s f)) ms s) 5).1))]) hx hb dX0_callMany_134 hl (k := 6) rfl (nI_add j 1) (by decide) rfl (fun ls hl => ?_)
                  refine lv_goto (tgt := 94) hx hb dX0_callMany_137 (by decide) ?_
                  exact ih_LP94 (j + 1) (by omega) (by omega) H locs ls (hz.cast (by first | (simp [fN2, c107]; done) | (simp [fN2, c107, c122]; done))) (lv_cast (lv_sub hl [2, 3, 4, 5, 6, 1, 0] (l' := [(0, .ref (a 0)), (1, .int (nI f)), (2, .int ms), (3, .int (nI (frn (fRk ms f s rk 8) (scn s f)))), (4, .int ((fN1 f (frn (fRk ms f s rk 8) (scn s f)) ms (fNa (frn (fRk ms f s rk 8) (scn s f)) ms s) 5).1)), (5, .int (((fN2 f (frn (fRk ms f s rk 8) (scn s f)) (fN1 f (frn (fRk ms f s rk 8) (scn s f)) ms (fNa (frn (fRk ms f s rk 8) (scn s f)) ms s) 5).1 (fNb f (frn (fRk ms f s rk 8) (scn s f)) ms s) j).1) ||| ((nI 1) <<< ((nI j) &&& 31)))), (6, .int (nI (j + 1)))]) rfl) (by first | (simp [fN2, c107]; done) | (simp [fN2, c107, c122]; done)))
        exact LP94 _ 0 (by omega) (Nat.lt_succ_self _) H locs ls (hz.cast (by rfl)) (lv_cast (lv_sub hl [2, 3, 4, 5, 6, 1, 0] (l' := [(0, .ref (a 0)), (1, .int (nI f)), (2, .int ms), (3, .int (nI (frn (fRk ms f s rk 8) (scn s f)))), (4, .int ((fN1 f (frn (fRk ms f s rk 8) (scn s f)) ms (fNa (frn (fRk ms f s rk 8) (scn s f)) ms s) 5).1)), (5, .int (nI 0)), (6, .int (nI 0))]) rfl) (by rfl))
      · refine lv_iload_n hx hb dX0_callMany_43 rfl (lv_at hl 2 rfl) ?_
        refine lv_iload hx hb dX0_callMany_44 (lv_at hl 5 rfl) ?_
        refine cNst (k := 5) (As := [.int ms, .int (nI i)]) (rest := []) (v := .int (b2i (fHas ms (nI i)))) B hz hA (c_X1_contains l D cI cN ms (nI i) ) gX0_callMany_X1_contains_n89 rfl (by decide +kernel) (by decide +kernel) (by decide +kernel) rfl hd_X1_contains (by decide) rfl hl.1 rfl (Nat.le_of_ble_eq_true rfl) dX0_callMany_46 (fun H locs hz => ?_)
        refine lb_if_eq (tgt := 72) hx hb dX0_callMany_49 (by decide) (fun c49 => ?_) (fun c49 => ?_)
        · refine lv_iinc (v := nI (i + 1)) (lv' := [(5, .int (nI (i + 1))), (0, .ref (a 0)), (1, .int (nI f)), (2, .int ms), (3, .int (nI (frn (fRk ms f s rk 8) (scn s f)))), (4, .int ((fN1 f (frn (fRk ms f s rk 8) (scn s f)) ms (fNa (frn (fRk ms f s rk 8) (scn s f)) ms s) i).1))]) hx hb dX0_callMany_72 hl (k := 5) rfl (nI_add i 1) (by decide) rfl (fun ls hl => ?_)
          refine lv_goto (tgt := 37) hx hb dX0_callMany_75 (by decide) ?_
          exact ih_LP37 (i + 1) (by omega) (by omega) H locs ls (hz.cast (by first | (simp [fN1, c49]; done) | (simp [fN1, c49, c60]; done))) (lv_cast (lv_sub hl [1, 2, 3, 4, 5, 0] (l' := [(0, .ref (a 0)), (1, .int (nI f)), (2, .int ms), (3, .int (nI (frn (fRk ms f s rk 8) (scn s f)))), (4, .int ((fN1 f (frn (fRk ms f s rk 8) (scn s f)) ms (fNa (frn (fRk ms f s rk 8) (scn s f)) ms s) i).1)), (5, .int (nI (i + 1)))]) rfl) (by first | (simp [fN1, c49]; done) | (simp [fN1, c49, c60]; done)))
        · refine lv_aload_n hx hb dX0_callMany_52 rfl (lv_at hl 0 rfl) ?_
          refine lv_iload_n hx hb dX0_callMany_53 rfl (lv_at hl 1 rfl) ?_
          refine lv_iload hx hb dX0_callMany_54 (lv_at hl 5 rfl) ?_
          refine lv_iload_n hx hb dX0_callMany_56 rfl (lv_at hl 3 rfl) ?_
          refine cV (C := RX0) (T := TX0) (N := 16) (ci := 0) (q0 := 0) (k := 5) (As := [.int (nI f), .int (nI i), .int (nI (frn (fRk ms f s rk 8) (scn s f)))]) (rest := []) (v := .int (b2i ((fAn f i (frn (fRk ms f s rk 8) (scn s f)) ((fN1 f (frn (fRk ms f s rk 8) (scn s f)) ms (fNa (frn (fRk ms f s rk 8) (scn s f)) ms s) i).2)).1))) (ws1 := (nW cI a ((fAn f i (frn (fRk ms f s rk 8) (scn s f)) ((fN1 f (frn (fRk ms f s rk 8) (scn s f)) ms (fNa (frn (fRk ms f s rk 8) (scn s f)) ms s) i).2)).2) (fRk ms f s rk 8))) B hz hA (c_X0_answersNetCall l D cI cN a ((fN1 f (frn (fRk ms f s rk 8) (scn s f)) ms (fNa (frn (fRk ms f s rk 8) (scn s f)) ms s) i).2) (fRk ms f s rk 8) f i (frn (fRk ms f s rk 8) (scn s f)) (hf) (by omega) (hch)) gX0_callMany_X0_answersNetCall rfl rfl hd_X0_answersNetCall (by decide) rfl rfl rfl hl.1 rfl (Nat.le_of_ble_eq_true rfl) dX0_callMany_57 (fun H locs hz => ?_)
          refine lb_if_eq (tgt := 72) hx hb dX0_callMany_60 (by decide) (fun c60 => ?_) (fun c60 => ?_)
          · refine lv_iinc (v := nI (i + 1)) (lv' := [(5, .int (nI (i + 1))), (0, .ref (a 0)), (1, .int (nI f)), (2, .int ms), (3, .int (nI (frn (fRk ms f s rk 8) (scn s f)))), (4, .int ((fN1 f (frn (fRk ms f s rk 8) (scn s f)) ms (fNa (frn (fRk ms f s rk 8) (scn s f)) ms s) i).1))]) hx hb dX0_callMany_72 hl (k := 5) rfl (nI_add i 1) (by decide) rfl (fun ls hl => ?_)
            refine lv_goto (tgt := 37) hx hb dX0_callMany_75 (by decide) ?_
            exact ih_LP37 (i + 1) (by omega) (by omega) H locs ls (hz.cast (by first | (simp [fN1, c49]; done) | (simp [fN1, c49, c60]; done))) (lv_cast (lv_sub hl [1, 2, 3, 4, 5, 0] (l' := [(0, .ref (a 0)), (1, .int (nI f)), (2, .int ms), (3, .int (nI (frn (fRk ms f s rk 8) (scn s f)))), (4, .int ((fN1 f (frn (fRk ms f s rk 8) (scn s f)) ms (fNa (frn (fRk ms f s rk 8) (scn s f)) ms s) i).1)), (5, .int (nI (i + 1)))]) rfl) (by first | (simp [fN1, c49]; done) | (simp [fN1, c49, c60]; done)))
          · refine lv_iload hx hb dX0_callMany_63 (lv_at hl 4 rfl) ?_
            refine lv_iconst (v := (nI 1)) hx hb dX0_callMany_65 (by decide) ?_
            refine lv_iload hx hb dX0_callMany_66 (lv_at hl 5 rfl) ?_
            refine lv_ishl hx hb dX0_callMany_68 ?_
            refine lv_ior hx hb dX0_callMany_69 ?_
            refine lv_istore (lv' := [(4, .int (((fN1 f (frn (fRk ms f s rk 8) (scn s f)) ms (fNa (frn (fRk ms f s rk 8) (scn s f)) ms s) i).1) ||| ((nI 1) <<< ((nI i) &&& 31)))), (0, .ref (a 0)), (1, .int (nI f)), (2, .int ms), (3, .int (nI (frn (fRk ms f s rk 8) (scn s f)))), (5, .int (nI i))]) hx hb dX0_callMany_70 hl (by decide) rfl (fun ls hl => ?_)
            refine lv_iinc (v := nI (i + 1)) (lv' := [(5, .int (nI (i + 1))), (4, .int (((fN1 f (frn (fRk ms f s rk 8) (scn s f)) ms (fNa (frn (fRk ms f s rk 8) (scn s f)) ms s) i).1) ||| ((nI 1) <<< ((nI i) &&& 31)))), (0, .ref (a 0)), (1, .int (nI f)), (2, .int ms), (3, .int (nI (frn (fRk ms f s rk 8) (scn s f))))]) hx hb dX0_callMany_72 hl (k := 5) rfl (nI_add i 1) (by decide) rfl (fun ls hl => ?_)
            refine lv_goto (tgt := 37) hx hb dX0_callMany_75 (by decide) ?_
            exact ih_LP37 (i + 1) (by omega) (by omega) H locs ls (hz.cast (by first | (simp [fN1, c49]; done) | (simp [fN1, c49, c60]; done))) (lv_cast (lv_sub hl [2, 3, 4, 5, 1, 0] (l' := [(0, .ref (a 0)), (1, .int (nI f)), (2, .int ms), (3, .int (nI (frn (fRk ms f s rk 8) (scn s f)))), (4, .int (((fN1 f (frn (fRk ms f s rk 8) (scn s f)) ms (fNa (frn (fRk ms f s rk 8) (scn s f)) ms s) i).1) ||| ((nI 1) <<< ((nI i) &&& 31)))), (5, .int (nI (i + 1)))]) rfl) (by first | (simp [fN1, c49]; done) | (simp [fN1, c49, c60]; done)))
  exact LP37 _ 0 (by omega) (Nat.lt_succ_self _) H locs ls (hz.cast (by rfl)) (lv_cast (lv_sub hl [3, 4, 5, 2, 1, 0] (l' := [(0, .ref (a 0)), (1, .int (nI f)), (2, .int ms), (3, .int (nI (frn (fRk ms f s rk 8) (scn s f)))), (4, .int (nI 0)), (5, .int (nI 0))]) rfl) (by rfl))
theorem hd_X0_leaveLink : hdZ yX0_leaveLink 1 := by decide +kernel
set_option maxRecDepth 100000 in
set_option maxHeartbeats 4000000 in
theorem c_X0_leaveLink (l : Launch) (D : va_G) (cI cN : ClassId) (a : Nat → Nat) (s : Sz) (rk : Sz) (k : Nat) (hk : k < 5) (hL : IvL s) : Fn l D cI cN yX0_leaveLink wsX0_leaveLink 1 (nW cI a s rk) [.ref (a 0), .int (nI k)] (some (.int ((fHg k s).1))) (nW cI a ((fHg k s).2) rk) := by
  refine Fn.of (cc := cX0_leaveLink) (nL := 5) (ret := (some .int)) (lv := [(0, .ref (a 0)), (1, .int (nI k))]) (by decide +kernel) rfl (Nat.le_of_ble_eq_true rfl) rfl ?_
  intro p e s_ m args below meth c A B hr hA H locs ls hz hl
  have hx := B.1.1
  have hb := B.1.2.1
  have hinX0 : ∀ w ∈ u_ws RX0 TX0 16, w ∈ wsX0_leaveLink := by decide +kernel
  have lk31 : Cond.fieldLink yX0_leaveLink.cls 31 RX0 (TX0 10).2.1 (TX0 10).2.2.1 ∈ wsX0_leaveLink := by decide +kernel
  have hl2 : lnk s k < 256 := by have := (hL k hk).1; omega
  have hcl := clr_ok _ hl2 k (by omega)
  have LPj : ∀ (en : Bool), (en = fHe2 k s) → ∀ (H : Heap) (locs : List Loc) (ls : Array Slot), Hz D A s_.heap H locs (nW cI a s rk) → lv_has ls 5 [(0, .ref (a 0)), (1, .int (nI k)), (2, .int (nI (clr (lnk s k) k)))] → Wz p l e 1 s_ m args below meth c D A (some (.int ((fHg k s).1))) (nW cI a ((fHg k s).2) rk) H locs (F0 m 26 ls [.int (b2i en)]) := by
    intro en hen H locs ls hz hl
    refine lv_istore_n (lv' := [(3, .int (b2i en)), (0, .ref (a 0)), (1, .int (nI k)), (2, .int (nI (clr (lnk s k) k)))]) hx hb dX0_leaveLink_26 rfl hl (by decide) rfl (fun ls hl => ?_)
    refine lv_aload_n hx hb dX0_leaveLink_27 rfl (lv_at hl 1 rfl) ?_
    refine lv_iload_n hx hb dX0_leaveLink_28 rfl (lv_at hl 2 rfl) ?_
    refine cVv (C := RX0) (T := TX0) (N := 16) (ci := 0) (q0 := 0) (k := 1) (As := [.int (nI k)]) (rest := []) (ws1 := (nW cI a (fLv k s) rk)) B hz hA (c_X0_dropLink l D cI cN a s rk k (hk)) gX0_leaveLink_X0_dropLink rfl rfl hd_X0_dropLink (by decide) rfl rfl rfl hl.1 rfl (Nat.le_of_ble_eq_true rfl) dX0_leaveLink_29 (fun H locs hz => ?_)
    refine lv_iconst (v := (nI 0)) hx hb dX0_leaveLink_32 (by decide) ?_
    refine lv_istore (lv' := [(4, .int (nI 0)), (3, .int (b2i en)), (0, .ref (a 0)), (1, .int (nI k)), (2, .int (nI (clr (lnk s k) k)))]) hx hb dX0_leaveLink_33 hl (by decide) rfl (fun ls hl => ?_)
    have LP35 : ∀ (n_LP35 : Nat) (i : Nat), (i ≤ 5) → 5 - i < n_LP35 → ∀ (H : Heap) (locs : List Loc) (ls : Array Slot), Hz D A s_.heap H locs (nW cI a (fHl (clr (lnk s k) k) en (fLv k s) i) rk) → lv_has ls 5 [(0, .ref (a 0)), (1, .int (nI k)), (2, .int (nI (clr (lnk s k) k))), (3, .int (b2i en)), (4, .int (nI i))] → Wz p l e 1 s_ m args below meth c D A (some (.int ((fHg k s).1))) (nW cI a ((fHg k s).2) rk) H locs (F0 m 35 ls []) := by
      intro n_LP35
      induction n_LP35 with
      | zero => intro i hi hm; exact absurd hm (Nat.not_lt_zero _)
      | succ n_LP35 ih_LP35 =>
        intro i hi hm H locs ls hz hl
        refine lv_iload hx hb dX0_leaveLink_35 (lv_at hl 4 rfl) ?_
        refine lv_iconst (v := (nI 5)) hx hb dX0_leaveLink_37 (by decide) ?_
        refine ln_icmp_ge (tgt := 77) hx hb dX0_leaveLink_38 (by decide) (by constructor <;> omega) (fun c38 => ?_) (fun c38 => ?_)
        · refine lv_iload_n hx hb dX0_leaveLink_77 rfl (lv_at hl 3 rfl) ?_
          refine lb_if_eq (tgt := 85) hx hb dX0_leaveLink_78 (by decide) (fun c78 => ?_) (fun c78 => ?_)
          · refine lv_iload_n hx hb dX0_leaveLink_85 rfl (lv_at hl 2 rfl) ?_
            exact rz_i B hr hz dX0_leaveLink_86 (by subst hen; first | exact (if_pos c78).symm | exact (if_neg (by rw [c78]; decide)).symm) (by subst hen; obtain rfl : i = 5 := (by omega); rfl)
          · refine lv_iconst (v := (nI 0)) hx hb dX0_leaveLink_81 (by decide) ?_
            refine lv_goto (tgt := 86) hx hb dX0_leaveLink_82 (by decide) ?_
            exact rz_i B hr hz dX0_leaveLink_86 (by subst hen; first | exact (if_pos c78).symm | exact (if_neg (by rw [c78]; decide)).symm) (by subst hen; obtain rfl : i = 5 := (by omega); rfl)
        · refine lv_iload_n hx hb dX0_leaveLink_41 rfl (lv_at hl 2 rfl) ?_
          refine lv_iload hx hb dX0_leaveLink_42 (lv_at hl 4 rfl) ?_
          refine cNst (k := 1) (As := [.int (nI (clr (lnk s k) k)), .int (nI i)]) (rest := []) (v := .int (b2i (fHas (nI (clr (lnk s k) k)) (nI i)))) B hz hA (c_X1_contains l D cI cN (nI (clr (lnk s k) k)) (nI i) ) gX0_leaveLink_X1_contains_n89 rfl (by decide +kernel) (by decide +kernel) (by decide +kernel) rfl hd_X1_contains (by decide) rfl hl.1 rfl (Nat.le_of_ble_eq_true rfl) dX0_leaveLink_44 (fun H locs hz => ?_)
          refine lb_if_eq (tgt := 71) hx hb dX0_leaveLink_47 (by decide) (fun c47 => ?_) (fun c47 => ?_)
          · refine lv_iinc (v := nI (i + 1)) (lv' := [(4, .int (nI (i + 1))), (0, .ref (a 0)), (1, .int (nI k)), (2, .int (nI (clr (lnk s k) k))), (3, .int (b2i en))]) hx hb dX0_leaveLink_71 hl (k := 4) rfl (nI_add i 1) (by decide) rfl (fun ls hl => ?_)
            refine lv_goto (tgt := 35) hx hb dX0_leaveLink_74 (by decide) ?_
            exact ih_LP35 (i + 1) (by omega) (by omega) H locs ls (hz.cast (by first | (simp [fHl, c47]; done) | (simp [fHl, c47, c51]; done))) (lv_cast (lv_sub hl [1, 2, 3, 4, 0] (l' := [(0, .ref (a 0)), (1, .int (nI k)), (2, .int (nI (clr (lnk s k) k))), (3, .int (b2i en)), (4, .int (nI (i + 1)))]) rfl) (by rfl))
          · refine lv_iload_n hx hb dX0_leaveLink_50 rfl (lv_at hl 3 rfl) ?_
            refine lb_if_eq (tgt := 63) hx hb dX0_leaveLink_51 (by decide) (fun c51 => ?_) (fun c51 => ?_)
            · refine lv_aload_n hx hb dX0_leaveLink_63 rfl (lv_at hl 0 rfl) ?_
              refine gz (C := RX0) (T := TX0) (N := 16) (v := .ref (a 2)) B hz hinX0 0 rfl rfl 10 (by decide) lk31 rfl rfl dX0_leaveLink_64 ?_
              refine lv_iload hx hb dX0_leaveLink_67 (lv_at hl 4 rfl) ?_
              refine lv_iload_n hx hb dX0_leaveLink_69 rfl (lv_at hl 2 rfl) ?_
              refine istz (n := 5) (j := i) (ws1 := (nW cI a (upd (fHl (clr (lnk s k) k) en (fLv k s) i) (14 + i) (nI (clr (lnk s k) k))) rk)) B hz 2 rfl (by omega) (by decide) (nW_a2 cI a _ _ (by omega) _) dX0_leaveLink_70 (fun H locs hz => ?_)
              refine lv_iinc (v := nI (i + 1)) (lv' := [(4, .int (nI (i + 1))), (0, .ref (a 0)), (1, .int (nI k)), (2, .int (nI (clr (lnk s k) k))), (3, .int (b2i en))]) hx hb dX0_leaveLink_71 hl (k := 4) rfl (nI_add i 1) (by decide) rfl (fun ls hl => ?_)
              refine lv_goto (tgt := 35) hx hb dX0_leaveLink_74 (by decide) ?_
              exact ih_LP35 (i + 1) (by omega) (by omega) H locs ls (hz.cast (by first | (simp [fHl, c47]; done) | (simp [fHl, c47, c51]; done))) (lv_cast (lv_sub hl [1, 2, 3, 4, 0] (l' := [(0, .ref (a 0)), (1, .int (nI k)), (2, .int (nI (clr (lnk s k) k))), (3, .int (b2i en)), (4, .int (nI (i + 1)))]) rfl) (by rfl))
            · refine lv_aload_n hx hb dX0_leaveLink_54 rfl (lv_at hl 0 rfl) ?_
              refine lv_iload hx hb dX0_leaveLink_55 (lv_at hl 4 rfl) ?_
              refine cVv (C := RX0) (T := TX0) (N := 16) (ci := 0) (q0 := 0) (k := 1) (As := [.int (nI i)]) (rest := []) (ws1 := (nW cI a (fLv i (fHl (clr (lnk s k) k) en (fLv k s) i)) rk)) B hz hA (c_X0_dropLink l D cI cN a (fHl (clr (lnk s k) k) en (fLv k s) i) rk i (by omega)) gX0_leaveLink_X0_dropLink rfl rfl hd_X0_dropLink (by decide) rfl rfl rfl hl.1 rfl (Nat.le_of_ble_eq_true rfl) dX0_leaveLink_57 (fun H locs hz => ?_)
              refine lv_goto (tgt := 71) hx hb dX0_leaveLink_60 (by decide) ?_
              refine lv_iinc (v := nI (i + 1)) (lv' := [(4, .int (nI (i + 1))), (0, .ref (a 0)), (1, .int (nI k)), (2, .int (nI (clr (lnk s k) k))), (3, .int (b2i en))]) hx hb dX0_leaveLink_71 hl (k := 4) rfl (nI_add i 1) (by decide) rfl (fun ls hl => ?_)
              refine lv_goto (tgt := 35) hx hb dX0_leaveLink_74 (by decide) ?_
              exact ih_LP35 (i + 1) (by omega) (by omega) H locs ls (hz.cast (by first | (simp [fHl, c47]; done) | (simp [fHl, c47, c51]; done))) (lv_cast (lv_sub hl [1, 2, 3, 4, 0] (l' := [(0, .ref (a 0)), (1, .int (nI k)), (2, .int (nI (clr (lnk s k) k))), (3, .int (b2i en)), (4, .int (nI (i + 1)))]) rfl) (by rfl))
    exact LP35 _ 0 (by omega) (Nat.lt_succ_self _) H locs ls (hz.cast (by rfl)) (lv_cast (lv_sub hl [2, 3, 4, 1, 0] (l' := [(0, .ref (a 0)), (1, .int (nI k)), (2, .int (nI (clr (lnk s k) k))), (3, .int (b2i en)), (4, .int (nI 0))]) rfl) (by rfl))
  refine lv_aload_n hx hb dX0_leaveLink_0 rfl (lv_at hl 0 rfl) ?_
  refine gz (C := RX0) (T := TX0) (N := 16) (v := .ref (a 2)) B hz hinX0 0 rfl rfl 10 (by decide) lk31 rfl rfl dX0_leaveLink_1 ?_
  refine lv_iload_n hx hb dX0_leaveLink_4 rfl (lv_at hl 1 rfl) ?_
  refine ildz (n := 5) (j := k) (v := (s (14 + k))) B hz 2 rfl (by omega) (by decide) (seg_at (by omega)) dX0_leaveLink_5 ?_
  refine cvt (y := nI (lnk s k)) ((show IvL s by assumption) k (by omega)).2 ?_
  refine lv_iconst (v := (nI 1)) hx hb dX0_leaveLink_6 (by decide) ?_
  refine lv_iload_n hx hb dX0_leaveLink_7 rfl (lv_at hl 1 rfl) ?_
  refine lv_ishl hx hb dX0_leaveLink_8 ?_
  refine lv_iconst (v := (-1)) hx hb dX0_leaveLink_9 (by decide) ?_
  refine lv_ixor hx hb dX0_leaveLink_10 ?_
  refine lv_iand hx hb dX0_leaveLink_11 ?_
  refine cvt (y := nI (clr (lnk s k) k)) (hcl.1) ?_
  refine lv_istore_n (lv' := [(2, .int (nI (clr (lnk s k) k))), (0, .ref (a 0)), (1, .int (nI k))]) hx hb dX0_leaveLink_12 rfl hl (by decide) rfl (fun ls hl => ?_)
  refine lv_iload_n hx hb dX0_leaveLink_13 rfl (lv_at hl 0 rfl) ?_
  refine cS (k := 1) (As := [.int (nI (clr (lnk s k) k))]) (rest := []) (v := .int (nI (cnt (clr (lnk s k) k)))) B hz hA (c_bcN l D cI cN (clr (lnk s k) k) (hcl.2)) gX0_leaveLink_J6_bitCount_0f7a4 rfl hd_J6_bitCount_0f7a4 (by decide) rfl hl.1 rfl (Nat.le_of_ble_eq_true rfl) dX0_leaveLink_14 (fun H locs hz => ?_)
  refine lv_iconst (v := (nI 2)) hx hb dX0_leaveLink_17 (by decide) ?_
  refine ln_icmp_ge (tgt := 25) hx hb dX0_leaveLink_18 (by decide) (by have := cnt_le _ hcl.2; constructor <;> omega) (fun c18 => ?_) (fun c18 => ?_)
  · refine lv_iconst (v := (nI 0)) hx hb dX0_leaveLink_25 (by decide) ?_
    exact LPj  false (by unfold fHe2 fHr; simp; omega)  H locs ls (hz.cast (by rfl)) (lv_cast (lv_sub hl [1, 2, 0] (l' := [(0, .ref (a 0)), (1, .int (nI k)), (2, .int (nI (clr (lnk s k) k)))]) rfl) (by rfl))
  · refine lv_iconst (v := (nI 1)) hx hb dX0_leaveLink_21 (by decide) ?_
    refine lv_goto (tgt := 26) hx hb dX0_leaveLink_22 (by decide) ?_
    exact LPj  true (by unfold fHe2 fHr; simp; omega)  H locs ls (hz.cast (by rfl)) (lv_cast (lv_sub hl [1, 2, 0] (l' := [(0, .ref (a 0)), (1, .int (nI k)), (2, .int (nI (clr (lnk s k) k)))]) rfl) (by rfl))
theorem hd_X2_sortChannels : hdZ yX2_sortChannels 2 := by decide +kernel
set_option maxRecDepth 100000 in
set_option maxHeartbeats 4000000 in
theorem c_X2_sortChannels (l : Launch) (D : va_G) (cI cN : ClassId) (a : Nat → Nat) (s : Sz) (pst : Sz) (np : Nat) (er : Sz) (od : Sz) (rk : Sz) (hs : Int64) (f : Nat) (t : Nat) (hf : f < 5) (ht : t < 5) (hv : IvA s) : Fn l D cI cN yX2_sortChannels wsX2_sortChannels 2 (mW cI a s pst np er od rk hs) [.ref (a 0), .int (nI f), .int (nI t)] (some (.int (nI ((fSc f t s od rk 8).1)))) (mW cI a s pst np er ((fSc f t s od rk 8).2.1) ((fSc f t s od rk 8).2.2) hs) := by
  refine Fn.of (cc := cX2_sortChannels) (nL := 7) (ret := (some .int)) (lv := [(0, .ref (a 0)), (1, .int (nI f)), (2, .int (nI t))]) (by decide +kernel) rfl (Nat.le_of_ble_eq_true rfl) rfl ?_
  intro p e s_ m args below meth c A B hr hA H locs ls hz hl
  have hx := B.1.1
  have hb := B.1.2.1
  have hinX2 : ∀ w ∈ u_ws RX2 TX2 7, w ∈ wsX2_sortChannels := by decide +kernel
  have lk7 : Cond.fieldLink yX2_sortChannels.cls 7 RX2 (TX2 0).2.1 (TX2 0).2.2.1 ∈ wsX2_sortChannels := by decide +kernel
  have lk19 : Cond.fieldLink yX2_sortChannels.cls 19 RX2 (TX2 4).2.1 (TX2 4).2.2.1 ∈ wsX2_sortChannels := by decide +kernel
  have lk22 : Cond.fieldLink yX2_sortChannels.cls 22 RX2 (TX2 5).2.1 (TX2 5).2.2.1 ∈ wsX2_sortChannels := by decide +kernel
  refine lv_iconst (v := (nI 0)) hx hb dX2_sortChannels_0 (by decide) ?_
  refine lv_istore_n (lv' := [(3, .int (nI 0)), (0, .ref (a 0)), (1, .int (nI f)), (2, .int (nI t))]) hx hb dX2_sortChannels_1 rfl hl (by decide) rfl (fun ls hl => ?_)
  refine lv_iconst (v := (nI 0)) hx hb dX2_sortChannels_2 (by decide) ?_
  refine lv_istore (lv' := [(4, .int (nI 0)), (3, .int (nI 0)), (0, .ref (a 0)), (1, .int (nI f)), (2, .int (nI t))]) hx hb dX2_sortChannels_3 hl (by decide) rfl (fun ls hl => ?_)
  have LP5 : ∀ (n_LP5 : Nat) (ch : Nat), (ch ≤ 8) → 8 - ch < n_LP5 → ∀ (H : Heap) (locs : List Loc) (ls : Array Slot), Hz D A s_.heap H locs (mW cI a s pst np er ((fSc f t s od rk ch).2.1) ((fSc f t s od rk ch).2.2) hs) → lv_has ls 7 [(0, .ref (a 0)), (1, .int (nI f)), (2, .int (nI t)), (3, .int (nI ((fSc f t s od rk ch).1))), (4, .int (nI ch))] → Wz p l e 2 s_ m args below meth c D A (some (.int (nI ((fSc f t s od rk 8).1)))) (mW cI a s pst np er ((fSc f t s od rk 8).2.1) ((fSc f t s od rk 8).2.2) hs) H locs (F0 m 5 ls []) := by
    intro n_LP5
    induction n_LP5 with
    | zero => intro ch hch hm; exact absurd hm (Nat.not_lt_zero _)
    | succ n_LP5 ih_LP5 =>
      intro ch hch hm H locs ls hz hl
      refine lv_iload hx hb dX2_sortChannels_5 (lv_at hl 4 rfl) ?_
      refine lv_bipush (v := (nI 8)) hx hb dX2_sortChannels_7 (by decide) ?_
      refine ln_icmp_ge (tgt := 126) hx hb dX2_sortChannels_9 (by decide) (by constructor <;> omega) (fun c9 => ?_) (fun c9 => ?_)
      · refine lv_iload_n hx hb dX2_sortChannels_126 rfl (lv_at hl 3 rfl) ?_
        exact rz_i B hr hz dX2_sortChannels_127 (by rw [show ch = 8 by omega]) (by rw [show ch = 8 by omega])
      · refine lv_aload_n hx hb dX2_sortChannels_12 rfl (lv_at hl 0 rfl) ?_
        refine gz (C := RX2) (T := TX2) (N := 7) (v := .ref (a 1)) B hz hinX2 0 rfl rfl 0 (by decide) lk7 rfl rfl dX2_sortChannels_13 ?_
        refine lv_bipush (v := (nI 9)) hx hb dX2_sortChannels_16 (by decide) ?_
        refine lv_iload_n hx hb dX2_sortChannels_18 rfl (lv_at hl 1 rfl) ?_
        refine ln_add hx hb dX2_sortChannels_19 ?_
        refine ildz (n := 624) (j := (9 + f)) (v := (s (9 + f))) B hz 1 rfl (by have hsl := fSc_le f t s od rk ch; omega) (by decide) rfl dX2_sortChannels_20 ?_
        refine lv_iload hx hb dX2_sortChannels_21 (lv_at hl 4 rfl) ?_
        refine cS (k := 2) (As := [.int (s (9 + f)), .int (nI ch)]) (rest := []) (v := .int (b2i (fHas (s (9 + f)) (nI ch)))) B hz hA (c_X2_has l D cI cN (s (9 + f)) (nI ch) ) gX2_sortChannels_X2_has rfl hd_X2_has (by decide) rfl hl.1 rfl (Nat.le_of_ble_eq_true rfl) dX2_sortChannels_23 (fun H locs hz => ?_)
        refine lb_if_eq (tgt := 120) hx hb dX2_sortChannels_26 (by decide) (fun c26 => ?_) (fun c26 => ?_)
        · refine lv_iinc (v := nI (ch + 1)) (lv' := [(4, .int (nI (ch + 1))), (0, .ref (a 0)), (1, .int (nI f)), (2, .int (nI t)), (3, .int (nI ((fSc f t s od rk ch).1)))]) hx hb dX2_sortChannels_120 hl (k := 4) rfl (nI_add ch 1) (by decide) rfl (fun ls hl => ?_)
          refine lv_goto (tgt := 5) hx hb dX2_sortChannels_123 (by decide) ?_
          exact ih_LP5 (ch + 1) (by omega) (by omega) H locs ls (hz.cast (by simp [fSc, c26])) (lv_cast (lv_sub hl [1, 2, 3, 4, 0] (l' := [(0, .ref (a 0)), (1, .int (nI f)), (2, .int (nI t)), (3, .int (nI ((fSc f t s od rk ch).1))), (4, .int (nI (ch + 1)))]) rfl) (by simp [fSc, c26]))
        · refine lv_aload_n hx hb dX2_sortChannels_29 rfl (lv_at hl 0 rfl) ?_
          refine lv_iload_n hx hb dX2_sortChannels_30 rfl (lv_at hl 1 rfl) ?_
          refine lv_iload_n hx hb dX2_sortChannels_31 rfl (lv_at hl 2 rfl) ?_
          refine lv_iload hx hb dX2_sortChannels_32 (lv_at hl 4 rfl) ?_
          refine cV (C := RX2) (T := TX2) (N := 7) (ci := 2) (q0 := 0) (k := 2) (As := [.int (nI f), .int (nI t), .int (nI ch)]) (rest := []) (v := .int (fEf f t ch s)) (ws1 := (mW cI a s pst np er ((fSc f t s od rk ch).2.1) ((fSc f t s od rk ch).2.2) hs)) B hz hA (c_X2_effectiveOf l D cI cN a s pst np er ((fSc f t s od rk ch).2.1) ((fSc f t s od rk ch).2.2) hs f t ch (hf) (ht) (by omega) (hv)) gX2_sortChannels_X2_effectiveOf rfl rfl hd_X2_effectiveOf (by decide) rfl rfl rfl hl.1 rfl (Nat.le_of_ble_eq_true rfl) dX2_sortChannels_34 (fun H locs hz => ?_)
          refine lv_istore (lv' := [(5, .int (fEf f t ch s)), (0, .ref (a 0)), (1, .int (nI f)), (2, .int (nI t)), (3, .int (nI ((fSc f t s od rk ch).1))), (4, .int (nI ch))]) hx hb dX2_sortChannels_37 hl (by decide) rfl (fun ls hl => ?_)
          refine lv_iload_n hx hb dX2_sortChannels_39 rfl (lv_at hl 4 rfl) ?_
          refine lv_istore (lv' := [(6, .int (nI ((fSc f t s od rk ch).1))), (5, .int (fEf f t ch s)), (0, .ref (a 0)), (1, .int (nI f)), (2, .int (nI t)), (3, .int (nI ((fSc f t s od rk ch).1))), (4, .int (nI ch))]) hx hb dX2_sortChannels_40 hl (by decide) rfl (fun ls hl => ?_)
          have LP42 : ∀ (n_LP42 : Nat) (k : Nat), (k ≤ (fSc f t s od rk ch).1) → (insK (fSc f t s od rk ch).2.2 (fEf f t ch s) k = insK (fSc f t s od rk ch).2.2 (fEf f t ch s) (fSc f t s od rk ch).1) → k < n_LP42 → ∀ (H : Heap) (locs : List Loc) (ls : Array Slot), Hz D A s_.heap H locs (mW cI a s pst np er (shf (fSc f t s od rk ch).2.1 k (fSc f t s od rk ch).1) (shf (fSc f t s od rk ch).2.2 k (fSc f t s od rk ch).1) hs) → lv_has ls 7 [(0, .ref (a 0)), (1, .int (nI f)), (2, .int (nI t)), (3, .int (nI ((fSc f t s od rk ch).1))), (4, .int (nI ch)), (5, .int (fEf f t ch s)), (6, .int (nI k))] → Wz p l e 2 s_ m args below meth c D A (some (.int (nI ((fSc f t s od rk 8).1)))) (mW cI a s pst np er ((fSc f t s od rk 8).2.1) ((fSc f t s od rk 8).2.2) hs) H locs (F0 m 42 ls []) := by
            intro n_LP42
            induction n_LP42 with
            | zero => intro k hkn hik hm; exact absurd hm (Nat.not_lt_zero _)
            | succ n_LP42 ih_LP42 =>
              intro k hkn hik hm H locs ls hz hl
              refine lv_iload hx hb dX2_sortChannels_42 (lv_at hl 6 rfl) ?_
              refine ln_if_le (tgt := 99) hx hb dX2_sortChannels_44 (by decide) (by have hsl := fSc_le f t s od rk ch; omega) (fun c44 => ?_) (fun c44 => ?_)
              · refine lv_aload_n hx hb dX2_sortChannels_99 rfl (lv_at hl 0 rfl) ?_
                refine gz (C := RX2) (T := TX2) (N := 7) (v := .ref (a 5)) B hz hinX2 0 rfl rfl 5 (by decide) lk22 rfl rfl dX2_sortChannels_100 ?_
                refine lv_iload hx hb dX2_sortChannels_103 (lv_at hl 6 rfl) ?_
                refine lv_iload hx hb dX2_sortChannels_105 (lv_at hl 5 rfl) ?_
                refine istz (n := 8) (j := k) (ws1 := (mW cI a s pst np er (shf (fSc f t s od rk ch).2.1 k (fSc f t s od rk ch).1) (upd (shf (fSc f t s od rk ch).2.2 k (fSc f t s od rk ch).1) k (fEf f t ch s)) hs)) B hz 5 rfl (by have hsl := fSc_le f t s od rk ch; omega) (by decide) rfl dX2_sortChannels_107 (fun H locs hz => ?_)
                refine lv_aload_n hx hb dX2_sortChannels_108 rfl (lv_at hl 0 rfl) ?_
                refine gz (C := RX2) (T := TX2) (N := 7) (v := .ref (a 4)) B hz hinX2 0 rfl rfl 4 (by decide) lk19 rfl rfl dX2_sortChannels_109 ?_
                refine lv_iload hx hb dX2_sortChannels_112 (lv_at hl 6 rfl) ?_
                refine lv_iload hx hb dX2_sortChannels_114 (lv_at hl 4 rfl) ?_
                refine istz (n := 8) (j := k) (ws1 := (mW cI a s pst np er (upd (shf (fSc f t s od rk ch).2.1 k (fSc f t s od rk ch).1) k (nI ch)) (upd (shf (fSc f t s od rk ch).2.2 k (fSc f t s od rk ch).1) k (fEf f t ch s)) hs)) B hz 4 rfl (by have hsl := fSc_le f t s od rk ch; omega) (by decide) rfl dX2_sortChannels_116 (fun H locs hz => ?_)
                refine lv_iinc (v := nI ((fSc f t s od rk ch).1 + 1)) (lv' := [(3, .int (nI ((fSc f t s od rk ch).1 + 1))), (0, .ref (a 0)), (1, .int (nI f)), (2, .int (nI t)), (4, .int (nI ch)), (5, .int (fEf f t ch s)), (6, .int (nI k))]) hx hb dX2_sortChannels_117 hl (k := 3) rfl (nI_add ((fSc f t s od rk ch).1) 1) (by decide) rfl (fun ls hl => ?_)
                refine lv_iinc (v := nI (ch + 1)) (lv' := [(4, .int (nI (ch + 1))), (3, .int (nI ((fSc f t s od rk ch).1 + 1))), (0, .ref (a 0)), (1, .int (nI f)), (2, .int (nI t)), (5, .int (fEf f t ch s)), (6, .int (nI k))]) hx hb dX2_sortChannels_120 hl (k := 4) rfl (nI_add ch 1) (by decide) rfl (fun ls hl => ?_)
                refine lv_goto (tgt := 5) hx hb dX2_sortChannels_123 (by decide) ?_
                have hke : insK (fSc f t s od rk ch).2.2 (fEf f t ch s) (fSc f t s od rk ch).1 = k := hik.symm.trans (insK_e (by first | exact Or.inl c44 | exact Or.inr c58))
                exact ih_LP5 (ch + 1) (by omega) (by omega) H locs ls (hz.cast (by simp [fSc, c26, hke, insA])) (lv_cast (lv_sub hl [2, 3, 4, 1, 0] (l' := [(0, .ref (a 0)), (1, .int (nI f)), (2, .int (nI t)), (3, .int (nI ((fSc f t s od rk ch).1 + 1))), (4, .int (nI (ch + 1)))]) rfl) (by simp [fSc, c26, hke, insA]))
              · refine lv_aload_n hx hb dX2_sortChannels_47 rfl (lv_at hl 0 rfl) ?_
                refine gz (C := RX2) (T := TX2) (N := 7) (v := .ref (a 5)) B hz hinX2 0 rfl rfl 5 (by decide) lk22 rfl rfl dX2_sortChannels_48 ?_
                refine lv_iload hx hb dX2_sortChannels_51 (lv_at hl 6 rfl) ?_
                refine lv_iconst (v := (nI 1)) hx hb dX2_sortChannels_53 (by decide) ?_
                refine lv_isub hx hb dX2_sortChannels_54 ?_
                refine cvt (y := nI (k - 1)) (pk_sub (by omega)) ?_
                refine ildz (n := 8) (j := (k - 1)) (v := ((shf (fSc f t s od rk ch).2.2 k (fSc f t s od rk ch).1) (k - 1))) B hz 5 rfl (by have hsl := fSc_le f t s od rk ch; omega) (by decide) rfl dX2_sortChannels_55 ?_
                refine cvt (y := ((fSc f t s od rk ch).2.2 (k - 1))) shf_rd ?_
                refine lv_iload hx hb dX2_sortChannels_56 (lv_at hl 5 rfl) ?_
                refine lv_icmp_ge (tgt := 99) hx hb dX2_sortChannels_58 (by decide) (fun c58 => ?_) (fun c58 => ?_)
                · refine lv_aload_n hx hb dX2_sortChannels_99 rfl (lv_at hl 0 rfl) ?_
                  refine gz (C := RX2) (T := TX2) (N := 7) (v := .ref (a 5)) B hz hinX2 0 rfl rfl 5 (by decide) lk22 rfl rfl dX2_sortChannels_100 ?_
                  refine lv_iload hx hb dX2_sortChannels_103 (lv_at hl 6 rfl) ?_
                  refine lv_iload hx hb dX2_sortChannels_105 (lv_at hl 5 rfl) ?_
                  refine istz (n := 8) (j := k) (ws1 := (mW cI a s pst np er (shf (fSc f t s od rk ch).2.1 k (fSc f t s od rk ch).1) (upd (shf (fSc f t s od rk ch).2.2 k (fSc f t s od rk ch).1) k (fEf f t ch s)) hs)) B hz 5 rfl (by have hsl := fSc_le f t s od rk ch; omega) (by decide) rfl dX2_sortChannels_107 (fun H locs hz => ?_)
                  refine lv_aload_n hx hb dX2_sortChannels_108 rfl (lv_at hl 0 rfl) ?_
                  refine gz (C := RX2) (T := TX2) (N := 7) (v := .ref (a 4)) B hz hinX2 0 rfl rfl 4 (by decide) lk19 rfl rfl dX2_sortChannels_109 ?_
                  refine lv_iload hx hb dX2_sortChannels_112 (lv_at hl 6 rfl) ?_
                  refine lv_iload hx hb dX2_sortChannels_114 (lv_at hl 4 rfl) ?_
                  refine istz (n := 8) (j := k) (ws1 := (mW cI a s pst np er (upd (shf (fSc f t s od rk ch).2.1 k (fSc f t s od rk ch).1) k (nI ch)) (upd (shf (fSc f t s od rk ch).2.2 k (fSc f t s od rk ch).1) k (fEf f t ch s)) hs)) B hz 4 rfl (by have hsl := fSc_le f t s od rk ch; omega) (by decide) rfl dX2_sortChannels_116 (fun H locs hz => ?_)
                  refine lv_iinc (v := nI ((fSc f t s od rk ch).1 + 1)) (lv' := [(3, .int (nI ((fSc f t s od rk ch).1 + 1))), (0, .ref (a 0)), (1, .int (nI f)), (2, .int (nI t)), (4, .int (nI ch)), (5, .int (fEf f t ch s)), (6, .int (nI k))]) hx hb dX2_sortChannels_117 hl (k := 3) rfl (nI_add ((fSc f t s od rk ch).1) 1) (by decide) rfl (fun ls hl => ?_)
                  refine lv_iinc (v := nI (ch + 1)) (lv' := [(4, .int (nI (ch + 1))), (3, .int (nI ((fSc f t s od rk ch).1 + 1))), (0, .ref (a 0)), (1, .int (nI f)), (2, .int (nI t)), (5, .int (fEf f t ch s)), (6, .int (nI k))]) hx hb dX2_sortChannels_120 hl (k := 4) rfl (nI_add ch 1) (by decide) rfl (fun ls hl => ?_)
                  refine lv_goto (tgt := 5) hx hb dX2_sortChannels_123 (by decide) ?_
                  have hke : insK (fSc f t s od rk ch).2.2 (fEf f t ch s) (fSc f t s od rk ch).1 = k := hik.symm.trans (insK_e (by first | exact Or.inl c44 | exact Or.inr c58))
                  exact ih_LP5 (ch + 1) (by omega) (by omega) H locs ls (hz.cast (by simp [fSc, c26, hke, insA])) (lv_cast (lv_sub hl [2, 3, 4, 1, 0] (l' := [(0, .ref (a 0)), (1, .int (nI f)), (2, .int (nI t)), (3, .int (nI ((fSc f t s od rk ch).1 + 1))), (4, .int (nI (ch + 1)))]) rfl) (by simp [fSc, c26, hke, insA]))
                · refine lv_aload_n hx hb dX2_sortChannels_61 rfl (lv_at hl 0 rfl) ?_
                  refine gz (C := RX2) (T := TX2) (N := 7) (v := .ref (a 5)) B hz hinX2 0 rfl rfl 5 (by decide) lk22 rfl rfl dX2_sortChannels_62 ?_
                  refine lv_iload hx hb dX2_sortChannels_65 (lv_at hl 6 rfl) ?_
                  refine lv_aload_n hx hb dX2_sortChannels_67 rfl (lv_at hl 0 rfl) ?_
                  refine gz (C := RX2) (T := TX2) (N := 7) (v := .ref (a 5)) B hz hinX2 0 rfl rfl 5 (by decide) lk22 rfl rfl dX2_sortChannels_68 ?_
                  refine lv_iload hx hb dX2_sortChannels_71 (lv_at hl 6 rfl) ?_
                  refine lv_iconst (v := (nI 1)) hx hb dX2_sortChannels_73 (by decide) ?_
                  refine lv_isub hx hb dX2_sortChannels_74 ?_
                  refine cvt (y := nI (k - 1)) (pk_sub (by omega)) ?_
                  refine ildz (n := 8) (j := (k - 1)) (v := ((shf (fSc f t s od rk ch).2.2 k (fSc f t s od rk ch).1) (k - 1))) B hz 5 rfl (by have hsl := fSc_le f t s od rk ch; omega) (by decide) rfl dX2_sortChannels_75 ?_
                  refine cvt (y := ((fSc f t s od rk ch).2.2 (k - 1))) shf_rd ?_
                  refine istz (n := 8) (j := k) (ws1 := (mW cI a s pst np er (shf (fSc f t s od rk ch).2.1 k (fSc f t s od rk ch).1) (upd (shf (fSc f t s od rk ch).2.2 k (fSc f t s od rk ch).1) k ((fSc f t s od rk ch).2.2 (k - 1))) hs)) B hz 5 rfl (by have hsl := fSc_le f t s od rk ch; omega) (by decide) rfl dX2_sortChannels_76 (fun H locs hz => ?_)
                  refine lv_aload_n hx hb dX2_sortChannels_77 rfl (lv_at hl 0 rfl) ?_
                  refine gz (C := RX2) (T := TX2) (N := 7) (v := .ref (a 4)) B hz hinX2 0 rfl rfl 4 (by decide) lk19 rfl rfl dX2_sortChannels_78 ?_
                  refine lv_iload hx hb dX2_sortChannels_81 (lv_at hl 6 rfl) ?_
                  refine lv_aload_n hx hb dX2_sortChannels_83 rfl (lv_at hl 0 rfl) ?_
                  refine gz (C := RX2) (T := TX2) (N := 7) (v := .ref (a 4)) B hz hinX2 0 rfl rfl 4 (by decide) lk19 rfl rfl dX2_sortChannels_84 ?_
                  refine lv_iload hx hb dX2_sortChannels_87 (lv_at hl 6 rfl) ?_
                  refine lv_iconst (v := (nI 1)) hx hb dX2_sortChannels_89 (by decide) ?_
                  refine lv_isub hx hb dX2_sortChannels_90 ?_
                  refine cvt (y := nI (k - 1)) (pk_sub (by omega)) ?_
                  refine ildz (n := 8) (j := (k - 1)) (v := ((shf (fSc f t s od rk ch).2.1 k (fSc f t s od rk ch).1) (k - 1))) B hz 4 rfl (by have hsl := fSc_le f t s od rk ch; omega) (by decide) rfl dX2_sortChannels_91 ?_
                  refine cvt (y := (((fSc f t s od rk ch).2.1) (k - 1))) shf_rd ?_
                  refine istz (n := 8) (j := k) (ws1 := (mW cI a s pst np er (upd (shf (fSc f t s od rk ch).2.1 k (fSc f t s od rk ch).1) k (((fSc f t s od rk ch).2.1) (k - 1))) (upd (shf (fSc f t s od rk ch).2.2 k (fSc f t s od rk ch).1) k ((fSc f t s od rk ch).2.2 (k - 1))) hs)) B hz 4 rfl (by have hsl := fSc_le f t s od rk ch; omega) (by decide) rfl dX2_sortChannels_92 (fun H locs hz => ?_)
                  refine lv_iinc (v := nI (k - 1)) (lv' := [(6, .int (nI (k - 1))), (0, .ref (a 0)), (1, .int (nI f)), (2, .int (nI t)), (3, .int (nI ((fSc f t s od rk ch).1))), (4, .int (nI ch)), (5, .int (fEf f t ch s))]) hx hb dX2_sortChannels_93 hl (k := 6) rfl (nI_m1 c44) (by decide) rfl (fun ls hl => ?_)
                  refine lv_goto (tgt := 42) hx hb dX2_sortChannels_96 (by decide) ?_
                  exact ih_LP42 (k - 1) (by omega) ((insK_s c44 c58).symm.trans hik) (by omega) H locs ls (hz.cast (by rw [shf_s c44 hkn, shf_s c44 hkn])) (lv_cast (lv_sub hl [1, 2, 3, 4, 5, 6, 0] (l' := [(0, .ref (a 0)), (1, .int (nI f)), (2, .int (nI t)), (3, .int (nI ((fSc f t s od rk ch).1))), (4, .int (nI ch)), (5, .int (fEf f t ch s)), (6, .int (nI (k - 1)))]) rfl) (by rfl))
          exact LP42 _ ((fSc f t s od rk ch).1) (Nat.le_refl _) (rfl) (Nat.lt_succ_self _) H locs ls (hz.cast (by rw [shf_0, shf_0])) (lv_cast (lv_sub hl [2, 3, 4, 5, 6, 1, 0] (l' := [(0, .ref (a 0)), (1, .int (nI f)), (2, .int (nI t)), (3, .int (nI ((fSc f t s od rk ch).1))), (4, .int (nI ch)), (5, .int (fEf f t ch s)), (6, .int (nI ((fSc f t s od rk ch).1)))]) rfl) (by rfl))
  exact LP5 _ 0 (by omega) (Nat.lt_succ_self _) H locs ls (hz.cast (by rfl)) (lv_cast (lv_sub hl [2, 3, 4, 1, 0] (l' := [(0, .ref (a 0)), (1, .int (nI f)), (2, .int (nI t)), (3, .int (nI 0)), (4, .int (nI 0))]) rfl) (by rfl))
theorem hd_X2_netChannelOf : hdZ yX2_netChannelOf 2 := by decide +kernel
set_option maxRecDepth 100000 in
set_option maxHeartbeats 4000000 in
theorem c_X2_netChannelOf (l : Launch) (D : va_G) (cI cN : ClassId) (a : Nat → Nat) (s : Sz) (pst : Sz) (np : Nat) (er : Sz) (od : Sz) (rk : Sz) (hs : Int64) (f : Nat) (ms : Int32) (hf : f < 5) (hv : IvA s) : Fn l D cI cN yX2_netChannelOf wsX2_netChannelOf 3 (mW cI a s pst np er od rk hs) [.ref (a 0), .int (nI f), .int ms] (some (.int (oI (fFr (fun ch => fNs (nI 31) ms f ch s 5) (s (9 + f)) 8)))) (mW cI a s pst np er od rk hs) := by
  refine Fn.of (cc := cX2_netChannelOf) (nL := 6) (ret := (some .int)) (lv := [(0, .ref (a 0)), (1, .int (nI f)), (2, .int ms)]) (by decide +kernel) rfl (Nat.le_of_ble_eq_true rfl) rfl ?_
  intro p e s_ m args below meth c A B hr hA H locs ls hz hl
  have hx := B.1.1
  have hb := B.1.2.1
  have hinX2 : ∀ w ∈ u_ws RX2 TX2 7, w ∈ wsX2_netChannelOf := by decide +kernel
  have lk7 : Cond.fieldLink yX2_netChannelOf.cls 7 RX2 (TX2 0).2.1 (TX2 0).2.2.1 ∈ wsX2_netChannelOf := by decide +kernel
  refine lv_iconst (v := (-1)) hx hb dX2_netChannelOf_0 (by decide) ?_
  refine lv_istore_n (lv' := [(3, .int (-1)), (0, .ref (a 0)), (1, .int (nI f)), (2, .int ms)]) hx hb dX2_netChannelOf_1 rfl hl (by decide) rfl (fun ls hl => ?_)
  refine lv_iconst (v := (nI 0)) hx hb dX2_netChannelOf_2 (by decide) ?_
  refine lv_istore (lv' := [(4, .int (nI 0)), (3, .int (-1)), (0, .ref (a 0)), (1, .int (nI f)), (2, .int ms)]) hx hb dX2_netChannelOf_3 hl (by decide) rfl (fun ls hl => ?_)
  have LP : ∀ (n_LP : Nat) (i : Nat) (bo : Option Nat), (i ≤ 8) → (bo = fFr (fun ch => fNs (nI 31) ms f ch s 5) (s (9 + f)) i) → 8 - i < n_LP → ∀ (H : Heap) (locs : List Loc) (ls : Array Slot), Hz D A s_.heap H locs (mW cI a s pst np er od rk hs) → lv_has ls 6 [(0, .ref (a 0)), (1, .int (nI f)), (2, .int ms), (3, .int (oI bo)), (4, .int (nI i))] → Wz p l e 3 s_ m args below meth c D A (some (.int (oI (fFr (fun ch => fNs (nI 31) ms f ch s 5) (s (9 + f)) 8)))) (mW cI a s pst np er od rk hs) H locs (F0 m 5 ls []) := by
    intro n_LP
    induction n_LP with
    | zero => intro i bo hi hbo hm; exact absurd hm (Nat.not_lt_zero _)
    | succ n_LP ih_LP =>
      intro i bo hi hbo hm H locs ls hz hl
      refine lv_iload hx hb dX2_netChannelOf_5 (lv_at hl 4 rfl) ?_
      refine lv_bipush (v := (nI 8)) hx hb dX2_netChannelOf_7 (by decide) ?_
      refine ln_icmp_ge (tgt := 77) hx hb dX2_netChannelOf_9 (by decide) (by constructor <;> omega) (fun c9 => ?_) (fun c9 => ?_)
      · refine lv_iload_n hx hb dX2_netChannelOf_77 rfl (lv_at hl 3 rfl) ?_
        exact rz_i B hr hz dX2_netChannelOf_78 (by rw [hbo, show i = 8 by omega]) (by rfl)
      · refine lv_aload_n hx hb dX2_netChannelOf_12 rfl (lv_at hl 0 rfl) ?_
        refine gz (C := RX2) (T := TX2) (N := 7) (v := .ref (a 1)) B hz hinX2 0 rfl rfl 0 (by decide) lk7 rfl rfl dX2_netChannelOf_13 ?_
        refine lv_bipush (v := (nI 9)) hx hb dX2_netChannelOf_16 (by decide) ?_
        refine lv_iload_n hx hb dX2_netChannelOf_18 rfl (lv_at hl 1 rfl) ?_
        refine ln_add hx hb dX2_netChannelOf_19 ?_
        refine ildz (n := 624) (j := (9 + f)) (v := (s (9 + f))) B hz 1 rfl (by omega) (by decide) rfl dX2_netChannelOf_20 ?_
        refine lv_iload hx hb dX2_netChannelOf_21 (lv_at hl 4 rfl) ?_
        refine cS (k := 3) (As := [.int (s (9 + f)), .int (nI i)]) (rest := []) (v := .int (b2i (fHas (s (9 + f)) (nI i)))) B hz hA (c_X2_has l D cI cN (s (9 + f)) (nI i) ) gX2_netChannelOf_X2_has rfl hd_X2_has (by decide) rfl hl.1 rfl (Nat.le_of_ble_eq_true rfl) dX2_netChannelOf_23 (fun H locs hz => ?_)
        refine lb_if_eq (tgt := 56) hx hb dX2_netChannelOf_26 (by decide) (fun c26 => ?_) (fun c26 => ?_)
        · refine lv_iconst (v := (nI 0)) hx hb dX2_netChannelOf_56 (by decide) ?_
          refine lv_istore (lv' := [(5, .int (nI 0)), (0, .ref (a 0)), (1, .int (nI f)), (2, .int ms), (3, .int (oI bo)), (4, .int (nI i))]) hx hb dX2_netChannelOf_57 hl (by decide) rfl (fun ls hl => ?_)
          refine lv_iload hx hb dX2_netChannelOf_59 (lv_at hl 0 rfl) ?_
          refine ln_if_eq (tgt := 69) hx hb dX2_netChannelOf_61 (by decide) (by decide) (fun c61 => ?_) (fun c61 => ?_)
          · refine lv_iload_n hx hb dX2_netChannelOf_69 rfl (lv_at hl 4 rfl) ?_
            refine lv_istore_n (lv' := [(3, .int (oI bo)), (5, .int (nI 0)), (0, .ref (a 0)), (1, .int (nI f)), (2, .int ms), (4, .int (nI i))]) hx hb dX2_netChannelOf_70 rfl hl (by decide) rfl (fun ls hl => ?_)
            refine lv_iinc (v := nI (i + 1)) (lv' := [(4, .int (nI (i + 1))), (3, .int (oI bo)), (5, .int (nI 0)), (0, .ref (a 0)), (1, .int (nI f)), (2, .int ms)]) hx hb dX2_netChannelOf_71 hl (k := 5) rfl (nI_add i 1) (by decide) rfl (fun ls hl => ?_)
            refine lv_goto (tgt := 5) hx hb dX2_netChannelOf_74 (by decide) ?_
            exact ih_LP (i + 1) bo (by omega) (by first | exact fFr_0 c26 hbo | exact fFr_n c26 hbo | exact fFr_k c26 hbo c49 | exact fFr_s c26 hbo c49) (by omega) H locs ls (hz.cast (by rfl)) (lv_cast (lv_sub hl [3, 4, 5, 1, 0] (l' := [(0, .ref (a 0)), (1, .int (nI f)), (2, .int ms), (3, .int (oI bo)), (4, .int (nI (i + 1)))]) rfl) (by rfl))
          · first | exact absurd rfl c61 | exact absurd c61 (by decide)
        · cases bo with
          | none =>
            refine lv_iload_n hx hb dX2_netChannelOf_29 rfl (lv_at hl 3 rfl) ?_
            refine lv_iconst (v := (-1)) hx hb dX2_netChannelOf_30 (by decide) ?_
            refine lv_icmp_eq (tgt := 52) hx hb dX2_netChannelOf_31 (by decide) (fun c31 => ?_) (fun c31 => ?_)
            · refine lv_iconst (v := (nI 1)) hx hb dX2_netChannelOf_52 (by decide) ?_
              refine lv_goto (tgt := 57) hx hb dX2_netChannelOf_53 (by decide) ?_
              refine lv_istore (lv' := [(5, .int (nI 1)), (0, .ref (a 0)), (1, .int (nI f)), (2, .int ms), (3, .int (-1)), (4, .int (nI i))]) hx hb dX2_netChannelOf_57 hl (by decide) rfl (fun ls hl => ?_)
              refine lv_iload hx hb dX2_netChannelOf_59 (lv_at hl 0 rfl) ?_
              refine ln_if_eq (tgt := 69) hx hb dX2_netChannelOf_61 (by decide) (by decide) (fun c61 => ?_) (fun c61 => ?_)
              · first | exact absurd rfl c61 | exact absurd c61 (by decide)
              · refine lv_iload hx hb dX2_netChannelOf_64 (lv_at hl 5 rfl) ?_
                refine lv_goto (tgt := 70) hx hb dX2_netChannelOf_66 (by decide) ?_
                refine lv_istore_n (lv' := [(3, .int (nI i)), (5, .int (nI 1)), (0, .ref (a 0)), (1, .int (nI f)), (2, .int ms), (4, .int (nI i))]) hx hb dX2_netChannelOf_70 rfl hl (by decide) rfl (fun ls hl => ?_)
                refine lv_iinc (v := nI (i + 1)) (lv' := [(4, .int (nI (i + 1))), (3, .int (nI i)), (5, .int (nI 1)), (0, .ref (a 0)), (1, .int (nI f)), (2, .int ms)]) hx hb dX2_netChannelOf_71 hl (k := 5) rfl (nI_add i 1) (by decide) rfl (fun ls hl => ?_)
                refine lv_goto (tgt := 5) hx hb dX2_netChannelOf_74 (by decide) ?_
                exact ih_LP (i + 1) (some i) (by omega) (by first | exact fFr_0 c26 hbo | exact fFr_n c26 hbo | exact fFr_k c26 hbo c49 | exact fFr_s c26 hbo c49) (by omega) H locs ls (hz.cast (by rfl)) (lv_cast (lv_sub hl [3, 4, 5, 1, 0] (l' := [(0, .ref (a 0)), (1, .int (nI f)), (2, .int ms), (3, .int (nI i)), (4, .int (nI (i + 1)))]) rfl) (by rfl))
            · exact absurd rfl c31
          | some b =>
            have hb8 := (fFr_lt hbo.symm).1
            refine lv_iload_n hx hb dX2_netChannelOf_29 rfl (lv_at hl 3 rfl) ?_
            refine lv_iconst (v := (-1)) hx hb dX2_netChannelOf_30 (by decide) ?_
            refine lv_icmp_eq (tgt := 52) hx hb dX2_netChannelOf_31 (by decide) (fun c31 => ?_) (fun c31 => ?_)
            · exact absurd c31 (nI_nm1 (by omega))
            · refine lv_aload_n hx hb dX2_netChannelOf_34 rfl (lv_at hl 0 rfl) ?_
              refine lv_iload_n hx hb dX2_netChannelOf_35 rfl (lv_at hl 1 rfl) ?_
              refine lv_iload_n hx hb dX2_netChannelOf_36 rfl (lv_at hl 2 rfl) ?_
              refine lv_iload hx hb dX2_netChannelOf_37 (lv_at hl 4 rfl) ?_
              refine cV (C := RX2) (T := TX2) (N := 7) (ci := 2) (q0 := 0) (k := 3) (As := [.int (nI f), .int ms, .int (nI i)]) (rest := []) (v := .int (fNs (nI 31) ms f i s 5)) (ws1 := (mW cI a s pst np er od rk hs)) B hz hA (c_X2_netScore l D cI cN a s pst np er od rk hs f ms i (hf) (by omega) (hv)) gX2_netChannelOf_X2_netScore rfl rfl hd_X2_netScore (by decide) rfl rfl rfl hl.1 rfl (Nat.le_of_ble_eq_true rfl) dX2_netChannelOf_39 (fun H locs hz => ?_)
              refine lv_aload_n hx hb dX2_netChannelOf_42 rfl (lv_at hl 0 rfl) ?_
              refine lv_iload_n hx hb dX2_netChannelOf_43 rfl (lv_at hl 1 rfl) ?_
              refine lv_iload_n hx hb dX2_netChannelOf_44 rfl (lv_at hl 2 rfl) ?_
              refine lv_iload_n hx hb dX2_netChannelOf_45 rfl (lv_at hl 3 rfl) ?_
              refine cV (C := RX2) (T := TX2) (N := 7) (ci := 2) (q0 := 0) (k := 3) (As := [.int (nI f), .int ms, .int (nI b)]) (rest := [.int (fNs (nI 31) ms f i s 5)]) (v := .int (fNs (nI 31) ms f b s 5)) (ws1 := (mW cI a s pst np er od rk hs)) B hz hA (c_X2_netScore l D cI cN a s pst np er od rk hs f ms b (hf) (by omega) (hv)) gX2_netChannelOf_X2_netScore rfl rfl hd_X2_netScore (by decide) rfl rfl rfl hl.1 rfl (Nat.le_of_ble_eq_true rfl) dX2_netChannelOf_46 (fun H locs hz => ?_)
              refine lv_icmp_le (tgt := 56) hx hb dX2_netChannelOf_49 (by decide) (fun c49 => ?_) (fun c49 => ?_)
              · refine lv_iconst (v := (nI 0)) hx hb dX2_netChannelOf_56 (by decide) ?_
                refine lv_istore (lv' := [(5, .int (nI 0)), (0, .ref (a 0)), (1, .int (nI f)), (2, .int ms), (3, .int (nI b)), (4, .int (nI i))]) hx hb dX2_netChannelOf_57 hl (by decide) rfl (fun ls hl => ?_)
                refine lv_iload hx hb dX2_netChannelOf_59 (lv_at hl 0 rfl) ?_
                refine ln_if_eq (tgt := 69) hx hb dX2_netChannelOf_61 (by decide) (by decide) (fun c61 => ?_) (fun c61 => ?_)
                · refine lv_iload_n hx hb dX2_netChannelOf_69 rfl (lv_at hl 4 rfl) ?_
                  refine lv_istore_n (lv' := [(3, .int (nI b)), (5, .int (nI 0)), (0, .ref (a 0)), (1, .int (nI f)), (2, .int ms), (4, .int (nI i))]) hx hb dX2_netChannelOf_70 rfl hl (by decide) rfl (fun ls hl => ?_)
                  refine lv_iinc (v := nI (i + 1)) (lv' := [(4, .int (nI (i + 1))), (3, .int (nI b)), (5, .int (nI 0)), (0, .ref (a 0)), (1, .int (nI f)), (2, .int ms)]) hx hb dX2_netChannelOf_71 hl (k := 5) rfl (nI_add i 1) (by decide) rfl (fun ls hl => ?_)
                  refine lv_goto (tgt := 5) hx hb dX2_netChannelOf_74 (by decide) ?_
                  exact ih_LP (i + 1) (some b) (by omega) (by first | exact fFr_0 c26 hbo | exact fFr_n c26 hbo | exact fFr_k c26 hbo c49 | exact fFr_s c26 hbo c49) (by omega) H locs ls (hz.cast (by rfl)) (lv_cast (lv_sub hl [3, 4, 5, 1, 0] (l' := [(0, .ref (a 0)), (1, .int (nI f)), (2, .int ms), (3, .int (nI b)), (4, .int (nI (i + 1)))]) rfl) (by rfl))
                · first | exact absurd rfl c61 | exact absurd c61 (by decide)
              · refine lv_iconst (v := (nI 1)) hx hb dX2_netChannelOf_52 (by decide) ?_
                refine lv_goto (tgt := 57) hx hb dX2_netChannelOf_53 (by decide) ?_
                refine lv_istore (lv' := [(5, .int (nI 1)), (0, .ref (a 0)), (1, .int (nI f)), (2, .int ms), (3, .int (nI b)), (4, .int (nI i))]) hx hb dX2_netChannelOf_57 hl (by decide) rfl (fun ls hl => ?_)
                refine lv_iload hx hb dX2_netChannelOf_59 (lv_at hl 0 rfl) ?_
                refine ln_if_eq (tgt := 69) hx hb dX2_netChannelOf_61 (by decide) (by decide) (fun c61 => ?_) (fun c61 => ?_)
                · first | exact absurd rfl c61 | exact absurd c61 (by decide)
                · refine lv_iload hx hb dX2_netChannelOf_64 (lv_at hl 5 rfl) ?_
                  refine lv_goto (tgt := 70) hx hb dX2_netChannelOf_66 (by decide) ?_
                  refine lv_istore_n (lv' := [(3, .int (nI i)), (5, .int (nI 1)), (0, .ref (a 0)), (1, .int (nI f)), (2, .int ms), (4, .int (nI i))]) hx hb dX2_netChannelOf_70 rfl hl (by decide) rfl (fun ls hl => ?_)
                  refine lv_iinc (v := nI (i + 1)) (lv' := [(4, .int (nI (i + 1))), (3, .int (nI i)), (5, .int (nI 1)), (0, .ref (a 0)), (1, .int (nI f)), (2, .int ms)]) hx hb dX2_netChannelOf_71 hl (k := 5) rfl (nI_add i 1) (by decide) rfl (fun ls hl => ?_)
                  refine lv_goto (tgt := 5) hx hb dX2_netChannelOf_74 (by decide) ?_
                  exact ih_LP (i + 1) (some i) (by omega) (by first | exact fFr_0 c26 hbo | exact fFr_n c26 hbo | exact fFr_k c26 hbo c49 | exact fFr_s c26 hbo c49) (by omega) H locs ls (hz.cast (by rfl)) (lv_cast (lv_sub hl [3, 4, 5, 1, 0] (l' := [(0, .ref (a 0)), (1, .int (nI f)), (2, .int ms), (3, .int (nI i)), (4, .int (nI (i + 1)))]) rfl) (by rfl))
  exact LP _ 0 none (by omega) (rfl) (Nat.lt_succ_self _) H locs ls (hz.cast (by rfl)) (lv_cast (lv_sub hl [2, 3, 4, 1, 0] (l' := [(0, .ref (a 0)), (1, .int (nI f)), (2, .int ms), (3, .int (-1)), (4, .int (nI 0))]) rfl) (by rfl))
theorem hd_X2_note : hdZ yX2_note 0 := by decide +kernel
set_option maxRecDepth 100000 in
set_option maxHeartbeats 4000000 in
theorem c_X2_note (l : Launch) (D : va_G) (cI cN : ClassId) (a : Nat → Nat) (s : Sz) (pst : Sz) (np : Nat) (er : Sz) (od : Sz) (rk : Sz) (hs : Int64) (hnp : np ≤ 4) : Fn l D cI cN yX2_note wsX2_note 0 (mW cI a s pst np er od rk hs) [.ref (a 0)] none (mW cI a s (fNp pst s np) (fNn0 np + 1) er od rk hs) := by
  refine Fn.of (cc := cX2_note) (nL := 2) (ret := none) (lv := [(0, .ref (a 0))]) (by decide +kernel) rfl (Nat.le_of_ble_eq_true rfl) rfl ?_
  intro p e s_ m args below meth c A B hr hA H locs ls hz hl
  have hx := B.1.1
  have hb := B.1.2.1
  have hinX2 : ∀ w ∈ u_ws RX2 TX2 7, w ∈ wsX2_note := by decide +kernel
  have lk7 : Cond.fieldLink yX2_note.cls 7 RX2 (TX2 0).2.1 (TX2 0).2.2.1 ∈ wsX2_note := by decide +kernel
  have lk13 : Cond.fieldLink yX2_note.cls 13 RX2 (TX2 1).2.1 (TX2 1).2.2.1 ∈ wsX2_note := by decide +kernel
  have lk25 : Cond.fieldLink yX2_note.cls 25 RX2 (TX2 2).2.1 (TX2 2).2.2.1 ∈ wsX2_note := by decide +kernel
  have LPj : ∀ (P1 : Sz) (n1 : Nat), (n1 ≤ 3) → (P1 = if np = 4 then fSh pst 1872 else pst) → (n1 = fNn0 np) → ∀ (H : Heap) (locs : List Loc) (ls : Array Slot), Hz D A s_.heap H locs (mW cI a s P1 n1 er od rk hs) → lv_has ls 2 [(0, .ref (a 0))] → Wz p l e 0 s_ m args below meth c D A none (mW cI a s (fNp pst s np) (fNn0 np + 1) er od rk hs) H locs (F0 m 49 ls []) := by
    intro P1 n1 hn1 eP en H locs ls hz hl
    refine lv_iconst (v := (nI 0)) hx hb dX2_note_49 (by decide) ?_
    refine lv_istore_n (lv' := [(1, .int (nI 0)), (0, .ref (a 0))]) hx hb dX2_note_50 rfl hl (by decide) rfl (fun ls hl => ?_)
    have LP51 : ∀ (n_LP51 : Nat) (i : Nat), (i ≤ 624) → 624 - i < n_LP51 → ∀ (H : Heap) (locs : List Loc) (ls : Array Slot), Hz D A s_.heap H locs (mW cI a s (fCy s (624 * n1) P1 i) n1 er od rk hs) → lv_has ls 2 [(0, .ref (a 0)), (1, .int (nI i))] → Wz p l e 0 s_ m args below meth c D A none (mW cI a s (fNp pst s np) (fNn0 np + 1) er od rk hs) H locs (F0 m 51 ls []) := by
      intro n_LP51
      induction n_LP51 with
      | zero => intro i hi hm; exact absurd hm (Nat.not_lt_zero _)
      | succ n_LP51 ih_LP51 =>
        intro i hi hm H locs ls hz hl
        refine lv_iload_n hx hb dX2_note_51 rfl (lv_at hl 1 rfl) ?_
        refine lv_sipush (v := (nI 624)) hx hb dX2_note_52 (by decide) ?_
        refine ln_icmp_ge (tgt := 85) hx hb dX2_note_55 (by decide) (by constructor <;> omega) (fun c55 => ?_) (fun c55 => ?_)
        · refine lv_aload_n hx hb dX2_note_85 rfl (lv_at hl 0 rfl) ?_
          refine lv_dup hx hb dX2_note_86 rfl ?_
          refine gz (C := RX2) (T := TX2) (N := 7) (v := .int (nI n1)) B hz hinX2 0 rfl rfl 2 (by decide) lk25 rfl rfl dX2_note_87 ?_
          refine lv_iconst (v := (nI 1)) hx hb dX2_note_90 (by decide) ?_
          refine ln_add hx hb dX2_note_91 ?_
          refine pz (C := RX2) (T := TX2) (N := 7) (ty := .int) (ws1 := (mW cI a s (fCy s (624 * n1) P1 i) (n1 + 1) er od rk hs)) B hz hinX2 tyX2_ok nmX2 0 rfl rfl 2 (by decide) lk25 rfl rfl (by decide +kernel) rfl rfl (Nat.le_of_ble_eq_true rfl) rfl dX2_note_92 (fun H locs hz => ?_)
          exact rz_v B hr hz dX2_note_95 (by subst eP en; obtain rfl : i = 624 := (by omega); rfl)
        · refine lv_aload_n hx hb dX2_note_58 rfl (lv_at hl 0 rfl) ?_
          refine gz (C := RX2) (T := TX2) (N := 7) (v := .ref (a 2)) B hz hinX2 0 rfl rfl 1 (by decide) lk13 rfl rfl dX2_note_59 ?_
          refine lv_sipush (v := (nI 624)) hx hb dX2_note_62 (by decide) ?_
          refine lv_aload_n hx hb dX2_note_65 rfl (lv_at hl 0 rfl) ?_
          refine gz (C := RX2) (T := TX2) (N := 7) (v := .int (nI n1)) B hz hinX2 0 rfl rfl 2 (by decide) lk25 rfl rfl dX2_note_66 ?_
          refine ln_mul hx hb dX2_note_69 ?_
          refine lv_iload_n hx hb dX2_note_70 rfl (lv_at hl 1 rfl) ?_
          refine ln_add hx hb dX2_note_71 ?_
          refine lv_aload_n hx hb dX2_note_72 rfl (lv_at hl 0 rfl) ?_
          refine gz (C := RX2) (T := TX2) (N := 7) (v := .ref (a 1)) B hz hinX2 0 rfl rfl 0 (by decide) lk7 rfl rfl dX2_note_73 ?_
          refine lv_iload_n hx hb dX2_note_76 rfl (lv_at hl 1 rfl) ?_
          refine ildz (n := 624) (j := i) (v := (s i)) B hz 1 rfl (by omega) (by decide) rfl dX2_note_77 ?_
          refine istz (n := 2496) (j := ((624 * n1) + i)) (ws1 := (mW cI a s (upd (fCy s (624 * n1) P1 i) ((624 * n1) + i) (s i)) n1 er od rk hs)) B hz 2 rfl (by omega) (by decide) rfl dX2_note_78 (fun H locs hz => ?_)
          refine lv_iinc (v := nI (i + 1)) (lv' := [(1, .int (nI (i + 1))), (0, .ref (a 0))]) hx hb dX2_note_79 hl (k := 1) rfl (nI_add i 1) (by decide) rfl (fun ls hl => ?_)
          refine lv_goto (tgt := 51) hx hb dX2_note_82 (by decide) ?_
          exact ih_LP51 (i + 1) (by omega) (by omega) H locs ls (hz.cast (by rw [fCy_s])) (lv_cast (lv_sub hl [1, 0] (l' := [(0, .ref (a 0)), (1, .int (nI (i + 1)))]) rfl) (by rfl))
    exact LP51 _ 0 (by omega) (Nat.lt_succ_self _) H locs ls (hz.cast (by rw [fCy_0])) (lv_cast (lv_sub hl [1, 0] (l' := [(0, .ref (a 0)), (1, .int (nI 0))]) rfl) (by rfl))
  refine lv_aload_n hx hb dX2_note_0 rfl (lv_at hl 0 rfl) ?_
  refine gz (C := RX2) (T := TX2) (N := 7) (v := .int (nI np)) B hz hinX2 0 rfl rfl 2 (by decide) lk25 rfl rfl dX2_note_1 ?_
  refine lv_iconst (v := (nI 4)) hx hb dX2_note_4 (by decide) ?_
  refine ln_icmp_ne (tgt := 49) hx hb dX2_note_5 (by decide) (by constructor <;> omega) (fun c5 => ?_) (fun c5 => ?_)
  · exact LPj  pst np (by omega) ((if_neg c5).symm) ((if_neg c5).symm)  H locs ls (hz.cast (by rfl)) (lv_cast (lv_sub hl [0] (l' := [(0, .ref (a 0))]) rfl) (by rfl))
  · refine lv_iconst (v := (nI 0)) hx hb dX2_note_8 (by decide) ?_
    refine lv_istore_n (lv' := [(1, .int (nI 0)), (0, .ref (a 0))]) hx hb dX2_note_9 rfl hl (by decide) rfl (fun ls hl => ?_)
    have LP10 : ∀ (n_LP10 : Nat) (i : Nat), (i ≤ 1872) → 1872 - i < n_LP10 → ∀ (H : Heap) (locs : List Loc) (ls : Array Slot), Hz D A s_.heap H locs (mW cI a s (fSh pst i) np er od rk hs) → lv_has ls 2 [(0, .ref (a 0)), (1, .int (nI i))] → Wz p l e 0 s_ m args below meth c D A none (mW cI a s (fNp pst s np) (fNn0 np + 1) er od rk hs) H locs (F0 m 10 ls []) := by
      intro n_LP10
      induction n_LP10 with
      | zero => intro i hi hm; exact absurd hm (Nat.not_lt_zero _)
      | succ n_LP10 ih_LP10 =>
        intro i hi hm H locs ls hz hl
        refine lv_iload_n hx hb dX2_note_10 rfl (lv_at hl 1 rfl) ?_
        refine lv_sipush (v := (nI 1872)) hx hb dX2_note_11 (by decide) ?_
        refine ln_icmp_ge (tgt := 39) hx hb dX2_note_14 (by decide) (by constructor <;> omega) (fun c14 => ?_) (fun c14 => ?_)
        · refine lv_aload_n hx hb dX2_note_39 rfl (lv_at hl 0 rfl) ?_
          refine lv_dup hx hb dX2_note_40 rfl ?_
          refine gz (C := RX2) (T := TX2) (N := 7) (v := .int (nI np)) B hz hinX2 0 rfl rfl 2 (by decide) lk25 rfl rfl dX2_note_41 ?_
          refine lv_iconst (v := (nI 1)) hx hb dX2_note_44 (by decide) ?_
          refine lv_isub hx hb dX2_note_45 ?_
          refine cvt (y := nI (np - 1)) (pk_sub (by omega)) ?_
          refine pz (C := RX2) (T := TX2) (N := 7) (ty := .int) (ws1 := (mW cI a s (fSh pst i) (np - 1) er od rk hs)) B hz hinX2 tyX2_ok nmX2 0 rfl rfl 2 (by decide) lk25 rfl rfl (by decide +kernel) rfl rfl (Nat.le_of_ble_eq_true rfl) rfl dX2_note_46 (fun H locs hz => ?_)
          exact LPj  (fSh pst 1872) (np - 1) (by omega) ((if_pos c5).symm) (by unfold fNn0; rw [if_pos c5]; omega)  H locs ls (hz.cast (by obtain rfl : i = 1872 := (by omega); rfl)) (lv_cast (lv_sub hl [0] (l' := [(0, .ref (a 0))]) rfl) (by rfl))
        · refine lv_aload_n hx hb dX2_note_17 rfl (lv_at hl 0 rfl) ?_
          refine gz (C := RX2) (T := TX2) (N := 7) (v := .ref (a 2)) B hz hinX2 0 rfl rfl 1 (by decide) lk13 rfl rfl dX2_note_18 ?_
          refine lv_iload_n hx hb dX2_note_21 rfl (lv_at hl 1 rfl) ?_
          refine lv_aload_n hx hb dX2_note_22 rfl (lv_at hl 0 rfl) ?_
          refine gz (C := RX2) (T := TX2) (N := 7) (v := .ref (a 2)) B hz hinX2 0 rfl rfl 1 (by decide) lk13 rfl rfl dX2_note_23 ?_
          refine lv_iload_n hx hb dX2_note_26 rfl (lv_at hl 1 rfl) ?_
          refine lv_sipush (v := (nI 624)) hx hb dX2_note_27 (by decide) ?_
          refine ln_add hx hb dX2_note_30 ?_
          refine ildz (n := 2496) (j := (i + 624)) (v := ((fSh pst i) (i + 624))) B hz 2 rfl (by omega) (by decide) rfl dX2_note_31 ?_
          refine istz (n := 2496) (j := i) (ws1 := (mW cI a s (upd (fSh pst i) i ((fSh pst i) (i + 624))) np er od rk hs)) B hz 2 rfl (by omega) (by decide) rfl dX2_note_32 (fun H locs hz => ?_)
          refine lv_iinc (v := nI (i + 1)) (lv' := [(1, .int (nI (i + 1))), (0, .ref (a 0))]) hx hb dX2_note_33 hl (k := 1) rfl (nI_add i 1) (by decide) rfl (fun ls hl => ?_)
          refine lv_goto (tgt := 10) hx hb dX2_note_36 (by decide) ?_
          exact ih_LP10 (i + 1) (by omega) (by omega) H locs ls (hz.cast (by rw [fSh_s])) (lv_cast (lv_sub hl [1, 0] (l' := [(0, .ref (a 0)), (1, .int (nI (i + 1)))]) rfl) (by rfl))
    exact LP10 _ 0 (by omega) (Nat.lt_succ_self _) H locs ls (hz.cast (by rw [fSh_0])) (lv_cast (lv_sub hl [1, 0] (l' := [(0, .ref (a 0)), (1, .int (nI 0))]) rfl) (by rfl))
