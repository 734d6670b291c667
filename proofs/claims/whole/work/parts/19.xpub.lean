theorem fIn_lt {v lo hi : Int32} (h : v < lo) : fIn v lo hi = false := (fIn_a h).symm
theorem fIn_gt {v lo hi : Int32} (h : ¬ v ≤ hi) : fIn v lo hi = false := (fIn_b (nsg h)).symm
theorem fIn_ok {v lo hi : Int32} (h1 : ¬ v < lo) (h2 : v ≤ hi) : fIn v lo hi = true := (fIn_c h1 (nsl h2)).symm
def xCl (s rk : Sz) (f t : Nat) : Int32 × Sz := fCx f t (fRb f t s rk) 8 (scn s f) (upd s 5 (nI 0))
theorem hd_X1_setScan : hdZ yX1_setScan 2 := by decide +kernel
set_option maxRecDepth 100000 in
set_option maxHeartbeats 4000000 in
theorem c_X1_setScan (l : Launch) (D : va_G) (cI cN : ClassId) (b : Nat → Nat) (an : Nat → Nat → Nat) (s : Sz) (rk : Sz) (sv : Nat → Sz) (rv : Nat → Sz) (nx : Nat) (ct : Nat) (iv : Int32) (rj : Int32) (x : Int32) (y : Int32) (hnx : nx < 4) (hct : ct ≤ 4) : Fn l D cI cN yX1_setScan wsX1_setScan 3 (xW cI cN b an s rk sv rv nx ct iv rj) [.ref (b 0), .int x, .int y] (some (.int ((pSetScan x y s).1))) (xAft cI cN b an s rk sv rv nx ct iv rj rk (pSetScan x y s)) := by
  refine Fn.of (cc := cX1_setScan) (nL := 4) (ret := (some .int)) (lv := [(0, .ref (b 0)), (1, .int x), (2, .int y)]) (by decide +kernel) rfl (Nat.le_of_ble_eq_true rfl) rfl ?_
  intro p e s_ m args below meth c A B hr hA H locs ls hz hl
  have hx := B.1.1
  have hb := B.1.2.1
  have hinX0 : ∀ w ∈ u_ws RX0 TX0 16, w ∈ wsX1_setScan := by decide +kernel
  have hinX1 : ∀ w ∈ u_ws RX1 TX1 6, w ∈ wsX1_setScan := by decide +kernel
  have lk12 : Cond.fieldLink yX1_setScan.cls 12 RX1 (TX1 0).2.1 (TX1 0).2.2.1 ∈ wsX1_setScan := by decide +kernel
  have lk31 : Cond.fieldLink yX1_setScan.cls 31 RX0 (TX0 9).2.1 (TX0 9).2.2.1 ∈ wsX1_setScan := by decide +kernel
  refine lv_iload_n hx hb dX1_setScan_0 rfl (lv_at hl 1 rfl) ?_
  refine cS (k := 3) (As := [.int x]) (rest := []) (v := .int (b2i (fSt x))) B hz hA (c_X1_isStation l D cI cN x ) gX1_setScan_X1_isStation rfl hd_X1_isStation (by decide) rfl hl.1 rfl (Nat.le_of_ble_eq_true rfl) dX1_setScan_1 (fun H locs hz => ?_)
  refine lb_if_eq (tgt := 19) hx hb dX1_setScan_4 (by decide) (fun c4 => ?_) (fun c4 => ?_)
  · refine lv_aload_n hx hb dX1_setScan_19 rfl (lv_at hl 0 rfl) ?_
    refine cV (C := RX1) (T := TX1) (N := 6) (ci := 1) (q0 := 0) (k := 3) (As := []) (rest := []) (v := .int (-2)) (ws1 := (xW cI cN b an s rk sv rv nx ct (iv + nI 1) rj)) B hz hA (c_X1_countInvalid l D cI cN b an s rk sv rv nx ct iv rj  ) gX1_setScan_X1_countInvalid rfl rfl hd_X1_countInvalid (by decide) rfl rfl rfl hl.1 rfl (Nat.le_of_ble_eq_true rfl) dX1_setScan_20 (fun H locs hz => ?_)
    exact rz_i B hr hz dX1_setScan_23 (by first | (simp [pSetScan, c4]; done) | (simp [pSetScan, c4, cIn]; done) | (simp [pSetScan, c4, cIn, tn5 hf]; done)) (by first | (refine xAft_i ?_; simp [pSetScan, c4]; done) | (refine xAft_i ?_; simp [pSetScan, c4, cIn]; done) | (refine xAft_s (r := s (9 + f)) ?_; simp [pSetScan, c4, cIn, tn5 hf]; done))
  · obtain ⟨f, hf, rfl⟩ := fSt_nat c4
    refine lv_iload_n hx hb dX1_setScan_7 rfl (lv_at hl 2 rfl) ?_
    refine lv_iconst (v := (nI 1)) hx hb dX1_setScan_8 (by decide) ?_
    refine lv_icmp_lt (tgt := 19) hx hb dX1_setScan_9 (by decide) (fun c9 => ?_) (fun c9 => ?_)
    · have cIn : fIn y (nI 1) (nI 255) = false := fIn_lt c9
      refine lv_aload_n hx hb dX1_setScan_19 rfl (lv_at hl 0 rfl) ?_
      refine cV (C := RX1) (T := TX1) (N := 6) (ci := 1) (q0 := 0) (k := 3) (As := []) (rest := []) (v := .int (-2)) (ws1 := (xW cI cN b an s rk sv rv nx ct (iv + nI 1) rj)) B hz hA (c_X1_countInvalid l D cI cN b an s rk sv rv nx ct iv rj  ) gX1_setScan_X1_countInvalid rfl rfl hd_X1_countInvalid (by decide) rfl rfl rfl hl.1 rfl (Nat.le_of_ble_eq_true rfl) dX1_setScan_20 (fun H locs hz => ?_)
      exact rz_i B hr hz dX1_setScan_23 (by first | (simp [pSetScan, c4]; done) | (simp [pSetScan, c4, cIn]; done) | (simp [pSetScan, c4, cIn, tn5 hf]; done)) (by first | (refine xAft_i ?_; simp [pSetScan, c4]; done) | (refine xAft_i ?_; simp [pSetScan, c4, cIn]; done) | (refine xAft_s (r := s (9 + f)) ?_; simp [pSetScan, c4, cIn, tn5 hf]; done))
    · refine lv_iload_n hx hb dX1_setScan_12 rfl (lv_at hl 2 rfl) ?_
      refine lv_sipush (v := (nI 255)) hx hb dX1_setScan_13 (by decide) ?_
      refine lv_icmp_le (tgt := 24) hx hb dX1_setScan_16 (by decide) (fun c16 => ?_) (fun c16 => ?_)
      · have cIn : fIn y (nI 1) (nI 255) = true := fIn_ok c9 c16
        refine lv_aload_n hx hb dX1_setScan_24 rfl (lv_at hl 0 rfl) ?_
        refine cVv (C := RX1) (T := TX1) (N := 6) (ci := 1) (q0 := 0) (k := 3) (As := []) (rest := []) (ws1 := (xW cI cN b an s rk (upS sv nx s) rv ((nx + 1) % 4) (min (ct + 1) 4) iv rj)) B hz hA (c_X1_saveState l D cI cN b an s rk sv rv nx ct iv rj  (hnx) (hct)) gX1_setScan_X1_saveState rfl rfl hd_X1_saveState (by decide) rfl rfl rfl hl.1 rfl (Nat.le_of_ble_eq_true rfl) dX1_setScan_25 (fun H locs hz => ?_)
        refine lv_aload_n hx hb dX1_setScan_28 rfl (lv_at hl 0 rfl) ?_
        refine gz (C := RX1) (T := TX1) (N := 6) (v := .ref (an 0 0)) B hz hinX1 0 rfl rfl 0 (by decide) lk12 rfl rfl dX1_setScan_29 ?_
        refine gz (C := RX0) (T := TX0) (N := 16) (v := .ref (an 0 1)) B hz hinX0 2 rfl rfl 9 (by decide) lk31 rfl rfl dX1_setScan_32 ?_
        refine lv_iload_n hx hb dX1_setScan_35 rfl (lv_at hl 1 rfl) ?_
        refine ildz (n := 5) (j := f) (v := (s (9 + f))) B hz 3 rfl (by omega) (by decide) (seg_at (by omega)) dX1_setScan_36 ?_
        refine lv_istore_n (lv' := [(3, .int (s (9 + f))), (0, .ref (b 0)), (1, .int (nI f)), (2, .int y)]) hx hb dX1_setScan_37 rfl hl (by decide) rfl (fun ls hl => ?_)
        refine lv_aload_n hx hb dX1_setScan_38 rfl (lv_at hl 1 rfl) ?_
        refine gz (C := RX1) (T := TX1) (N := 6) (v := .ref (an 0 0)) B hz hinX1 0 rfl rfl 0 (by decide) lk12 rfl rfl dX1_setScan_39 ?_
        refine gz (C := RX0) (T := TX0) (N := 16) (v := .ref (an 0 1)) B hz hinX0 2 rfl rfl 9 (by decide) lk31 rfl rfl dX1_setScan_42 ?_
        refine lv_iload_n hx hb dX1_setScan_45 rfl (lv_at hl 2 rfl) ?_
        refine lv_iload_n hx hb dX1_setScan_46 rfl (lv_at hl 3 rfl) ?_
        refine istz (n := 5) (j := f) (ws1 := (xW cI cN b an (upd s (9 + f) y) rk (upS sv nx s) rv ((nx + 1) % 4) (min (ct + 1) 4) iv rj)) B hz 3 rfl (by omega) (by decide) (xW_a1 cI cN b an _ _ _ _ _ _ _ _ (by omega) _) dX1_setScan_47 (fun H locs hz => ?_)
        refine lv_iload_n hx hb dX1_setScan_48 rfl (lv_at hl 0 rfl) ?_
        exact rz_i B hr hz dX1_setScan_49 (by first | (simp [pSetScan, c4]; done) | (simp [pSetScan, c4, cIn]; done) | (simp [pSetScan, c4, cIn, tn5 hf]; done)) (by first | (refine xAft_i ?_; simp [pSetScan, c4]; done) | (refine xAft_i ?_; simp [pSetScan, c4, cIn]; done) | (refine xAft_s (r := s (9 + f)) ?_; simp [pSetScan, c4, cIn, tn5 hf]; done))
      · have cIn : fIn y (nI 1) (nI 255) = false := fIn_gt c16
        refine lv_aload_n hx hb dX1_setScan_19 rfl (lv_at hl 0 rfl) ?_
        refine cV (C := RX1) (T := TX1) (N := 6) (ci := 1) (q0 := 0) (k := 3) (As := []) (rest := []) (v := .int (-2)) (ws1 := (xW cI cN b an s rk sv rv nx ct (iv + nI 1) rj)) B hz hA (c_X1_countInvalid l D cI cN b an s rk sv rv nx ct iv rj  ) gX1_setScan_X1_countInvalid rfl rfl hd_X1_countInvalid (by decide) rfl rfl rfl hl.1 rfl (Nat.le_of_ble_eq_true rfl) dX1_setScan_20 (fun H locs hz => ?_)
        exact rz_i B hr hz dX1_setScan_23 (by first | (simp [pSetScan, c4]; done) | (simp [pSetScan, c4, cIn]; done) | (simp [pSetScan, c4, cIn, tn5 hf]; done)) (by first | (refine xAft_i ?_; simp [pSetScan, c4]; done) | (refine xAft_i ?_; simp [pSetScan, c4, cIn]; done) | (refine xAft_s (r := s (9 + f)) ?_; simp [pSetScan, c4, cIn, tn5 hf]; done))
theorem hd_X1_setQuality : hdZ yX1_setQuality 4 := by decide +kernel
set_option maxRecDepth 100000 in
set_option maxHeartbeats 4000000 in
theorem c_X1_setQuality (l : Launch) (D : va_G) (cI cN : ClassId) (b : Nat → Nat) (an : Nat → Nat → Nat) (s : Sz) (rk : Sz) (sv : Nat → Sz) (rv : Nat → Sz) (nx : Nat) (ct : Nat) (iv : Int32) (rj : Int32) (x : Int32) (y : Int32) (z : Int32) (q : Int32) (hnx : nx < 4) (hct : ct ≤ 4) : Fn l D cI cN yX1_setQuality wsX1_setQuality 3 (xW cI cN b an s rk sv rv nx ct iv rj) [.ref (b 0), .int x, .int y, .int z, .int q] (some (.int ((pSetQ x y z q s).1))) (xAft cI cN b an s rk sv rv nx ct iv rj rk (pSetQ x y z q s)) := by
  refine Fn.of (cc := cX1_setQuality) (nL := 6) (ret := (some .int)) (lv := [(0, .ref (b 0)), (1, .int x), (2, .int y), (3, .int z), (4, .int q)]) (by decide +kernel) rfl (Nat.le_of_ble_eq_true rfl) rfl ?_
  intro p e s_ m args below meth c A B hr hA H locs ls hz hl
  have hx := B.1.1
  have hb := B.1.2.1
  have hinX0 : ∀ w ∈ u_ws RX0 TX0 16, w ∈ wsX1_setQuality := by decide +kernel
  have hinX1 : ∀ w ∈ u_ws RX1 TX1 6, w ∈ wsX1_setQuality := by decide +kernel
  have lk12 : Cond.fieldLink yX1_setQuality.cls 12 RX1 (TX1 0).2.1 (TX1 0).2.2.1 ∈ wsX1_setQuality := by decide +kernel
  have lk39 : Cond.fieldLink yX1_setQuality.cls 39 RX0 (TX0 12).2.1 (TX0 12).2.2.1 ∈ wsX1_setQuality := by decide +kernel
  refine lv_iload_n hx hb dX1_setQuality_0 rfl (lv_at hl 1 rfl) ?_
  refine lv_iload_n hx hb dX1_setQuality_1 rfl (lv_at hl 2 rfl) ?_
  refine lv_iload_n hx hb dX1_setQuality_2 rfl (lv_at hl 3 rfl) ?_
  refine cS (k := 3) (As := [.int x, .int y, .int z]) (rest := []) (v := .int (b2i (fTh x y z))) B hz hA (c_X1_isCell l D cI cN x y z ) gX1_setQuality_X1_isCell rfl hd_X1_isCell (by decide) rfl hl.1 rfl (Nat.le_of_ble_eq_true rfl) dX1_setQuality_3 (fun H locs hz => ?_)
  refine lb_if_eq (tgt := 21) hx hb dX1_setQuality_6 (by decide) (fun c6 => ?_) (fun c6 => ?_)
  · refine lv_aload_n hx hb dX1_setQuality_21 rfl (lv_at hl 0 rfl) ?_
    refine cV (C := RX1) (T := TX1) (N := 6) (ci := 1) (q0 := 0) (k := 3) (As := []) (rest := []) (v := .int (-2)) (ws1 := (xW cI cN b an s rk sv rv nx ct (iv + nI 1) rj)) B hz hA (c_X1_countInvalid l D cI cN b an s rk sv rv nx ct iv rj  ) gX1_setQuality_X1_countInvalid rfl rfl hd_X1_countInvalid (by decide) rfl rfl rfl hl.1 rfl (Nat.le_of_ble_eq_true rfl) dX1_setQuality_22 (fun H locs hz => ?_)
    exact rz_i B hr hz dX1_setQuality_25 (by first | (simp [pSetQ, c6]; done) | (simp [pSetQ, c6, cIn]; done) | (simp [pSetQ, c6, cIn, tn5 hf, tn5 ht, tn8 hc]; done)) (by first | (refine xAft_i ?_; simp [pSetQ, c6]; done) | (refine xAft_i ?_; simp [pSetQ, c6, cIn]; done) | (refine xAft_s (r := s (24 + fAt f t ch)) ?_; simp [pSetQ, c6, cIn, tn5 hf, tn5 ht, tn8 hc]; done))
  · obtain ⟨f, t, ch, hf, ht, hc, hft, rfl, rfl, rfl⟩ := fTh_nat c6
    refine lv_iload hx hb dX1_setQuality_9 (lv_at hl 4 rfl) ?_
    refine lv_if_lt (tgt := 21) hx hb dX1_setQuality_11 (by decide) (fun c11 => ?_) (fun c11 => ?_)
    · have cIn : fIn q (nI 0) (nI 30) = false := fIn_lt (show q < nI 0 from c11)
      refine lv_aload_n hx hb dX1_setQuality_21 rfl (lv_at hl 0 rfl) ?_
      refine cV (C := RX1) (T := TX1) (N := 6) (ci := 1) (q0 := 0) (k := 3) (As := []) (rest := []) (v := .int (-2)) (ws1 := (xW cI cN b an s rk sv rv nx ct (iv + nI 1) rj)) B hz hA (c_X1_countInvalid l D cI cN b an s rk sv rv nx ct iv rj  ) gX1_setQuality_X1_countInvalid rfl rfl hd_X1_countInvalid (by decide) rfl rfl rfl hl.1 rfl (Nat.le_of_ble_eq_true rfl) dX1_setQuality_22 (fun H locs hz => ?_)
      exact rz_i B hr hz dX1_setQuality_25 (by first | (simp [pSetQ, c6]; done) | (simp [pSetQ, c6, cIn]; done) | (simp [pSetQ, c6, cIn, tn5 hf, tn5 ht, tn8 hc]; done)) (by first | (refine xAft_i ?_; simp [pSetQ, c6]; done) | (refine xAft_i ?_; simp [pSetQ, c6, cIn]; done) | (refine xAft_s (r := s (24 + fAt f t ch)) ?_; simp [pSetQ, c6, cIn, tn5 hf, tn5 ht, tn8 hc]; done))
    · refine lv_iload hx hb dX1_setQuality_14 (lv_at hl 4 rfl) ?_
      refine lv_bipush (v := (nI 30)) hx hb dX1_setQuality_16 (by decide) ?_
      refine lv_icmp_le (tgt := 26) hx hb dX1_setQuality_18 (by decide) (fun c18 => ?_) (fun c18 => ?_)
      · have cIn : fIn q (nI 0) (nI 30) = true := fIn_ok (show ¬ q < nI 0 from c11) c18
        refine lv_aload_n hx hb dX1_setQuality_26 rfl (lv_at hl 0 rfl) ?_
        refine cVv (C := RX1) (T := TX1) (N := 6) (ci := 1) (q0 := 0) (k := 3) (As := []) (rest := []) (ws1 := (xW cI cN b an s rk (upS sv nx s) rv ((nx + 1) % 4) (min (ct + 1) 4) iv rj)) B hz hA (c_X1_saveState l D cI cN b an s rk sv rv nx ct iv rj  (hnx) (hct)) gX1_setQuality_X1_saveState rfl rfl hd_X1_saveState (by decide) rfl rfl rfl hl.1 rfl (Nat.le_of_ble_eq_true rfl) dX1_setQuality_27 (fun H locs hz => ?_)
        refine lv_aload_n hx hb dX1_setQuality_30 rfl (lv_at hl 0 rfl) ?_
        refine gz (C := RX1) (T := TX1) (N := 6) (v := .ref (an 0 0)) B hz hinX1 0 rfl rfl 0 (by decide) lk12 rfl rfl dX1_setQuality_31 ?_
        refine gz (C := RX0) (T := TX0) (N := 16) (v := .ref (an 0 4)) B hz hinX0 2 rfl rfl 12 (by decide) lk39 rfl rfl dX1_setQuality_34 ?_
        refine lv_iload_n hx hb dX1_setQuality_37 rfl (lv_at hl 1 rfl) ?_
        refine lv_iload_n hx hb dX1_setQuality_38 rfl (lv_at hl 2 rfl) ?_
        refine lv_iload_n hx hb dX1_setQuality_39 rfl (lv_at hl 3 rfl) ?_
        refine cS (k := 3) (As := [.int (nI f), .int (nI t), .int (nI ch)]) (rest := [.ref (an 0 4)]) (v := .int (nI (fAt f t ch))) B hz hA (c_X1_cell l D cI cN f t ch ) gX1_setQuality_X1_cell rfl hd_X1_cell (by decide) rfl hl.1 rfl (Nat.le_of_ble_eq_true rfl) dX1_setQuality_40 (fun H locs hz => ?_)
        refine ildz (n := 200) (j := (fAt f t ch)) (v := (s (24 + (fAt f t ch)))) B hz 6 rfl (by have hat1 := fAt_lt hf ht hc; have hat2 := fAt_lt ht hf hc; omega) (by decide) (seg_at (by have hat1 := fAt_lt hf ht hc; have hat2 := fAt_lt ht hf hc; omega)) dX1_setQuality_43 ?_
        refine lv_istore (lv' := [(5, .int (s (24 + (fAt f t ch)))), (0, .ref (b 0)), (1, .int (nI f)), (2, .int (nI t)), (3, .int (nI ch)), (4, .int q)]) hx hb dX1_setQuality_44 hl (by decide) rfl (fun ls hl => ?_)
        refine lv_aload_n hx hb dX1_setQuality_46 rfl (lv_at hl 1 rfl) ?_
        refine gz (C := RX1) (T := TX1) (N := 6) (v := .ref (an 0 0)) B hz hinX1 0 rfl rfl 0 (by decide) lk12 rfl rfl dX1_setQuality_47 ?_
        refine gz (C := RX0) (T := TX0) (N := 16) (v := .ref (an 0 4)) B hz hinX0 2 rfl rfl 12 (by decide) lk39 rfl rfl dX1_setQuality_50 ?_
        refine lv_iload_n hx hb dX1_setQuality_53 rfl (lv_at hl 2 rfl) ?_
        refine lv_iload_n hx hb dX1_setQuality_54 rfl (lv_at hl 3 rfl) ?_
        refine lv_iload_n hx hb dX1_setQuality_55 rfl (lv_at hl 4 rfl) ?_
        refine cS (k := 3) (As := [.int (nI f), .int (nI t), .int (nI ch)]) (rest := [.ref (an 0 4)]) (v := .int (nI (fAt f t ch))) B hz hA (c_X1_cell l D cI cN f t ch ) gX1_setQuality_X1_cell rfl hd_X1_cell (by decide) rfl hl.1 rfl (Nat.le_of_ble_eq_true rfl) dX1_setQuality_56 (fun H locs hz => ?_)
        refine lv_iload hx hb dX1_setQuality_59 (lv_at hl 5 rfl) ?_
        refine istz (n := 200) (j := (fAt f t ch)) (ws1 := (xW cI cN b an (upd s (24 + (fAt f t ch)) q) rk (upS sv nx s) rv ((nx + 1) % 4) (min (ct + 1) 4) iv rj)) B hz 6 rfl (by have hat1 := fAt_lt hf ht hc; have hat2 := fAt_lt ht hf hc; omega) (by decide) (xW_a4 cI cN b an _ _ _ _ _ _ _ _ (by have hat1 := fAt_lt hf ht hc; have hat2 := fAt_lt ht hf hc; omega) _) dX1_setQuality_61 (fun H locs hz => ?_)
        refine lv_aload_n hx hb dX1_setQuality_62 rfl (lv_at hl 1 rfl) ?_
        refine gz (C := RX1) (T := TX1) (N := 6) (v := .ref (an 0 0)) B hz hinX1 0 rfl rfl 0 (by decide) lk12 rfl rfl dX1_setQuality_63 ?_
        refine gz (C := RX0) (T := TX0) (N := 16) (v := .ref (an 0 4)) B hz hinX0 2 rfl rfl 12 (by decide) lk39 rfl rfl dX1_setQuality_66 ?_
        refine lv_iload_n hx hb dX1_setQuality_69 rfl (lv_at hl 3 rfl) ?_
        refine lv_iload_n hx hb dX1_setQuality_70 rfl (lv_at hl 2 rfl) ?_
        refine lv_iload_n hx hb dX1_setQuality_71 rfl (lv_at hl 4 rfl) ?_
        refine cS (k := 3) (As := [.int (nI t), .int (nI f), .int (nI ch)]) (rest := [.ref (an 0 4)]) (v := .int (nI (fAt t f ch))) B hz hA (c_X1_cell l D cI cN t f ch ) gX1_setQuality_X1_cell rfl hd_X1_cell (by decide) rfl hl.1 rfl (Nat.le_of_ble_eq_true rfl) dX1_setQuality_72 (fun H locs hz => ?_)
        refine lv_iload hx hb dX1_setQuality_75 (lv_at hl 5 rfl) ?_
        refine istz (n := 200) (j := (fAt t f ch)) (ws1 := (xW cI cN b an (upd (upd s (24 + (fAt f t ch)) q) (24 + (fAt t f ch)) q) rk (upS sv nx s) rv ((nx + 1) % 4) (min (ct + 1) 4) iv rj)) B hz 6 rfl (by have hat1 := fAt_lt hf ht hc; have hat2 := fAt_lt ht hf hc; omega) (by decide) (xW_a4 cI cN b an _ _ _ _ _ _ _ _ (by have hat1 := fAt_lt hf ht hc; have hat2 := fAt_lt ht hf hc; omega) _) dX1_setQuality_77 (fun H locs hz => ?_)
        refine lv_iload hx hb dX1_setQuality_78 (lv_at hl 0 rfl) ?_
        exact rz_i B hr hz dX1_setQuality_80 (by first | (simp [pSetQ, c6]; done) | (simp [pSetQ, c6, cIn]; done) | (simp [pSetQ, c6, cIn, tn5 hf, tn5 ht, tn8 hc]; done)) (by first | (refine xAft_i ?_; simp [pSetQ, c6]; done) | (refine xAft_i ?_; simp [pSetQ, c6, cIn]; done) | (refine xAft_s (r := s (24 + fAt f t ch)) ?_; simp [pSetQ, c6, cIn, tn5 hf, tn5 ht, tn8 hc]; done))
      · have cIn : fIn q (nI 0) (nI 30) = false := fIn_gt c18
        refine lv_aload_n hx hb dX1_setQuality_21 rfl (lv_at hl 0 rfl) ?_
        refine cV (C := RX1) (T := TX1) (N := 6) (ci := 1) (q0 := 0) (k := 3) (As := []) (rest := []) (v := .int (-2)) (ws1 := (xW cI cN b an s rk sv rv nx ct (iv + nI 1) rj)) B hz hA (c_X1_countInvalid l D cI cN b an s rk sv rv nx ct iv rj  ) gX1_setQuality_X1_countInvalid rfl rfl hd_X1_countInvalid (by decide) rfl rfl rfl hl.1 rfl (Nat.le_of_ble_eq_true rfl) dX1_setQuality_22 (fun H locs hz => ?_)
        exact rz_i B hr hz dX1_setQuality_25 (by first | (simp [pSetQ, c6]; done) | (simp [pSetQ, c6, cIn]; done) | (simp [pSetQ, c6, cIn, tn5 hf, tn5 ht, tn8 hc]; done)) (by first | (refine xAft_i ?_; simp [pSetQ, c6]; done) | (refine xAft_i ?_; simp [pSetQ, c6, cIn]; done) | (refine xAft_s (r := s (24 + fAt f t ch)) ?_; simp [pSetQ, c6, cIn, tn5 hf, tn5 ht, tn8 hc]; done))
theorem hd_X1_setAgeing : hdZ yX1_setAgeing 1 := by decide +kernel
set_option maxRecDepth 100000 in
set_option maxHeartbeats 4000000 in
theorem c_X1_setAgeing (l : Launch) (D : va_G) (cI cN : ClassId) (b : Nat → Nat) (an : Nat → Nat → Nat) (s : Sz) (rk : Sz) (sv : Nat → Sz) (rv : Nat → Sz) (nx : Nat) (ct : Nat) (iv : Int32) (rj : Int32) (x : Int32) (hnx : nx < 4) (hct : ct ≤ 4) : Fn l D cI cN yX1_setAgeing wsX1_setAgeing 3 (xW cI cN b an s rk sv rv nx ct iv rj) [.ref (b 0), .int x] (some (.int ((pAge x s).1))) (xAft cI cN b an s rk sv rv nx ct iv rj rk (pAge x s)) := by
  refine Fn.of (cc := cX1_setAgeing) (nL := 3) (ret := (some .int)) (lv := [(0, .ref (b 0)), (1, .int x)]) (by decide +kernel) rfl (Nat.le_of_ble_eq_true rfl) rfl ?_
  intro p e s_ m args below meth c A B hr hA H locs ls hz hl
  have hx := B.1.1
  have hb := B.1.2.1
  have hinX0 : ∀ w ∈ u_ws RX0 TX0 16, w ∈ wsX1_setAgeing := by decide +kernel
  have hinX1 : ∀ w ∈ u_ws RX1 TX1 6, w ∈ wsX1_setAgeing := by decide +kernel
  have lk12 : Cond.fieldLink yX1_setAgeing.cls 12 RX1 (TX1 0).2.1 (TX1 0).2.2.1 ∈ wsX1_setAgeing := by decide +kernel
  have lk46 : Cond.fieldLink yX1_setAgeing.cls 46 RX0 (TX0 1).2.1 (TX0 1).2.2.1 ∈ wsX1_setAgeing := by decide +kernel
  refine lv_iload_n hx hb dX1_setAgeing_0 rfl (lv_at hl 1 rfl) ?_
  refine lv_iconst (v := (nI 1)) hx hb dX1_setAgeing_1 (by decide) ?_
  refine lv_icmp_lt (tgt := 11) hx hb dX1_setAgeing_2 (by decide) (fun c2 => ?_) (fun c2 => ?_)
  · have cIn : fIn x (nI 1) (nI 99) = false := fIn_lt c2
    refine lv_aload_n hx hb dX1_setAgeing_11 rfl (lv_at hl 0 rfl) ?_
    refine cV (C := RX1) (T := TX1) (N := 6) (ci := 1) (q0 := 0) (k := 3) (As := []) (rest := []) (v := .int (-2)) (ws1 := (xW cI cN b an s rk sv rv nx ct (iv + nI 1) rj)) B hz hA (c_X1_countInvalid l D cI cN b an s rk sv rv nx ct iv rj  ) gX1_setAgeing_X1_countInvalid rfl rfl hd_X1_countInvalid (by decide) rfl rfl rfl hl.1 rfl (Nat.le_of_ble_eq_true rfl) dX1_setAgeing_12 (fun H locs hz => ?_)
    exact rz_i B hr hz dX1_setAgeing_15 (by simp [pAge, cIn]) (by first | (refine xAft_i ?_; simp [pAge, cIn]; done) | (refine xAft_s (r := s 2) ?_; simp [pAge, cIn]; done))
  · refine lv_iload_n hx hb dX1_setAgeing_5 rfl (lv_at hl 1 rfl) ?_
    refine lv_bipush (v := (nI 99)) hx hb dX1_setAgeing_6 (by decide) ?_
    refine lv_icmp_le (tgt := 16) hx hb dX1_setAgeing_8 (by decide) (fun c8 => ?_) (fun c8 => ?_)
    · have cIn : fIn x (nI 1) (nI 99) = true := fIn_ok c2 c8
      refine lv_aload_n hx hb dX1_setAgeing_16 rfl (lv_at hl 0 rfl) ?_
      refine cVv (C := RX1) (T := TX1) (N := 6) (ci := 1) (q0 := 0) (k := 3) (As := []) (rest := []) (ws1 := (xW cI cN b an s rk (upS sv nx s) rv ((nx + 1) % 4) (min (ct + 1) 4) iv rj)) B hz hA (c_X1_saveState l D cI cN b an s rk sv rv nx ct iv rj  (hnx) (hct)) gX1_setAgeing_X1_saveState rfl rfl hd_X1_saveState (by decide) rfl rfl rfl hl.1 rfl (Nat.le_of_ble_eq_true rfl) dX1_setAgeing_17 (fun H locs hz => ?_)
      refine lv_aload_n hx hb dX1_setAgeing_20 rfl (lv_at hl 0 rfl) ?_
      refine gz (C := RX1) (T := TX1) (N := 6) (v := .ref (an 0 0)) B hz hinX1 0 rfl rfl 0 (by decide) lk12 rfl rfl dX1_setAgeing_21 ?_
      refine gz (C := RX0) (T := TX0) (N := 16) (v := .int (s 2)) B hz hinX0 2 rfl rfl 1 (by decide) lk46 rfl rfl dX1_setAgeing_24 ?_
      refine lv_istore_n (lv' := [(2, .int (s 2)), (0, .ref (b 0)), (1, .int x)]) hx hb dX1_setAgeing_27 rfl hl (by decide) rfl (fun ls hl => ?_)
      refine lv_aload_n hx hb dX1_setAgeing_28 rfl (lv_at hl 1 rfl) ?_
      refine gz (C := RX1) (T := TX1) (N := 6) (v := .ref (an 0 0)) B hz hinX1 0 rfl rfl 0 (by decide) lk12 rfl rfl dX1_setAgeing_29 ?_
      refine lv_iload_n hx hb dX1_setAgeing_32 rfl (lv_at hl 2 rfl) ?_
      refine pz (C := RX0) (T := TX0) (N := 16) (ty := .int) (ws1 := (xW cI cN b an (upd s 2 x) rk (upS sv nx s) rv ((nx + 1) % 4) (min (ct + 1) 4) iv rj)) B hz hinX0 tyX0_ok nmX0 2 rfl rfl 1 (by decide) lk46 rfl rfl (by decide +kernel) rfl rfl (Nat.le_of_ble_eq_true rfl) (xW_f1 cI cN b an _ _ _ _ _ _ _ _ _) dX1_setAgeing_33 (fun H locs hz => ?_)
      refine lv_iload_n hx hb dX1_setAgeing_36 rfl (lv_at hl 0 rfl) ?_
      exact rz_i B hr hz dX1_setAgeing_37 (by simp [pAge, cIn]) (by first | (refine xAft_i ?_; simp [pAge, cIn]; done) | (refine xAft_s (r := s 2) ?_; simp [pAge, cIn]; done))
    · have cIn : fIn x (nI 1) (nI 99) = false := fIn_gt c8
      refine lv_aload_n hx hb dX1_setAgeing_11 rfl (lv_at hl 0 rfl) ?_
      refine cV (C := RX1) (T := TX1) (N := 6) (ci := 1) (q0 := 0) (k := 3) (As := []) (rest := []) (v := .int (-2)) (ws1 := (xW cI cN b an s rk sv rv nx ct (iv + nI 1) rj)) B hz hA (c_X1_countInvalid l D cI cN b an s rk sv rv nx ct iv rj  ) gX1_setAgeing_X1_countInvalid rfl rfl hd_X1_countInvalid (by decide) rfl rfl rfl hl.1 rfl (Nat.le_of_ble_eq_true rfl) dX1_setAgeing_12 (fun H locs hz => ?_)
      exact rz_i B hr hz dX1_setAgeing_15 (by simp [pAge, cIn]) (by first | (refine xAft_i ?_; simp [pAge, cIn]; done) | (refine xAft_s (r := s 2) ?_; simp [pAge, cIn]; done))
theorem hd_X1_pass : hdZ yX1_pass 1 := by decide +kernel
set_option maxRecDepth 100000 in
set_option maxHeartbeats 4000000 in
theorem c_X1_pass (l : Launch) (D : va_G) (cI cN : ClassId) (b : Nat → Nat) (an : Nat → Nat → Nat) (s : Sz) (rk : Sz) (sv : Nat → Sz) (rv : Nat → Sz) (nx : Nat) (ct : Nat) (iv : Int32) (rj : Int32) (x : Int32) (hnx : nx < 4) (hct : ct ≤ 4) : Fn l D cI cN yX1_pass wsX1_pass 3 (xW cI cN b an s rk sv rv nx ct iv rj) [.ref (b 0), .int x] (some (.int ((pPass x s).1))) (xAft cI cN b an s rk sv rv nx ct iv rj rk (pPass x s)) := by
  refine Fn.of (cc := cX1_pass) (nL := 2) (ret := (some .int)) (lv := [(0, .ref (b 0)), (1, .int x)]) (by decide +kernel) rfl (Nat.le_of_ble_eq_true rfl) rfl ?_
  intro p e s_ m args below meth c A B hr hA H locs ls hz hl
  have hx := B.1.1
  have hb := B.1.2.1
  have hinX0 : ∀ w ∈ u_ws RX0 TX0 16, w ∈ wsX1_pass := by decide +kernel
  have hinX1 : ∀ w ∈ u_ws RX1 TX1 6, w ∈ wsX1_pass := by decide +kernel
  have lk12 : Cond.fieldLink yX1_pass.cls 12 RX1 (TX1 0).2.1 (TX1 0).2.2.1 ∈ wsX1_pass := by decide +kernel
  have lk53 : Cond.fieldLink yX1_pass.cls 53 RX0 (TX0 0).2.1 (TX0 0).2.2.1 ∈ wsX1_pass := by decide +kernel
  refine lv_iload_n hx hb dX1_pass_0 rfl (lv_at hl 1 rfl) ?_
  refine lv_iconst (v := (nI 1)) hx hb dX1_pass_1 (by decide) ?_
  refine lv_icmp_lt (tgt := 12) hx hb dX1_pass_2 (by decide) (fun c2 => ?_) (fun c2 => ?_)
  · have cIn : fIn x (nI 1) (nI 1000) = false := fIn_lt c2
    refine lv_aload_n hx hb dX1_pass_12 rfl (lv_at hl 0 rfl) ?_
    refine cV (C := RX1) (T := TX1) (N := 6) (ci := 1) (q0 := 0) (k := 3) (As := []) (rest := []) (v := .int (-2)) (ws1 := (xW cI cN b an s rk sv rv nx ct (iv + nI 1) rj)) B hz hA (c_X1_countInvalid l D cI cN b an s rk sv rv nx ct iv rj  ) gX1_pass_X1_countInvalid rfl rfl hd_X1_countInvalid (by decide) rfl rfl rfl hl.1 rfl (Nat.le_of_ble_eq_true rfl) dX1_pass_13 (fun H locs hz => ?_)
    exact rz_i B hr hz dX1_pass_16 (by simp [pPass, cIn]) (by first | (refine xAft_i ?_; simp [pPass, cIn]; done) | (refine xAft_s (r := s 0 + x) ?_; simp [pPass, cIn]; done))
  · refine lv_iload_n hx hb dX1_pass_5 rfl (lv_at hl 1 rfl) ?_
    refine lv_sipush (v := (nI 1000)) hx hb dX1_pass_6 (by decide) ?_
    refine lv_icmp_le (tgt := 17) hx hb dX1_pass_9 (by decide) (fun c9 => ?_) (fun c9 => ?_)
    · have cIn : fIn x (nI 1) (nI 1000) = true := fIn_ok c2 c9
      refine lv_aload_n hx hb dX1_pass_17 rfl (lv_at hl 0 rfl) ?_
      refine cVv (C := RX1) (T := TX1) (N := 6) (ci := 1) (q0 := 0) (k := 3) (As := []) (rest := []) (ws1 := (xW cI cN b an s rk (upS sv nx s) rv ((nx + 1) % 4) (min (ct + 1) 4) iv rj)) B hz hA (c_X1_saveState l D cI cN b an s rk sv rv nx ct iv rj  (hnx) (hct)) gX1_pass_X1_saveState rfl rfl hd_X1_saveState (by decide) rfl rfl rfl hl.1 rfl (Nat.le_of_ble_eq_true rfl) dX1_pass_18 (fun H locs hz => ?_)
      refine lv_aload_n hx hb dX1_pass_21 rfl (lv_at hl 0 rfl) ?_
      refine gz (C := RX1) (T := TX1) (N := 6) (v := .ref (an 0 0)) B hz hinX1 0 rfl rfl 0 (by decide) lk12 rfl rfl dX1_pass_22 ?_
      refine lv_dup hx hb dX1_pass_25 rfl ?_
      refine gz (C := RX0) (T := TX0) (N := 16) (v := .int (s 0)) B hz hinX0 2 rfl rfl 0 (by decide) lk53 rfl rfl dX1_pass_26 ?_
      refine lv_iload_n hx hb dX1_pass_29 rfl (lv_at hl 1 rfl) ?_
      refine lv_iadd hx hb dX1_pass_30 ?_
      refine pz (C := RX0) (T := TX0) (N := 16) (ty := .int) (ws1 := (xW cI cN b an (upd s 0 ((s 0) + x)) rk (upS sv nx s) rv ((nx + 1) % 4) (min (ct + 1) 4) iv rj)) B hz hinX0 tyX0_ok nmX0 2 rfl rfl 0 (by decide) lk53 rfl rfl (by decide +kernel) rfl rfl (Nat.le_of_ble_eq_true rfl) (xW_f0 cI cN b an _ _ _ _ _ _ _ _ _) dX1_pass_31 (fun H locs hz => ?_)
      refine lv_aload_n hx hb dX1_pass_34 rfl (lv_at hl 0 rfl) ?_
      refine gz (C := RX1) (T := TX1) (N := 6) (v := .ref (an 0 0)) B hz hinX1 0 rfl rfl 0 (by decide) lk12 rfl rfl dX1_pass_35 ?_
      refine gz (C := RX0) (T := TX0) (N := 16) (v := .int ((upd s 0 ((s 0) + x)) 0)) B hz hinX0 2 rfl rfl 0 (by decide) lk53 rfl rfl dX1_pass_38 ?_
      refine cvt (y := ((s 0) + x)) pk_us ?_
      exact rz_i B hr hz dX1_pass_41 (by simp [pPass, cIn]) (by first | (refine xAft_i ?_; simp [pPass, cIn]; done) | (refine xAft_s (r := s 0 + x) ?_; simp [pPass, cIn]; done))
    · have cIn : fIn x (nI 1) (nI 1000) = false := fIn_gt c9
      refine lv_aload_n hx hb dX1_pass_12 rfl (lv_at hl 0 rfl) ?_
      refine cV (C := RX1) (T := TX1) (N := 6) (ci := 1) (q0 := 0) (k := 3) (As := []) (rest := []) (v := .int (-2)) (ws1 := (xW cI cN b an s rk sv rv nx ct (iv + nI 1) rj)) B hz hA (c_X1_countInvalid l D cI cN b an s rk sv rv nx ct iv rj  ) gX1_pass_X1_countInvalid rfl rfl hd_X1_countInvalid (by decide) rfl rfl rfl hl.1 rfl (Nat.le_of_ble_eq_true rfl) dX1_pass_13 (fun H locs hz => ?_)
      exact rz_i B hr hz dX1_pass_16 (by simp [pPass, cIn]) (by first | (refine xAft_i ?_; simp [pPass, cIn]; done) | (refine xAft_s (r := s 0 + x) ?_; simp [pPass, cIn]; done))
theorem hd_X1_setNoise : hdZ yX1_setNoise 1 := by decide +kernel
set_option maxRecDepth 100000 in
set_option maxHeartbeats 4000000 in
theorem c_X1_setNoise (l : Launch) (D : va_G) (cI cN : ClassId) (b : Nat → Nat) (an : Nat → Nat → Nat) (s : Sz) (rk : Sz) (sv : Nat → Sz) (rv : Nat → Sz) (nx : Nat) (ct : Nat) (iv : Int32) (rj : Int32) (x : Int32) (hnx : nx < 4) (hct : ct ≤ 4) : Fn l D cI cN yX1_setNoise wsX1_setNoise 3 (xW cI cN b an s rk sv rv nx ct iv rj) [.ref (b 0), .int x] (some (.int ((pNoise x s).1))) (xAft cI cN b an s rk sv rv nx ct iv rj rk (pNoise x s)) := by
  refine Fn.of (cc := cX1_setNoise) (nL := 2) (ret := (some .int)) (lv := [(0, .ref (b 0)), (1, .int x)]) (by decide +kernel) rfl (Nat.le_of_ble_eq_true rfl) rfl ?_
  intro p e s_ m args below meth c A B hr hA H locs ls hz hl
  have hx := B.1.1
  have hb := B.1.2.1
  have hinX0 : ∀ w ∈ u_ws RX0 TX0 16, w ∈ wsX1_setNoise := by decide +kernel
  have hinX1 : ∀ w ∈ u_ws RX1 TX1 6, w ∈ wsX1_setNoise := by decide +kernel
  have lk12 : Cond.fieldLink yX1_setNoise.cls 12 RX1 (TX1 0).2.1 (TX1 0).2.2.1 ∈ wsX1_setNoise := by decide +kernel
  have lk50 : Cond.fieldLink yX1_setNoise.cls 50 RX0 (TX0 2).2.1 (TX0 2).2.2.1 ∈ wsX1_setNoise := by decide +kernel
  have lk53 : Cond.fieldLink yX1_setNoise.cls 53 RX0 (TX0 0).2.1 (TX0 0).2.2.1 ∈ wsX1_setNoise := by decide +kernel
  refine lv_iload_n hx hb dX1_setNoise_0 rfl (lv_at hl 1 rfl) ?_
  refine lv_if_ge (tgt := 9) hx hb dX1_setNoise_1 (by decide) (fun c1 => ?_) (fun c1 => ?_)
  · refine lv_aload_n hx hb dX1_setNoise_9 rfl (lv_at hl 0 rfl) ?_
    refine cVv (C := RX1) (T := TX1) (N := 6) (ci := 1) (q0 := 0) (k := 3) (As := []) (rest := []) (ws1 := (xW cI cN b an s rk (upS sv nx s) rv ((nx + 1) % 4) (min (ct + 1) 4) iv rj)) B hz hA (c_X1_saveState l D cI cN b an s rk sv rv nx ct iv rj  (hnx) (hct)) gX1_setNoise_X1_saveState rfl rfl hd_X1_saveState (by decide) rfl rfl rfl hl.1 rfl (Nat.le_of_ble_eq_true rfl) dX1_setNoise_10 (fun H locs hz => ?_)
    refine lv_aload_n hx hb dX1_setNoise_13 rfl (lv_at hl 0 rfl) ?_
    refine gz (C := RX1) (T := TX1) (N := 6) (v := .ref (an 0 0)) B hz hinX1 0 rfl rfl 0 (by decide) lk12 rfl rfl dX1_setNoise_14 ?_
    refine lv_iload_n hx hb dX1_setNoise_17 rfl (lv_at hl 1 rfl) ?_
    refine pz (C := RX0) (T := TX0) (N := 16) (ty := .int) (ws1 := (xW cI cN b an (upd s 1 x) rk (upS sv nx s) rv ((nx + 1) % 4) (min (ct + 1) 4) iv rj)) B hz hinX0 tyX0_ok nmX0 2 rfl rfl 2 (by decide) lk50 rfl rfl (by decide +kernel) rfl rfl (Nat.le_of_ble_eq_true rfl) (xW_f2 cI cN b an _ _ _ _ _ _ _ _ _) dX1_setNoise_18 (fun H locs hz => ?_)
    refine lv_aload_n hx hb dX1_setNoise_21 rfl (lv_at hl 0 rfl) ?_
    refine gz (C := RX1) (T := TX1) (N := 6) (v := .ref (an 0 0)) B hz hinX1 0 rfl rfl 0 (by decide) lk12 rfl rfl dX1_setNoise_22 ?_
    refine gz (C := RX0) (T := TX0) (N := 16) (v := .int ((upd s 1 x) 0)) B hz hinX0 2 rfl rfl 0 (by decide) lk53 rfl rfl dX1_setNoise_25 ?_
    refine cvt (y := (s 0)) (pk_un (by omega)) ?_
    exact rz_i B hr hz dX1_setNoise_28 (by simp [pNoise, c1]) (by first | (refine xAft_i ?_; simp [pNoise, c1]; done) | (refine xAft_s (r := s 0) ?_; simp [pNoise, c1]; done))
  · refine lv_aload_n hx hb dX1_setNoise_4 rfl (lv_at hl 0 rfl) ?_
    refine cV (C := RX1) (T := TX1) (N := 6) (ci := 1) (q0 := 0) (k := 3) (As := []) (rest := []) (v := .int (-2)) (ws1 := (xW cI cN b an s rk sv rv nx ct (iv + nI 1) rj)) B hz hA (c_X1_countInvalid l D cI cN b an s rk sv rv nx ct iv rj  ) gX1_setNoise_X1_countInvalid rfl rfl hd_X1_countInvalid (by decide) rfl rfl rfl hl.1 rfl (Nat.le_of_ble_eq_true rfl) dX1_setNoise_5 (fun H locs hz => ?_)
    exact rz_i B hr hz dX1_setNoise_8 (by simp [pNoise, c1]) (by first | (refine xAft_i ?_; simp [pNoise, c1]; done) | (refine xAft_s (r := s 0) ?_; simp [pNoise, c1]; done))
theorem hd_X1_sound : hdZ yX1_sound 2 := by decide +kernel
set_option maxRecDepth 100000 in
set_option maxHeartbeats 4000000 in
theorem c_X1_sound (l : Launch) (D : va_G) (cI cN : ClassId) (b : Nat → Nat) (an : Nat → Nat → Nat) (s : Sz) (rk : Sz) (sv : Nat → Sz) (rv : Nat → Sz) (nx : Nat) (ct : Nat) (iv : Int32) (rj : Int32) (x : Int32) (y : Int32) (hnx : nx < 4) (hct : ct ≤ 4) (hI : IvS s) : Fn l D cI cN yX1_sound wsX1_sound 4 (xW cI cN b an s rk sv rv nx ct iv rj) [.ref (b 0), .int x, .int y] (some (.int ((pSound x y s).1))) (xAft cI cN b an s rk sv rv nx ct iv rj rk (pSound x y s)) := by
  refine Fn.of (cc := cX1_sound) (nL := 3) (ret := (some .int)) (lv := [(0, .ref (b 0)), (1, .int x), (2, .int y)]) (by decide +kernel) rfl (Nat.le_of_ble_eq_true rfl) rfl ?_
  intro p e s_ m args below meth c A B hr hA H locs ls hz hl
  have hx := B.1.1
  have hb := B.1.2.1
  have hinX1 : ∀ w ∈ u_ws RX1 TX1 6, w ∈ wsX1_sound := by decide +kernel
  have lk12 : Cond.fieldLink yX1_sound.cls 12 RX1 (TX1 0).2.1 (TX1 0).2.2.1 ∈ wsX1_sound := by decide +kernel
  refine lv_iload_n hx hb dX1_sound_0 rfl (lv_at hl 1 rfl) ?_
  refine cS (k := 4) (As := [.int x]) (rest := []) (v := .int (b2i (fSt x))) B hz hA (c_X1_isStation l D cI cN x ) gX1_sound_X1_isStation rfl hd_X1_isStation (by decide) rfl hl.1 rfl (Nat.le_of_ble_eq_true rfl) dX1_sound_1 (fun H locs hz => ?_)
  refine lb_if_eq (tgt := 14) hx hb dX1_sound_4 (by decide) (fun c4 => ?_) (fun c4 => ?_)
  · refine lv_aload_n hx hb dX1_sound_14 rfl (lv_at hl 0 rfl) ?_
    refine cV (C := RX1) (T := TX1) (N := 6) (ci := 1) (q0 := 0) (k := 4) (As := []) (rest := []) (v := .int (-2)) (ws1 := (xW cI cN b an s rk sv rv nx ct (iv + nI 1) rj)) B hz hA (c_X1_countInvalid l D cI cN b an s rk sv rv nx ct iv rj  ) gX1_sound_X1_countInvalid rfl rfl hd_X1_countInvalid (by decide) rfl rfl rfl hl.1 rfl (Nat.le_of_ble_eq_true rfl) dX1_sound_15 (fun H locs hz => ?_)
    exact rz_i B hr hz dX1_sound_18 (by first | (simp [pSound, c4]; done) | (simp [pSound, c4, tn5 hf]; done) | (simp [pSound, c4, tn5 hf, tn8 hc]; done)) (by first | (refine xAft_i ?_; simp [pSound, c4]; done) | (refine xAft_r ?_; simp [pSound, c4, tn5 hf]; done) | (refine xAft_s (r := (fSo f ch (fS0 s) 5).1) ?_; simp [pSound, c4, tn5 hf, tn8 hc]; done))
  · obtain ⟨f, hf, rfl⟩ := fSt_nat c4
    refine lv_iload_n hx hb dX1_sound_7 rfl (lv_at hl 2 rfl) ?_
    refine cS (k := 4) (As := [.int y]) (rest := []) (v := .int (b2i (fCh y))) B hz hA (c_X1_isChannel l D cI cN y ) gX1_sound_X1_isChannel rfl hd_X1_isChannel (by decide) rfl hl.1 rfl (Nat.le_of_ble_eq_true rfl) dX1_sound_8 (fun H locs hz => ?_)
    refine lb_if_ne (tgt := 19) hx hb dX1_sound_11 (by decide) (fun c11 => ?_) (fun c11 => ?_)
    · obtain ⟨ch, hc, rfl⟩ := fCh_nat c11
      refine lv_aload_n hx hb dX1_sound_19 rfl (lv_at hl 0 rfl) ?_
      refine gz (C := RX1) (T := TX1) (N := 6) (v := .ref (an 0 0)) B hz hinX1 0 rfl rfl 0 (by decide) lk12 rfl rfl dX1_sound_20 ?_
      refine lv_iload_n hx hb dX1_sound_23 rfl (lv_at hl 1 rfl) ?_
      refine cX (k := 4) (As := [.int (nI f)]) (rest := []) (v := .int (b2i (fLk s f))) (s' := s) (rk' := rk) B hz hA (c_X0_isLinked l D cI cN (an 0) s rk f (hf)) gX1_sound_X0_isLinked rfl rfl hd_X0_isLinked (by decide) rfl hl.1 rfl (Nat.le_of_ble_eq_true rfl) dX1_sound_24 (fun H locs hz => ?_)
      refine lb_if_eq (tgt := 35) hx hb dX1_sound_27 (by decide) (fun c27 => ?_) (fun c27 => ?_)
      · refine lv_aload_n hx hb dX1_sound_35 rfl (lv_at hl 0 rfl) ?_
        refine cVv (C := RX1) (T := TX1) (N := 6) (ci := 1) (q0 := 0) (k := 4) (As := []) (rest := []) (ws1 := (xW cI cN b an s rk (upS sv nx s) rv ((nx + 1) % 4) (min (ct + 1) 4) iv rj)) B hz hA (c_X1_saveState l D cI cN b an s rk sv rv nx ct iv rj  (hnx) (hct)) gX1_sound_X1_saveState rfl rfl hd_X1_saveState (by decide) rfl rfl rfl hl.1 rfl (Nat.le_of_ble_eq_true rfl) dX1_sound_36 (fun H locs hz => ?_)
        refine lv_aload_n hx hb dX1_sound_39 rfl (lv_at hl 0 rfl) ?_
        refine gz (C := RX1) (T := TX1) (N := 6) (v := .ref (an 0 0)) B hz hinX1 0 rfl rfl 0 (by decide) lk12 rfl rfl dX1_sound_40 ?_
        refine lv_iload_n hx hb dX1_sound_43 rfl (lv_at hl 1 rfl) ?_
        refine lv_iload_n hx hb dX1_sound_44 rfl (lv_at hl 2 rfl) ?_
        refine cX (k := 4) (As := [.int (nI f), .int (nI ch)]) (rest := []) (v := .int ((fSo f ch (fS0 s) 5).1)) (s' := ((fSo f ch (fS0 s) 5).2)) (rk' := rk) B hz hA (c_X0_emitSounding l D cI cN (an 0) s rk f ch (hf) (hc) (hI)) gX1_sound_X0_emitSounding rfl rfl hd_X0_emitSounding (by decide) rfl hl.1 rfl (Nat.le_of_ble_eq_true rfl) dX1_sound_45 (fun H locs hz => ?_)
        exact rz_i B hr hz dX1_sound_48 (by first | (simp [pSound, c4, c11, c27]; done) | (simp [pSound, c4, c11, c27, tn5 hf]; done) | (simp [pSound, c4, c11, c27, tn5 hf, tn8 hc]; done)) (by first | (refine xAft_i ?_; simp [pSound, c4, c11, c27]; done) | (refine xAft_r ?_; simp [pSound, c4, c11, c27, tn5 hf]; done) | (refine xAft_s (r := (fSo f ch (fS0 s) 5).1) ?_; simp [pSound, c4, c11, c27, tn5 hf, tn8 hc]; done))
      · refine lv_aload_n hx hb dX1_sound_30 rfl (lv_at hl 0 rfl) ?_
        refine cV (C := RX1) (T := TX1) (N := 6) (ci := 1) (q0 := 0) (k := 4) (As := []) (rest := []) (v := .int (-3)) (ws1 := (xW cI cN b an s rk sv rv nx ct iv (rj + nI 1))) B hz hA (c_X1_countRejected l D cI cN b an s rk sv rv nx ct iv rj  ) gX1_sound_X1_countRejected rfl rfl hd_X1_countRejected (by decide) rfl rfl rfl hl.1 rfl (Nat.le_of_ble_eq_true rfl) dX1_sound_31 (fun H locs hz => ?_)
        exact rz_i B hr hz dX1_sound_34 (by first | (simp [pSound, c4, c11, c27]; done) | (simp [pSound, c4, c11, c27, tn5 hf]; done) | (simp [pSound, c4, c11, c27, tn5 hf, tn8 hc]; done)) (by first | (refine xAft_i ?_; simp [pSound, c4, c11, c27]; done) | (refine xAft_r ?_; simp [pSound, c4, c11, c27, tn5 hf]; done) | (refine xAft_s (r := (fSo f ch (fS0 s) 5).1) ?_; simp [pSound, c4, c11, c27, tn5 hf, tn8 hc]; done))
    · refine lv_aload_n hx hb dX1_sound_14 rfl (lv_at hl 0 rfl) ?_
      refine cV (C := RX1) (T := TX1) (N := 6) (ci := 1) (q0 := 0) (k := 4) (As := []) (rest := []) (v := .int (-2)) (ws1 := (xW cI cN b an s rk sv rv nx ct (iv + nI 1) rj)) B hz hA (c_X1_countInvalid l D cI cN b an s rk sv rv nx ct iv rj  ) gX1_sound_X1_countInvalid rfl rfl hd_X1_countInvalid (by decide) rfl rfl rfl hl.1 rfl (Nat.le_of_ble_eq_true rfl) dX1_sound_15 (fun H locs hz => ?_)
      exact rz_i B hr hz dX1_sound_18 (by first | (simp [pSound, c4, c11]; done) | (simp [pSound, c4, c11, tn5 hf]; done) | (simp [pSound, c4, c11, tn5 hf, tn8 hc]; done)) (by first | (refine xAft_i ?_; simp [pSound, c4, c11]; done) | (refine xAft_r ?_; simp [pSound, c4, c11, tn5 hf]; done) | (refine xAft_s (r := (fSo f ch (fS0 s) 5).1) ?_; simp [pSound, c4, c11, tn5 hf, tn8 hc]; done))
theorem hd_X1_call : hdZ yX1_call 2 := by decide +kernel
set_option maxRecDepth 100000 in
set_option maxHeartbeats 4000000 in
theorem c_X1_call (l : Launch) (D : va_G) (cI cN : ClassId) (b : Nat → Nat) (an : Nat → Nat → Nat) (s : Sz) (rk : Sz) (sv : Nat → Sz) (rv : Nat → Sz) (nx : Nat) (ct : Nat) (iv : Int32) (rj : Int32) (x : Int32) (y : Int32) (hnx : nx < 4) (hct : ct ≤ 4) (hI : IvS s) (hv : IvA s) : Fn l D cI cN yX1_call wsX1_call 5 (xW cI cN b an s rk sv rv nx ct iv rj) [.ref (b 0), .int x, .int y] (some (.int ((pCall (xCl s rk) x y s).1))) (xAft cI cN b an s rk sv rv nx ct iv rj (fRb (tn x) (tn y) s rk) (pCall (xCl s rk) x y s)) := by
  refine Fn.of (cc := cX1_call) (nL := 3) (ret := (some .int)) (lv := [(0, .ref (b 0)), (1, .int x), (2, .int y)]) (by decide +kernel) rfl (Nat.le_of_ble_eq_true rfl) rfl ?_
  intro p e s_ m args below meth c A B hr hA H locs ls hz hl
  have hx := B.1.1
  have hb := B.1.2.1
  have hinX1 : ∀ w ∈ u_ws RX1 TX1 6, w ∈ wsX1_call := by decide +kernel
  have lk12 : Cond.fieldLink yX1_call.cls 12 RX1 (TX1 0).2.1 (TX1 0).2.2.1 ∈ wsX1_call := by decide +kernel
  refine lv_iload_n hx hb dX1_call_0 rfl (lv_at hl 1 rfl) ?_
  refine lv_iload_n hx hb dX1_call_1 rfl (lv_at hl 2 rfl) ?_
  refine cS (k := 5) (As := [.int x, .int y]) (rest := []) (v := .int (b2i (fPr x y))) B hz hA (c_X1_isPair l D cI cN x y ) gX1_call_X1_isPair rfl hd_X1_isPair (by decide) rfl hl.1 rfl (Nat.le_of_ble_eq_true rfl) dX1_call_2 (fun H locs hz => ?_)
  refine lb_if_ne (tgt := 13) hx hb dX1_call_5 (by decide) (fun c5 => ?_) (fun c5 => ?_)
  · obtain ⟨f, t, hf, ht, hft, rfl, rfl⟩ := fPr_nat c5
    refine lv_aload_n hx hb dX1_call_13 rfl (lv_at hl 0 rfl) ?_
    refine gz (C := RX1) (T := TX1) (N := 6) (v := .ref (an 0 0)) B hz hinX1 0 rfl rfl 0 (by decide) lk12 rfl rfl dX1_call_14 ?_
    refine lv_iload_n hx hb dX1_call_17 rfl (lv_at hl 1 rfl) ?_
    refine cX (k := 5) (As := [.int (nI f)]) (rest := []) (v := .int (b2i (fLk s f))) (s' := s) (rk' := rk) B hz hA (c_X0_isLinked l D cI cN (an 0) s rk f (hf)) gX1_call_X0_isLinked rfl rfl hd_X0_isLinked (by decide) rfl hl.1 rfl (Nat.le_of_ble_eq_true rfl) dX1_call_18 (fun H locs hz => ?_)
    refine lb_if_ne (tgt := 35) hx hb dX1_call_21 (by decide) (fun c21 => ?_) (fun c21 => ?_)
    · refine lv_aload_n hx hb dX1_call_35 rfl (lv_at hl 0 rfl) ?_
      refine cV (C := RX1) (T := TX1) (N := 6) (ci := 1) (q0 := 0) (k := 5) (As := []) (rest := []) (v := .int (-3)) (ws1 := (xW cI cN b an s rk sv rv nx ct iv (rj + nI 1))) B hz hA (c_X1_countRejected l D cI cN b an s rk sv rv nx ct iv rj  ) gX1_call_X1_countRejected rfl rfl hd_X1_countRejected (by decide) rfl rfl rfl hl.1 rfl (Nat.le_of_ble_eq_true rfl) dX1_call_36 (fun H locs hz => ?_)
      exact rz_i B hr hz dX1_call_39 (by first | (simp [pCall, c5]; done) | (simp [pCall, c5, c21, tn5 hf]; done) | (simp [pCall, c5, c21, c32, tn5 hf, tn5 ht, xCl]; done)) (by first | (refine xAft_i ?_; simp [pCall, c5]; done) | (refine xAft_r ?_; simp [pCall, c5, c21, tn5 hf]; done) | (refine xAft_r ?_; simp [pCall, c5, c21, c32, tn5 hf, tn5 ht]; done) | (rw [tn5 hf, tn5 ht]; refine xAft_s (r := (xCl s rk f t).1) ?_; simp [pCall, c5, c21, c32, tn5 hf, tn5 ht, xCl]; done))
    · refine lv_aload_n hx hb dX1_call_24 rfl (lv_at hl 0 rfl) ?_
      refine gz (C := RX1) (T := TX1) (N := 6) (v := .ref (an 0 0)) B hz hinX1 0 rfl rfl 0 (by decide) lk12 rfl rfl dX1_call_25 ?_
      refine lv_iload_n hx hb dX1_call_28 rfl (lv_at hl 2 rfl) ?_
      refine cX (k := 5) (As := [.int (nI t)]) (rest := []) (v := .int (b2i (fLk s t))) (s' := s) (rk' := rk) B hz hA (c_X0_isLinked l D cI cN (an 0) s rk t (ht)) gX1_call_X0_isLinked rfl rfl hd_X0_isLinked (by decide) rfl hl.1 rfl (Nat.le_of_ble_eq_true rfl) dX1_call_29 (fun H locs hz => ?_)
      refine lb_if_eq (tgt := 40) hx hb dX1_call_32 (by decide) (fun c32 => ?_) (fun c32 => ?_)
      · refine lv_aload_n hx hb dX1_call_40 rfl (lv_at hl 0 rfl) ?_
        refine cVv (C := RX1) (T := TX1) (N := 6) (ci := 1) (q0 := 0) (k := 5) (As := []) (rest := []) (ws1 := (xW cI cN b an s rk (upS sv nx s) rv ((nx + 1) % 4) (min (ct + 1) 4) iv rj)) B hz hA (c_X1_saveState l D cI cN b an s rk sv rv nx ct iv rj  (hnx) (hct)) gX1_call_X1_saveState rfl rfl hd_X1_saveState (by decide) rfl rfl rfl hl.1 rfl (Nat.le_of_ble_eq_true rfl) dX1_call_41 (fun H locs hz => ?_)
        refine lv_aload_n hx hb dX1_call_44 rfl (lv_at hl 0 rfl) ?_
        refine gz (C := RX1) (T := TX1) (N := 6) (v := .ref (an 0 0)) B hz hinX1 0 rfl rfl 0 (by decide) lk12 rfl rfl dX1_call_45 ?_
        refine lv_iload_n hx hb dX1_call_48 rfl (lv_at hl 1 rfl) ?_
        refine lv_iload_n hx hb dX1_call_49 rfl (lv_at hl 2 rfl) ?_
        refine cX (k := 5) (As := [.int (nI f), .int (nI t)]) (rest := []) (v := .int ((fCx f t (fRb f t s rk) 8 (scn s f) (upd s 5 (nI 0))).1)) (s' := ((fCx f t (fRb f t s rk) 8 (scn s f) (upd s 5 (nI 0))).2)) (rk' := (fRb f t s rk)) B hz hA (c_X0_callOne l D cI cN (an 0) s rk f t (hf) (ht) (hI) (hv) (c32)) gX1_call_X0_callOne rfl rfl hd_X0_callOne (by decide) rfl hl.1 rfl (Nat.le_of_ble_eq_true rfl) dX1_call_50 (fun H locs hz => ?_)
        exact rz_i B hr hz dX1_call_53 (by first | (simp [pCall, c5]; done) | (simp [pCall, c5, c21, tn5 hf]; done) | (simp [pCall, c5, c21, c32, tn5 hf, tn5 ht, xCl]; done)) (by first | (refine xAft_i ?_; simp [pCall, c5]; done) | (refine xAft_r ?_; simp [pCall, c5, c21, tn5 hf]; done) | (refine xAft_r ?_; simp [pCall, c5, c21, c32, tn5 hf, tn5 ht]; done) | (rw [tn5 hf, tn5 ht]; refine xAft_s (r := (xCl s rk f t).1) ?_; simp [pCall, c5, c21, c32, tn5 hf, tn5 ht, xCl]; done))
      · refine lv_aload_n hx hb dX1_call_35 rfl (lv_at hl 0 rfl) ?_
        refine cV (C := RX1) (T := TX1) (N := 6) (ci := 1) (q0 := 0) (k := 5) (As := []) (rest := []) (v := .int (-3)) (ws1 := (xW cI cN b an s rk sv rv nx ct iv (rj + nI 1))) B hz hA (c_X1_countRejected l D cI cN b an s rk sv rv nx ct iv rj  ) gX1_call_X1_countRejected rfl rfl hd_X1_countRejected (by decide) rfl rfl rfl hl.1 rfl (Nat.le_of_ble_eq_true rfl) dX1_call_36 (fun H locs hz => ?_)
        exact rz_i B hr hz dX1_call_39 (by first | (simp [pCall, c5]; done) | (simp [pCall, c5, c21, tn5 hf]; done) | (simp [pCall, c5, c21, c32, tn5 hf, tn5 ht, xCl]; done)) (by first | (refine xAft_i ?_; simp [pCall, c5]; done) | (refine xAft_r ?_; simp [pCall, c5, c21, tn5 hf]; done) | (refine xAft_r ?_; simp [pCall, c5, c21, c32, tn5 hf, tn5 ht]; done) | (rw [tn5 hf, tn5 ht]; refine xAft_s (r := (xCl s rk f t).1) ?_; simp [pCall, c5, c21, c32, tn5 hf, tn5 ht, xCl]; done))
  · refine lv_aload_n hx hb dX1_call_8 rfl (lv_at hl 0 rfl) ?_
    refine cV (C := RX1) (T := TX1) (N := 6) (ci := 1) (q0 := 0) (k := 5) (As := []) (rest := []) (v := .int (-2)) (ws1 := (xW cI cN b an s rk sv rv nx ct (iv + nI 1) rj)) B hz hA (c_X1_countInvalid l D cI cN b an s rk sv rv nx ct iv rj  ) gX1_call_X1_countInvalid rfl rfl hd_X1_countInvalid (by decide) rfl rfl rfl hl.1 rfl (Nat.le_of_ble_eq_true rfl) dX1_call_9 (fun H locs hz => ?_)
    exact rz_i B hr hz dX1_call_12 (by first | (simp [pCall, c5]; done) | (simp [pCall, c5, c21, tn5 hf]; done) | (simp [pCall, c5, c21, c32, tn5 hf, tn5 ht, xCl]; done)) (by first | (refine xAft_i ?_; simp [pCall, c5]; done) | (refine xAft_r ?_; simp [pCall, c5, c21, tn5 hf]; done) | (refine xAft_r ?_; simp [pCall, c5, c21, c32, tn5 hf, tn5 ht]; done) | (rw [tn5 hf, tn5 ht]; refine xAft_s (r := (xCl s rk f t).1) ?_; simp [pCall, c5, c21, c32, tn5 hf, tn5 ht, xCl]; done))
theorem hd_X1_netCall : hdZ yX1_netCall 2 := by decide +kernel
set_option maxRecDepth 100000 in
set_option maxHeartbeats 4000000 in
theorem c_X1_netCall (l : Launch) (D : va_G) (cI cN : ClassId) (b : Nat → Nat) (an : Nat → Nat → Nat) (s : Sz) (rk : Sz) (sv : Nat → Sz) (rv : Nat → Sz) (nx : Nat) (ct : Nat) (iv : Int32) (rj : Int32) (x : Int32) (y : Int32) (hnx : nx < 4) (hct : ct ≤ 4) (hI : IvS s) (hv : IvA s) : Fn l D cI cN yX1_netCall wsX1_netCall 6 (xW cI cN b an s rk sv rv nx ct iv rj) [.ref (b 0), .int x, .int y] (some (.int ((pNet (fun f => frn (fRk y f s rk 8) (scn s f)) x y s).1))) (xAft cI cN b an s rk sv rv nx ct iv rj (fRk y (tn x) s rk 8) (pNet (fun f => frn (fRk y f s rk 8) (scn s f)) x y s)) := by
  refine Fn.of (cc := cX1_netCall) (nL := 3) (ret := (some .int)) (lv := [(0, .ref (b 0)), (1, .int x), (2, .int y)]) (by decide +kernel) rfl (Nat.le_of_ble_eq_true rfl) rfl ?_
  intro p e s_ m args below meth c A B hr hA H locs ls hz hl
  have hx := B.1.1
  have hb := B.1.2.1
  have hinX1 : ∀ w ∈ u_ws RX1 TX1 6, w ∈ wsX1_netCall := by decide +kernel
  have lk12 : Cond.fieldLink yX1_netCall.cls 12 RX1 (TX1 0).2.1 (TX1 0).2.2.1 ∈ wsX1_netCall := by decide +kernel
  refine lv_iload_n hx hb dX1_netCall_0 rfl (lv_at hl 1 rfl) ?_
  refine lv_iload_n hx hb dX1_netCall_1 rfl (lv_at hl 2 rfl) ?_
  refine cS (k := 6) (As := [.int x, .int y]) (rest := []) (v := .int (b2i (fNet x y))) B hz hA (c_X1_isNet l D cI cN x y ) gX1_netCall_X1_isNet rfl hd_X1_isNet (by decide) rfl hl.1 rfl (Nat.le_of_ble_eq_true rfl) dX1_netCall_2 (fun H locs hz => ?_)
  refine lb_if_ne (tgt := 13) hx hb dX1_netCall_5 (by decide) (fun c5 => ?_) (fun c5 => ?_)
  · obtain ⟨f, tm, hf, htm1, htm2, hfm, rfl, rfl⟩ := fNet_nat c5
    refine lv_aload_n hx hb dX1_netCall_13 rfl (lv_at hl 0 rfl) ?_
    refine gz (C := RX1) (T := TX1) (N := 6) (v := .ref (an 0 0)) B hz hinX1 0 rfl rfl 0 (by decide) lk12 rfl rfl dX1_netCall_14 ?_
    refine lv_iload_n hx hb dX1_netCall_17 rfl (lv_at hl 1 rfl) ?_
    refine cX (k := 6) (As := [.int (nI f)]) (rest := []) (v := .int (b2i (fLk s f))) (s' := s) (rk' := rk) B hz hA (c_X0_isLinked l D cI cN (an 0) s rk f (hf)) gX1_netCall_X0_isLinked rfl rfl hd_X0_isLinked (by decide) rfl hl.1 rfl (Nat.le_of_ble_eq_true rfl) dX1_netCall_18 (fun H locs hz => ?_)
    refine lb_if_eq (tgt := 29) hx hb dX1_netCall_21 (by decide) (fun c21 => ?_) (fun c21 => ?_)
    · refine lv_aload_n hx hb dX1_netCall_29 rfl (lv_at hl 0 rfl) ?_
      refine cVv (C := RX1) (T := TX1) (N := 6) (ci := 1) (q0 := 0) (k := 6) (As := []) (rest := []) (ws1 := (xW cI cN b an s rk (upS sv nx s) rv ((nx + 1) % 4) (min (ct + 1) 4) iv rj)) B hz hA (c_X1_saveState l D cI cN b an s rk sv rv nx ct iv rj  (hnx) (hct)) gX1_netCall_X1_saveState rfl rfl hd_X1_saveState (by decide) rfl rfl rfl hl.1 rfl (Nat.le_of_ble_eq_true rfl) dX1_netCall_30 (fun H locs hz => ?_)
      refine lv_aload_n hx hb dX1_netCall_33 rfl (lv_at hl 0 rfl) ?_
      refine gz (C := RX1) (T := TX1) (N := 6) (v := .ref (an 0 0)) B hz hinX1 0 rfl rfl 0 (by decide) lk12 rfl rfl dX1_netCall_34 ?_
      refine lv_iload_n hx hb dX1_netCall_37 rfl (lv_at hl 1 rfl) ?_
      refine lv_iload_n hx hb dX1_netCall_38 rfl (lv_at hl 2 rfl) ?_
      refine cX (k := 6) (As := [.int (nI f), .int (nI tm)]) (rest := []) (v := .int ((fNt f (frn (fRk (nI tm) f s rk 8) (scn s f)) (nI tm) s).1)) (s' := ((fNt f (frn (fRk (nI tm) f s rk 8) (scn s f)) (nI tm) s).2)) (rk' := (fRk (nI tm) f s rk 8)) B hz hA (c_X0_callMany l D cI cN (an 0) s rk f (nI tm) (hf) (hI) (hv)) gX1_netCall_X0_callMany rfl rfl hd_X0_callMany (by decide) rfl hl.1 rfl (Nat.le_of_ble_eq_true rfl) dX1_netCall_39 (fun H locs hz => ?_)
      exact rz_i B hr hz dX1_netCall_42 (by first | (simp [pNet, c5]; done) | (simp [pNet, c5, c21, tn5 hf]; done)) (by first | (refine xAft_i ?_; simp [pNet, c5]; done) | (refine xAft_r ?_; simp [pNet, c5, c21, tn5 hf]; done) | (rw [tn5 hf]; refine xAft_s (r := (fNt f (frn (fRk (nI tm) f s rk 8) (scn s f)) (nI tm) s).1) ?_; simp [pNet, c5, c21, tn5 hf]; done))
    · refine lv_aload_n hx hb dX1_netCall_24 rfl (lv_at hl 0 rfl) ?_
      refine cV (C := RX1) (T := TX1) (N := 6) (ci := 1) (q0 := 0) (k := 6) (As := []) (rest := []) (v := .int (-3)) (ws1 := (xW cI cN b an s rk sv rv nx ct iv (rj + nI 1))) B hz hA (c_X1_countRejected l D cI cN b an s rk sv rv nx ct iv rj  ) gX1_netCall_X1_countRejected rfl rfl hd_X1_countRejected (by decide) rfl rfl rfl hl.1 rfl (Nat.le_of_ble_eq_true rfl) dX1_netCall_25 (fun H locs hz => ?_)
      exact rz_i B hr hz dX1_netCall_28 (by first | (simp [pNet, c5]; done) | (simp [pNet, c5, c21, tn5 hf]; done)) (by first | (refine xAft_i ?_; simp [pNet, c5]; done) | (refine xAft_r ?_; simp [pNet, c5, c21, tn5 hf]; done) | (rw [tn5 hf]; refine xAft_s (r := (fNt f (frn (fRk (nI tm) f s rk 8) (scn s f)) (nI tm) s).1) ?_; simp [pNet, c5, c21, tn5 hf]; done))
  · refine lv_aload_n hx hb dX1_netCall_8 rfl (lv_at hl 0 rfl) ?_
    refine cV (C := RX1) (T := TX1) (N := 6) (ci := 1) (q0 := 0) (k := 6) (As := []) (rest := []) (v := .int (-2)) (ws1 := (xW cI cN b an s rk sv rv nx ct (iv + nI 1) rj)) B hz hA (c_X1_countInvalid l D cI cN b an s rk sv rv nx ct iv rj  ) gX1_netCall_X1_countInvalid rfl rfl hd_X1_countInvalid (by decide) rfl rfl rfl hl.1 rfl (Nat.le_of_ble_eq_true rfl) dX1_netCall_9 (fun H locs hz => ?_)
    exact rz_i B hr hz dX1_netCall_12 (by first | (simp [pNet, c5]; done) | (simp [pNet, c5, c21, tn5 hf]; done)) (by first | (refine xAft_i ?_; simp [pNet, c5]; done) | (refine xAft_r ?_; simp [pNet, c5, c21, tn5 hf]; done) | (rw [tn5 hf]; refine xAft_s (r := (fNt f (frn (fRk (nI tm) f s rk 8) (scn s f)) (nI tm) s).1) ?_; simp [pNet, c5, c21, tn5 hf]; done))
theorem hd_X1_hangUp : hdZ yX1_hangUp 1 := by decide +kernel
set_option maxRecDepth 100000 in
set_option maxHeartbeats 4000000 in
theorem c_X1_hangUp (l : Launch) (D : va_G) (cI cN : ClassId) (b : Nat → Nat) (an : Nat → Nat → Nat) (s : Sz) (rk : Sz) (sv : Nat → Sz) (rv : Nat → Sz) (nx : Nat) (ct : Nat) (iv : Int32) (rj : Int32) (x : Int32) (hnx : nx < 4) (hct : ct ≤ 4) (hL : IvL s) : Fn l D cI cN yX1_hangUp wsX1_hangUp 3 (xW cI cN b an s rk sv rv nx ct iv rj) [.ref (b 0), .int x] (some (.int ((pHang x s).1))) (xAft cI cN b an s rk sv rv nx ct iv rj rk (pHang x s)) := by
  refine Fn.of (cc := cX1_hangUp) (nL := 2) (ret := (some .int)) (lv := [(0, .ref (b 0)), (1, .int x)]) (by decide +kernel) rfl (Nat.le_of_ble_eq_true rfl) rfl ?_
  intro p e s_ m args below meth c A B hr hA H locs ls hz hl
  have hx := B.1.1
  have hb := B.1.2.1
  have hinX1 : ∀ w ∈ u_ws RX1 TX1 6, w ∈ wsX1_hangUp := by decide +kernel
  have lk12 : Cond.fieldLink yX1_hangUp.cls 12 RX1 (TX1 0).2.1 (TX1 0).2.2.1 ∈ wsX1_hangUp := by decide +kernel
  refine lv_iload_n hx hb dX1_hangUp_0 rfl (lv_at hl 1 rfl) ?_
  refine cS (k := 3) (As := [.int x]) (rest := []) (v := .int (b2i (fSt x))) B hz hA (c_X1_isStation l D cI cN x ) gX1_hangUp_X1_isStation rfl hd_X1_isStation (by decide) rfl hl.1 rfl (Nat.le_of_ble_eq_true rfl) dX1_hangUp_1 (fun H locs hz => ?_)
  refine lb_if_ne (tgt := 12) hx hb dX1_hangUp_4 (by decide) (fun c4 => ?_) (fun c4 => ?_)
  · obtain ⟨f, hf, rfl⟩ := fSt_nat c4
    refine lv_aload_n hx hb dX1_hangUp_12 rfl (lv_at hl 0 rfl) ?_
    refine gz (C := RX1) (T := TX1) (N := 6) (v := .ref (an 0 0)) B hz hinX1 0 rfl rfl 0 (by decide) lk12 rfl rfl dX1_hangUp_13 ?_
    refine lv_iload_n hx hb dX1_hangUp_16 rfl (lv_at hl 1 rfl) ?_
    refine cX (k := 3) (As := [.int (nI f)]) (rest := []) (v := .int (b2i (fLk s f))) (s' := s) (rk' := rk) B hz hA (c_X0_isLinked l D cI cN (an 0) s rk f (hf)) gX1_hangUp_X0_isLinked rfl rfl hd_X0_isLinked (by decide) rfl hl.1 rfl (Nat.le_of_ble_eq_true rfl) dX1_hangUp_17 (fun H locs hz => ?_)
    refine lb_if_ne (tgt := 28) hx hb dX1_hangUp_20 (by decide) (fun c20 => ?_) (fun c20 => ?_)
    · refine lv_aload_n hx hb dX1_hangUp_28 rfl (lv_at hl 0 rfl) ?_
      refine cVv (C := RX1) (T := TX1) (N := 6) (ci := 1) (q0 := 0) (k := 3) (As := []) (rest := []) (ws1 := (xW cI cN b an s rk (upS sv nx s) rv ((nx + 1) % 4) (min (ct + 1) 4) iv rj)) B hz hA (c_X1_saveState l D cI cN b an s rk sv rv nx ct iv rj  (hnx) (hct)) gX1_hangUp_X1_saveState rfl rfl hd_X1_saveState (by decide) rfl rfl rfl hl.1 rfl (Nat.le_of_ble_eq_true rfl) dX1_hangUp_29 (fun H locs hz => ?_)
      refine lv_aload_n hx hb dX1_hangUp_32 rfl (lv_at hl 0 rfl) ?_
      refine gz (C := RX1) (T := TX1) (N := 6) (v := .ref (an 0 0)) B hz hinX1 0 rfl rfl 0 (by decide) lk12 rfl rfl dX1_hangUp_33 ?_
      refine lv_iload_n hx hb dX1_hangUp_36 rfl (lv_at hl 1 rfl) ?_
      refine cX (k := 3) (As := [.int (nI f)]) (rest := []) (v := .int ((fHg f s).1)) (s' := ((fHg f s).2)) (rk' := rk) B hz hA (c_X0_leaveLink l D cI cN (an 0) s rk f (hf) (hL)) gX1_hangUp_X0_leaveLink rfl rfl hd_X0_leaveLink (by decide) rfl hl.1 rfl (Nat.le_of_ble_eq_true rfl) dX1_hangUp_37 (fun H locs hz => ?_)
      exact rz_i B hr hz dX1_hangUp_40 (by first | (simp [pHang, c4]; done) | (simp [pHang, c4, c20, tn5 hf]; done)) (by first | (refine xAft_i ?_; simp [pHang, c4]; done) | (refine xAft_r ?_; simp [pHang, c4, c20, tn5 hf]; done) | (refine xAft_s (r := (fHg f s).1) ?_; simp [pHang, c4, c20, tn5 hf]; done))
    · refine lv_aload_n hx hb dX1_hangUp_23 rfl (lv_at hl 0 rfl) ?_
      refine cV (C := RX1) (T := TX1) (N := 6) (ci := 1) (q0 := 0) (k := 3) (As := []) (rest := []) (v := .int (-3)) (ws1 := (xW cI cN b an s rk sv rv nx ct iv (rj + nI 1))) B hz hA (c_X1_countRejected l D cI cN b an s rk sv rv nx ct iv rj  ) gX1_hangUp_X1_countRejected rfl rfl hd_X1_countRejected (by decide) rfl rfl rfl hl.1 rfl (Nat.le_of_ble_eq_true rfl) dX1_hangUp_24 (fun H locs hz => ?_)
      exact rz_i B hr hz dX1_hangUp_27 (by first | (simp [pHang, c4]; done) | (simp [pHang, c4, c20, tn5 hf]; done)) (by first | (refine xAft_i ?_; simp [pHang, c4]; done) | (refine xAft_r ?_; simp [pHang, c4, c20, tn5 hf]; done) | (refine xAft_s (r := (fHg f s).1) ?_; simp [pHang, c4, c20, tn5 hf]; done))
  · refine lv_aload_n hx hb dX1_hangUp_7 rfl (lv_at hl 0 rfl) ?_
    refine cV (C := RX1) (T := TX1) (N := 6) (ci := 1) (q0 := 0) (k := 3) (As := []) (rest := []) (v := .int (-2)) (ws1 := (xW cI cN b an s rk sv rv nx ct (iv + nI 1) rj)) B hz hA (c_X1_countInvalid l D cI cN b an s rk sv rv nx ct iv rj  ) gX1_hangUp_X1_countInvalid rfl rfl hd_X1_countInvalid (by decide) rfl rfl rfl hl.1 rfl (Nat.le_of_ble_eq_true rfl) dX1_hangUp_8 (fun H locs hz => ?_)
    exact rz_i B hr hz dX1_hangUp_11 (by first | (simp [pHang, c4]; done) | (simp [pHang, c4, c20, tn5 hf]; done)) (by first | (refine xAft_i ?_; simp [pHang, c4]; done) | (refine xAft_r ?_; simp [pHang, c4, c20, tn5 hf]; done) | (refine xAft_s (r := (fHg f s).1) ?_; simp [pHang, c4, c20, tn5 hf]; done))
