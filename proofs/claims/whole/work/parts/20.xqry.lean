theorem hd_X1_attempts : hdZ yX1_attempts 0 := by decide +kernel
set_option maxRecDepth 100000 in
set_option maxHeartbeats 4000000 in
theorem c_X1_attempts (l : Launch) (D : va_G) (cI cN : ClassId) (b : Nat → Nat) (an : Nat → Nat → Nat) (s : Sz) (rk : Sz) (sv : Nat → Sz) (rv : Nat → Sz) (nx : Nat) (ct : Nat) (iv : Int32) (rj : Int32) : Fn l D cI cN yX1_attempts wsX1_attempts 0 (xW cI cN b an s rk sv rv nx ct iv rj) [.ref (b 0)] (some (.int (s 5))) (xW cI cN b an s rk sv rv nx ct iv rj) := by
  refine Fn.of (cc := cX1_attempts) (nL := 1) (ret := (some .int)) (lv := [(0, .ref (b 0))]) (by decide +kernel) rfl (Nat.le_of_ble_eq_true rfl) rfl ?_
  intro p e s_ m args below meth c A B hr hA H locs ls hz hl
  have hx := B.1.1
  have hb := B.1.2.1
  have hinX0 : ∀ w ∈ u_ws RX0 TX0 16, w ∈ wsX1_attempts := by decide +kernel
  have hinX1 : ∀ w ∈ u_ws RX1 TX1 6, w ∈ wsX1_attempts := by decide +kernel
  have lk12 : Cond.fieldLink yX1_attempts.cls 12 RX1 (TX1 0).2.1 (TX1 0).2.2.1 ∈ wsX1_attempts := by decide +kernel
  have lk86 : Cond.fieldLink yX1_attempts.cls 86 RX0 (TX0 5).2.1 (TX0 5).2.2.1 ∈ wsX1_attempts := by decide +kernel
  refine lv_aload_n hx hb dX1_attempts_0 rfl (lv_at hl 0 rfl) ?_
  refine gz (C := RX1) (T := TX1) (N := 6) (v := .ref (an 0 0)) B hz hinX1 0 rfl rfl 0 (by decide) lk12 rfl rfl dX1_attempts_1 ?_
  refine gz (C := RX0) (T := TX0) (N := 16) (v := .int (s 5)) B hz hinX0 2 rfl rfl 5 (by decide) lk86 rfl rfl dX1_attempts_4 ?_
  exact rz_i B hr hz dX1_attempts_7 (by rfl) (by rfl)
theorem hd_X1_lastChannel : hdZ yX1_lastChannel 0 := by decide +kernel
set_option maxRecDepth 100000 in
set_option maxHeartbeats 4000000 in
theorem c_X1_lastChannel (l : Launch) (D : va_G) (cI cN : ClassId) (b : Nat → Nat) (an : Nat → Nat → Nat) (s : Sz) (rk : Sz) (sv : Nat → Sz) (rv : Nat → Sz) (nx : Nat) (ct : Nat) (iv : Int32) (rj : Int32) : Fn l D cI cN yX1_lastChannel wsX1_lastChannel 0 (xW cI cN b an s rk sv rv nx ct iv rj) [.ref (b 0)] (some (.int (s 6))) (xW cI cN b an s rk sv rv nx ct iv rj) := by
  refine Fn.of (cc := cX1_lastChannel) (nL := 1) (ret := (some .int)) (lv := [(0, .ref (b 0))]) (by decide +kernel) rfl (Nat.le_of_ble_eq_true rfl) rfl ?_
  intro p e s_ m args below meth c A B hr hA H locs ls hz hl
  have hx := B.1.1
  have hb := B.1.2.1
  have hinX0 : ∀ w ∈ u_ws RX0 TX0 16, w ∈ wsX1_lastChannel := by decide +kernel
  have hinX1 : ∀ w ∈ u_ws RX1 TX1 6, w ∈ wsX1_lastChannel := by decide +kernel
  have lk12 : Cond.fieldLink yX1_lastChannel.cls 12 RX1 (TX1 0).2.1 (TX1 0).2.2.1 ∈ wsX1_lastChannel := by decide +kernel
  have lk89 : Cond.fieldLink yX1_lastChannel.cls 89 RX0 (TX0 6).2.1 (TX0 6).2.2.1 ∈ wsX1_lastChannel := by decide +kernel
  refine lv_aload_n hx hb dX1_lastChannel_0 rfl (lv_at hl 0 rfl) ?_
  refine gz (C := RX1) (T := TX1) (N := 6) (v := .ref (an 0 0)) B hz hinX1 0 rfl rfl 0 (by decide) lk12 rfl rfl dX1_lastChannel_1 ?_
  refine gz (C := RX0) (T := TX0) (N := 16) (v := .int (s 6)) B hz hinX0 2 rfl rfl 6 (by decide) lk89 rfl rfl dX1_lastChannel_4 ?_
  exact rz_i B hr hz dX1_lastChannel_7 (by rfl) (by rfl)
theorem hd_X1_lastUnanimous : hdZ yX1_lastUnanimous 0 := by decide +kernel
set_option maxRecDepth 100000 in
set_option maxHeartbeats 4000000 in
theorem c_X1_lastUnanimous (l : Launch) (D : va_G) (cI cN : ClassId) (b : Nat → Nat) (an : Nat → Nat → Nat) (s : Sz) (rk : Sz) (sv : Nat → Sz) (rv : Nat → Sz) (nx : Nat) (ct : Nat) (iv : Int32) (rj : Int32) : Fn l D cI cN yX1_lastUnanimous wsX1_lastUnanimous 0 (xW cI cN b an s rk sv rv nx ct iv rj) [.ref (b 0)] (some (.int (s 7))) (xW cI cN b an s rk sv rv nx ct iv rj) := by
  refine Fn.of (cc := cX1_lastUnanimous) (nL := 1) (ret := (some .int)) (lv := [(0, .ref (b 0))]) (by decide +kernel) rfl (Nat.le_of_ble_eq_true rfl) rfl ?_
  intro p e s_ m args below meth c A B hr hA H locs ls hz hl
  have hx := B.1.1
  have hb := B.1.2.1
  have hinX0 : ∀ w ∈ u_ws RX0 TX0 16, w ∈ wsX1_lastUnanimous := by decide +kernel
  have hinX1 : ∀ w ∈ u_ws RX1 TX1 6, w ∈ wsX1_lastUnanimous := by decide +kernel
  have lk12 : Cond.fieldLink yX1_lastUnanimous.cls 12 RX1 (TX1 0).2.1 (TX1 0).2.2.1 ∈ wsX1_lastUnanimous := by decide +kernel
  have lk92 : Cond.fieldLink yX1_lastUnanimous.cls 92 RX0 (TX0 7).2.1 (TX0 7).2.2.1 ∈ wsX1_lastUnanimous := by decide +kernel
  refine lv_aload_n hx hb dX1_lastUnanimous_0 rfl (lv_at hl 0 rfl) ?_
  refine gz (C := RX1) (T := TX1) (N := 6) (v := .ref (an 0 0)) B hz hinX1 0 rfl rfl 0 (by decide) lk12 rfl rfl dX1_lastUnanimous_1 ?_
  refine gz (C := RX0) (T := TX0) (N := 16) (v := .int (s 7)) B hz hinX0 2 rfl rfl 7 (by decide) lk92 rfl rfl dX1_lastUnanimous_4 ?_
  exact rz_i B hr hz dX1_lastUnanimous_7 (by rfl) (by rfl)
theorem hd_X1_lastVoted : hdZ yX1_lastVoted 0 := by decide +kernel
set_option maxRecDepth 100000 in
set_option maxHeartbeats 4000000 in
theorem c_X1_lastVoted (l : Launch) (D : va_G) (cI cN : ClassId) (b : Nat → Nat) (an : Nat → Nat → Nat) (s : Sz) (rk : Sz) (sv : Nat → Sz) (rv : Nat → Sz) (nx : Nat) (ct : Nat) (iv : Int32) (rj : Int32) : Fn l D cI cN yX1_lastVoted wsX1_lastVoted 0 (xW cI cN b an s rk sv rv nx ct iv rj) [.ref (b 0)] (some (.int (s 8))) (xW cI cN b an s rk sv rv nx ct iv rj) := by
  refine Fn.of (cc := cX1_lastVoted) (nL := 1) (ret := (some .int)) (lv := [(0, .ref (b 0))]) (by decide +kernel) rfl (Nat.le_of_ble_eq_true rfl) rfl ?_
  intro p e s_ m args below meth c A B hr hA H locs ls hz hl
  have hx := B.1.1
  have hb := B.1.2.1
  have hinX0 : ∀ w ∈ u_ws RX0 TX0 16, w ∈ wsX1_lastVoted := by decide +kernel
  have hinX1 : ∀ w ∈ u_ws RX1 TX1 6, w ∈ wsX1_lastVoted := by decide +kernel
  have lk12 : Cond.fieldLink yX1_lastVoted.cls 12 RX1 (TX1 0).2.1 (TX1 0).2.2.1 ∈ wsX1_lastVoted := by decide +kernel
  have lk95 : Cond.fieldLink yX1_lastVoted.cls 95 RX0 (TX0 8).2.1 (TX0 8).2.2.1 ∈ wsX1_lastVoted := by decide +kernel
  refine lv_aload_n hx hb dX1_lastVoted_0 rfl (lv_at hl 0 rfl) ?_
  refine gz (C := RX1) (T := TX1) (N := 6) (v := .ref (an 0 0)) B hz hinX1 0 rfl rfl 0 (by decide) lk12 rfl rfl dX1_lastVoted_1 ?_
  refine gz (C := RX0) (T := TX0) (N := 16) (v := .int (s 8)) B hz hinX0 2 rfl rfl 8 (by decide) lk95 rfl rfl dX1_lastVoted_4 ?_
  exact rz_i B hr hz dX1_lastVoted_7 (by rfl) (by rfl)
theorem hd_X1_time : hdZ yX1_time 0 := by decide +kernel
set_option maxRecDepth 100000 in
set_option maxHeartbeats 4000000 in
theorem c_X1_time (l : Launch) (D : va_G) (cI cN : ClassId) (b : Nat → Nat) (an : Nat → Nat → Nat) (s : Sz) (rk : Sz) (sv : Nat → Sz) (rv : Nat → Sz) (nx : Nat) (ct : Nat) (iv : Int32) (rj : Int32) : Fn l D cI cN yX1_time wsX1_time 0 (xW cI cN b an s rk sv rv nx ct iv rj) [.ref (b 0)] (some (.int (s 0))) (xW cI cN b an s rk sv rv nx ct iv rj) := by
  refine Fn.of (cc := cX1_time) (nL := 1) (ret := (some .int)) (lv := [(0, .ref (b 0))]) (by decide +kernel) rfl (Nat.le_of_ble_eq_true rfl) rfl ?_
  intro p e s_ m args below meth c A B hr hA H locs ls hz hl
  have hx := B.1.1
  have hb := B.1.2.1
  have hinX0 : ∀ w ∈ u_ws RX0 TX0 16, w ∈ wsX1_time := by decide +kernel
  have hinX1 : ∀ w ∈ u_ws RX1 TX1 6, w ∈ wsX1_time := by decide +kernel
  have lk12 : Cond.fieldLink yX1_time.cls 12 RX1 (TX1 0).2.1 (TX1 0).2.2.1 ∈ wsX1_time := by decide +kernel
  have lk53 : Cond.fieldLink yX1_time.cls 53 RX0 (TX0 0).2.1 (TX0 0).2.2.1 ∈ wsX1_time := by decide +kernel
  refine lv_aload_n hx hb dX1_time_0 rfl (lv_at hl 0 rfl) ?_
  refine gz (C := RX1) (T := TX1) (N := 6) (v := .ref (an 0 0)) B hz hinX1 0 rfl rfl 0 (by decide) lk12 rfl rfl dX1_time_1 ?_
  refine gz (C := RX0) (T := TX0) (N := 16) (v := .int (s 0)) B hz hinX0 2 rfl rfl 0 (by decide) lk53 rfl rfl dX1_time_4 ?_
  exact rz_i B hr hz dX1_time_7 (by rfl) (by rfl)
theorem hd_X1_transmitted : hdZ yX1_transmitted 0 := by decide +kernel
set_option maxRecDepth 100000 in
set_option maxHeartbeats 4000000 in
theorem c_X1_transmitted (l : Launch) (D : va_G) (cI cN : ClassId) (b : Nat → Nat) (an : Nat → Nat → Nat) (s : Sz) (rk : Sz) (sv : Nat → Sz) (rv : Nat → Sz) (nx : Nat) (ct : Nat) (iv : Int32) (rj : Int32) : Fn l D cI cN yX1_transmitted wsX1_transmitted 0 (xW cI cN b an s rk sv rv nx ct iv rj) [.ref (b 0)] (some (.int (s 3))) (xW cI cN b an s rk sv rv nx ct iv rj) := by
  refine Fn.of (cc := cX1_transmitted) (nL := 1) (ret := (some .int)) (lv := [(0, .ref (b 0))]) (by decide +kernel) rfl (Nat.le_of_ble_eq_true rfl) rfl ?_
  intro p e s_ m args below meth c A B hr hA H locs ls hz hl
  have hx := B.1.1
  have hb := B.1.2.1
  have hinX0 : ∀ w ∈ u_ws RX0 TX0 16, w ∈ wsX1_transmitted := by decide +kernel
  have hinX1 : ∀ w ∈ u_ws RX1 TX1 6, w ∈ wsX1_transmitted := by decide +kernel
  have lk12 : Cond.fieldLink yX1_transmitted.cls 12 RX1 (TX1 0).2.1 (TX1 0).2.2.1 ∈ wsX1_transmitted := by decide +kernel
  have lk116 : Cond.fieldLink yX1_transmitted.cls 116 RX0 (TX0 3).2.1 (TX0 3).2.2.1 ∈ wsX1_transmitted := by decide +kernel
  refine lv_aload_n hx hb dX1_transmitted_0 rfl (lv_at hl 0 rfl) ?_
  refine gz (C := RX1) (T := TX1) (N := 6) (v := .ref (an 0 0)) B hz hinX1 0 rfl rfl 0 (by decide) lk12 rfl rfl dX1_transmitted_1 ?_
  refine gz (C := RX0) (T := TX0) (N := 16) (v := .int (s 3)) B hz hinX0 2 rfl rfl 3 (by decide) lk116 rfl rfl dX1_transmitted_4 ?_
  exact rz_i B hr hz dX1_transmitted_7 (by rfl) (by rfl)
theorem hd_X1_decoded : hdZ yX1_decoded 0 := by decide +kernel
set_option maxRecDepth 100000 in
set_option maxHeartbeats 4000000 in
theorem c_X1_decoded (l : Launch) (D : va_G) (cI cN : ClassId) (b : Nat → Nat) (an : Nat → Nat → Nat) (s : Sz) (rk : Sz) (sv : Nat → Sz) (rv : Nat → Sz) (nx : Nat) (ct : Nat) (iv : Int32) (rj : Int32) : Fn l D cI cN yX1_decoded wsX1_decoded 0 (xW cI cN b an s rk sv rv nx ct iv rj) [.ref (b 0)] (some (.int (s 4))) (xW cI cN b an s rk sv rv nx ct iv rj) := by
  refine Fn.of (cc := cX1_decoded) (nL := 1) (ret := (some .int)) (lv := [(0, .ref (b 0))]) (by decide +kernel) rfl (Nat.le_of_ble_eq_true rfl) rfl ?_
  intro p e s_ m args below meth c A B hr hA H locs ls hz hl
  have hx := B.1.1
  have hb := B.1.2.1
  have hinX0 : ∀ w ∈ u_ws RX0 TX0 16, w ∈ wsX1_decoded := by decide +kernel
  have hinX1 : ∀ w ∈ u_ws RX1 TX1 6, w ∈ wsX1_decoded := by decide +kernel
  have lk12 : Cond.fieldLink yX1_decoded.cls 12 RX1 (TX1 0).2.1 (TX1 0).2.2.1 ∈ wsX1_decoded := by decide +kernel
  have lk119 : Cond.fieldLink yX1_decoded.cls 119 RX0 (TX0 4).2.1 (TX0 4).2.2.1 ∈ wsX1_decoded := by decide +kernel
  refine lv_aload_n hx hb dX1_decoded_0 rfl (lv_at hl 0 rfl) ?_
  refine gz (C := RX1) (T := TX1) (N := 6) (v := .ref (an 0 0)) B hz hinX1 0 rfl rfl 0 (by decide) lk12 rfl rfl dX1_decoded_1 ?_
  refine gz (C := RX0) (T := TX0) (N := 16) (v := .int (s 4)) B hz hinX0 2 rfl rfl 4 (by decide) lk119 rfl rfl dX1_decoded_4 ?_
  exact rz_i B hr hz dX1_decoded_7 (by rfl) (by rfl)
theorem hd_X1_scan : hdZ yX1_scan 1 := by decide +kernel
set_option maxRecDepth 100000 in
set_option maxHeartbeats 4000000 in
theorem c_X1_scan (l : Launch) (D : va_G) (cI cN : ClassId) (b : Nat → Nat) (an : Nat → Nat → Nat) (s : Sz) (rk : Sz) (sv : Nat → Sz) (rv : Nat → Sz) (nx : Nat) (ct : Nat) (iv : Int32) (rj : Int32) (x : Int32) : Fn l D cI cN yX1_scan wsX1_scan 3 (xW cI cN b an s rk sv rv nx ct iv rj) [.ref (b 0), .int x] (some (.int (if fSt x = true then s (9 + tn x) else -2))) (xW cI cN b an s rk sv rv nx ct (if fSt x = true then iv else iv + nI 1) rj) := by
  refine Fn.of (cc := cX1_scan) (nL := 2) (ret := (some .int)) (lv := [(0, .ref (b 0)), (1, .int x)]) (by decide +kernel) rfl (Nat.le_of_ble_eq_true rfl) rfl ?_
  intro p e s_ m args below meth c A B hr hA H locs ls hz hl
  have hx := B.1.1
  have hb := B.1.2.1
  have hinX0 : ∀ w ∈ u_ws RX0 TX0 16, w ∈ wsX1_scan := by decide +kernel
  have hinX1 : ∀ w ∈ u_ws RX1 TX1 6, w ∈ wsX1_scan := by decide +kernel
  have lk12 : Cond.fieldLink yX1_scan.cls 12 RX1 (TX1 0).2.1 (TX1 0).2.2.1 ∈ wsX1_scan := by decide +kernel
  have lk31 : Cond.fieldLink yX1_scan.cls 31 RX0 (TX0 9).2.1 (TX0 9).2.2.1 ∈ wsX1_scan := by decide +kernel
  refine lv_iload_n hx hb dX1_scan_0 rfl (lv_at hl 1 rfl) ?_
  refine cS (k := 3) (As := [.int x]) (rest := []) (v := .int (b2i (fSt x))) B hz hA (c_X1_isStation l D cI cN x ) gX1_scan_X1_isStation rfl hd_X1_isStation (by decide) rfl hl.1 rfl (Nat.le_of_ble_eq_true rfl) dX1_scan_1 (fun H locs hz => ?_)
  refine lb_if_ne (tgt := 12) hx hb dX1_scan_4 (by decide) (fun c4 => ?_) (fun c4 => ?_)
  · obtain ⟨f, hf, rfl⟩ := fSt_nat c4
    refine lv_aload_n hx hb dX1_scan_12 rfl (lv_at hl 0 rfl) ?_
    refine gz (C := RX1) (T := TX1) (N := 6) (v := .ref (an 0 0)) B hz hinX1 0 rfl rfl 0 (by decide) lk12 rfl rfl dX1_scan_13 ?_
    refine gz (C := RX0) (T := TX0) (N := 16) (v := .ref (an 0 1)) B hz hinX0 2 rfl rfl 9 (by decide) lk31 rfl rfl dX1_scan_16 ?_
    refine lv_iload_n hx hb dX1_scan_19 rfl (lv_at hl 1 rfl) ?_
    refine ildz (n := 5) (j := f) (v := (s (9 + f))) B hz 3 rfl (by omega) (by decide) (seg_at (by omega)) dX1_scan_20 ?_
    exact rz_i B hr hz dX1_scan_21 (by first | (simp [c4]; done) | (simp [c4, tn5 hf]; done)) (by first | (simp [c4]; done) | (simp [c4, tn5 hf]; done))
  · refine lv_aload_n hx hb dX1_scan_7 rfl (lv_at hl 0 rfl) ?_
    refine cV (C := RX1) (T := TX1) (N := 6) (ci := 1) (q0 := 0) (k := 3) (As := []) (rest := []) (v := .int (-2)) (ws1 := (xW cI cN b an s rk sv rv nx ct (iv + nI 1) rj)) B hz hA (c_X1_countInvalid l D cI cN b an s rk sv rv nx ct iv rj  ) gX1_scan_X1_countInvalid rfl rfl hd_X1_countInvalid (by decide) rfl rfl rfl hl.1 rfl (Nat.le_of_ble_eq_true rfl) dX1_scan_8 (fun H locs hz => ?_)
    exact rz_i B hr hz dX1_scan_11 (by first | (simp [c4]; done) | (simp [c4, tn5 hf]; done)) (by first | (simp [c4]; done) | (simp [c4, tn5 hf]; done))
theorem hd_X1_link : hdZ yX1_link 1 := by decide +kernel
set_option maxRecDepth 100000 in
set_option maxHeartbeats 4000000 in
theorem c_X1_link (l : Launch) (D : va_G) (cI cN : ClassId) (b : Nat → Nat) (an : Nat → Nat → Nat) (s : Sz) (rk : Sz) (sv : Nat → Sz) (rv : Nat → Sz) (nx : Nat) (ct : Nat) (iv : Int32) (rj : Int32) (x : Int32) : Fn l D cI cN yX1_link wsX1_link 3 (xW cI cN b an s rk sv rv nx ct iv rj) [.ref (b 0), .int x] (some (.int (if fSt x = true then s (14 + tn x) else -2))) (xW cI cN b an s rk sv rv nx ct (if fSt x = true then iv else iv + nI 1) rj) := by
  refine Fn.of (cc := cX1_link) (nL := 2) (ret := (some .int)) (lv := [(0, .ref (b 0)), (1, .int x)]) (by decide +kernel) rfl (Nat.le_of_ble_eq_true rfl) rfl ?_
  intro p e s_ m args below meth c A B hr hA H locs ls hz hl
  have hx := B.1.1
  have hb := B.1.2.1
  have hinX0 : ∀ w ∈ u_ws RX0 TX0 16, w ∈ wsX1_link := by decide +kernel
  have hinX1 : ∀ w ∈ u_ws RX1 TX1 6, w ∈ wsX1_link := by decide +kernel
  have lk12 : Cond.fieldLink yX1_link.cls 12 RX1 (TX1 0).2.1 (TX1 0).2.2.1 ∈ wsX1_link := by decide +kernel
  have lk110 : Cond.fieldLink yX1_link.cls 110 RX0 (TX0 10).2.1 (TX0 10).2.2.1 ∈ wsX1_link := by decide +kernel
  refine lv_iload_n hx hb dX1_link_0 rfl (lv_at hl 1 rfl) ?_
  refine cS (k := 3) (As := [.int x]) (rest := []) (v := .int (b2i (fSt x))) B hz hA (c_X1_isStation l D cI cN x ) gX1_link_X1_isStation rfl hd_X1_isStation (by decide) rfl hl.1 rfl (Nat.le_of_ble_eq_true rfl) dX1_link_1 (fun H locs hz => ?_)
  refine lb_if_ne (tgt := 12) hx hb dX1_link_4 (by decide) (fun c4 => ?_) (fun c4 => ?_)
  · obtain ⟨f, hf, rfl⟩ := fSt_nat c4
    refine lv_aload_n hx hb dX1_link_12 rfl (lv_at hl 0 rfl) ?_
    refine gz (C := RX1) (T := TX1) (N := 6) (v := .ref (an 0 0)) B hz hinX1 0 rfl rfl 0 (by decide) lk12 rfl rfl dX1_link_13 ?_
    refine gz (C := RX0) (T := TX0) (N := 16) (v := .ref (an 0 2)) B hz hinX0 2 rfl rfl 10 (by decide) lk110 rfl rfl dX1_link_16 ?_
    refine lv_iload_n hx hb dX1_link_19 rfl (lv_at hl 1 rfl) ?_
    refine ildz (n := 5) (j := f) (v := (s (14 + f))) B hz 4 rfl (by omega) (by decide) (seg_at (by omega)) dX1_link_20 ?_
    exact rz_i B hr hz dX1_link_21 (by first | (simp [c4]; done) | (simp [c4, tn5 hf]; done)) (by first | (simp [c4]; done) | (simp [c4, tn5 hf]; done))
  · refine lv_aload_n hx hb dX1_link_7 rfl (lv_at hl 0 rfl) ?_
    refine cV (C := RX1) (T := TX1) (N := 6) (ci := 1) (q0 := 0) (k := 3) (As := []) (rest := []) (v := .int (-2)) (ws1 := (xW cI cN b an s rk sv rv nx ct (iv + nI 1) rj)) B hz hA (c_X1_countInvalid l D cI cN b an s rk sv rv nx ct iv rj  ) gX1_link_X1_countInvalid rfl rfl hd_X1_countInvalid (by decide) rfl rfl rfl hl.1 rfl (Nat.le_of_ble_eq_true rfl) dX1_link_8 (fun H locs hz => ?_)
    exact rz_i B hr hz dX1_link_11 (by first | (simp [c4]; done) | (simp [c4, tn5 hf]; done)) (by first | (simp [c4]; done) | (simp [c4, tn5 hf]; done))
theorem hd_X1_linkChannel : hdZ yX1_linkChannel 1 := by decide +kernel
set_option maxRecDepth 100000 in
set_option maxHeartbeats 4000000 in
theorem c_X1_linkChannel (l : Launch) (D : va_G) (cI cN : ClassId) (b : Nat → Nat) (an : Nat → Nat → Nat) (s : Sz) (rk : Sz) (sv : Nat → Sz) (rv : Nat → Sz) (nx : Nat) (ct : Nat) (iv : Int32) (rj : Int32) (x : Int32) : Fn l D cI cN yX1_linkChannel wsX1_linkChannel 3 (xW cI cN b an s rk sv rv nx ct iv rj) [.ref (b 0), .int x] (some (.int (if fSt x = true then s (19 + tn x) else -2))) (xW cI cN b an s rk sv rv nx ct (if fSt x = true then iv else iv + nI 1) rj) := by
  refine Fn.of (cc := cX1_linkChannel) (nL := 2) (ret := (some .int)) (lv := [(0, .ref (b 0)), (1, .int x)]) (by decide +kernel) rfl (Nat.le_of_ble_eq_true rfl) rfl ?_
  intro p e s_ m args below meth c A B hr hA H locs ls hz hl
  have hx := B.1.1
  have hb := B.1.2.1
  have hinX0 : ∀ w ∈ u_ws RX0 TX0 16, w ∈ wsX1_linkChannel := by decide +kernel
  have hinX1 : ∀ w ∈ u_ws RX1 TX1 6, w ∈ wsX1_linkChannel := by decide +kernel
  have lk12 : Cond.fieldLink yX1_linkChannel.cls 12 RX1 (TX1 0).2.1 (TX1 0).2.2.1 ∈ wsX1_linkChannel := by decide +kernel
  have lk113 : Cond.fieldLink yX1_linkChannel.cls 113 RX0 (TX0 11).2.1 (TX0 11).2.2.1 ∈ wsX1_linkChannel := by decide +kernel
  refine lv_iload_n hx hb dX1_linkChannel_0 rfl (lv_at hl 1 rfl) ?_
  refine cS (k := 3) (As := [.int x]) (rest := []) (v := .int (b2i (fSt x))) B hz hA (c_X1_isStation l D cI cN x ) gX1_linkChannel_X1_isStation rfl hd_X1_isStation (by decide) rfl hl.1 rfl (Nat.le_of_ble_eq_true rfl) dX1_linkChannel_1 (fun H locs hz => ?_)
  refine lb_if_ne (tgt := 12) hx hb dX1_linkChannel_4 (by decide) (fun c4 => ?_) (fun c4 => ?_)
  · obtain ⟨f, hf, rfl⟩ := fSt_nat c4
    refine lv_aload_n hx hb dX1_linkChannel_12 rfl (lv_at hl 0 rfl) ?_
    refine gz (C := RX1) (T := TX1) (N := 6) (v := .ref (an 0 0)) B hz hinX1 0 rfl rfl 0 (by decide) lk12 rfl rfl dX1_linkChannel_13 ?_
    refine gz (C := RX0) (T := TX0) (N := 16) (v := .ref (an 0 3)) B hz hinX0 2 rfl rfl 11 (by decide) lk113 rfl rfl dX1_linkChannel_16 ?_
    refine lv_iload_n hx hb dX1_linkChannel_19 rfl (lv_at hl 1 rfl) ?_
    refine ildz (n := 5) (j := f) (v := (s (19 + f))) B hz 5 rfl (by omega) (by decide) (seg_at (by omega)) dX1_linkChannel_20 ?_
    exact rz_i B hr hz dX1_linkChannel_21 (by first | (simp [c4]; done) | (simp [c4, tn5 hf]; done)) (by first | (simp [c4]; done) | (simp [c4, tn5 hf]; done))
  · refine lv_aload_n hx hb dX1_linkChannel_7 rfl (lv_at hl 0 rfl) ?_
    refine cV (C := RX1) (T := TX1) (N := 6) (ci := 1) (q0 := 0) (k := 3) (As := []) (rest := []) (v := .int (-2)) (ws1 := (xW cI cN b an s rk sv rv nx ct (iv + nI 1) rj)) B hz hA (c_X1_countInvalid l D cI cN b an s rk sv rv nx ct iv rj  ) gX1_linkChannel_X1_countInvalid rfl rfl hd_X1_countInvalid (by decide) rfl rfl rfl hl.1 rfl (Nat.le_of_ble_eq_true rfl) dX1_linkChannel_8 (fun H locs hz => ?_)
    exact rz_i B hr hz dX1_linkChannel_11 (by first | (simp [c4]; done) | (simp [c4, tn5 hf]; done)) (by first | (simp [c4]; done) | (simp [c4, tn5 hf]; done))
theorem hd_X1_listening : hdZ yX1_listening 1 := by decide +kernel
set_option maxRecDepth 100000 in
set_option maxHeartbeats 4000000 in
theorem c_X1_listening (l : Launch) (D : va_G) (cI cN : ClassId) (b : Nat → Nat) (an : Nat → Nat → Nat) (s : Sz) (rk : Sz) (sv : Nat → Sz) (rv : Nat → Sz) (nx : Nat) (ct : Nat) (iv : Int32) (rj : Int32) (x : Int32) (hI : IvS s) (hT : IvT s) : Fn l D cI cN yX1_listening wsX1_listening 3 (xW cI cN b an s rk sv rv nx ct iv rj) [.ref (b 0), .int x] (some (.int (if fSt x = true then (if fLk s (tn x) = true then -1 else nI (fLs (scn s (tn x)) (tmN s))) else -2))) (xW cI cN b an s rk sv rv nx ct (if fSt x = true then iv else iv + nI 1) rj) := by
  refine Fn.of (cc := cX1_listening) (nL := 2) (ret := (some .int)) (lv := [(0, .ref (b 0)), (1, .int x)]) (by decide +kernel) rfl (Nat.le_of_ble_eq_true rfl) rfl ?_
  intro p e s_ m args below meth c A B hr hA H locs ls hz hl
  have hx := B.1.1
  have hb := B.1.2.1
  have hinX1 : ∀ w ∈ u_ws RX1 TX1 6, w ∈ wsX1_listening := by decide +kernel
  have lk12 : Cond.fieldLink yX1_listening.cls 12 RX1 (TX1 0).2.1 (TX1 0).2.2.1 ∈ wsX1_listening := by decide +kernel
  refine lv_iload_n hx hb dX1_listening_0 rfl (lv_at hl 1 rfl) ?_
  refine cS (k := 3) (As := [.int x]) (rest := []) (v := .int (b2i (fSt x))) B hz hA (c_X1_isStation l D cI cN x ) gX1_listening_X1_isStation rfl hd_X1_isStation (by decide) rfl hl.1 rfl (Nat.le_of_ble_eq_true rfl) dX1_listening_1 (fun H locs hz => ?_)
  refine lb_if_ne (tgt := 12) hx hb dX1_listening_4 (by decide) (fun c4 => ?_) (fun c4 => ?_)
  · obtain ⟨f, hf, rfl⟩ := fSt_nat c4
    refine lv_aload_n hx hb dX1_listening_12 rfl (lv_at hl 0 rfl) ?_
    refine gz (C := RX1) (T := TX1) (N := 6) (v := .ref (an 0 0)) B hz hinX1 0 rfl rfl 0 (by decide) lk12 rfl rfl dX1_listening_13 ?_
    refine lv_iload_n hx hb dX1_listening_16 rfl (lv_at hl 1 rfl) ?_
    refine cX (k := 3) (As := [.int (nI f)]) (rest := []) (v := .int (if fLk s f = true then -1 else nI (fLs (scn s f) (tmN s)))) (s' := s) (rk' := rk) B hz hA (c_X0_scannedChannel l D cI cN (an 0) s rk f (hf) (hI) (hT)) gX1_listening_X0_scannedChannel rfl rfl hd_X0_scannedChannel (by decide) rfl hl.1 rfl (Nat.le_of_ble_eq_true rfl) dX1_listening_17 (fun H locs hz => ?_)
    exact rz_i B hr hz dX1_listening_20 (by first | (simp [c4]; done) | (simp [c4, tn5 hf]; done)) (by first | (simp [c4]; done) | (simp [c4, tn5 hf]; done))
  · refine lv_aload_n hx hb dX1_listening_7 rfl (lv_at hl 0 rfl) ?_
    refine cV (C := RX1) (T := TX1) (N := 6) (ci := 1) (q0 := 0) (k := 3) (As := []) (rest := []) (v := .int (-2)) (ws1 := (xW cI cN b an s rk sv rv nx ct (iv + nI 1) rj)) B hz hA (c_X1_countInvalid l D cI cN b an s rk sv rv nx ct iv rj  ) gX1_listening_X1_countInvalid rfl rfl hd_X1_countInvalid (by decide) rfl rfl rfl hl.1 rfl (Nat.le_of_ble_eq_true rfl) dX1_listening_8 (fun H locs hz => ?_)
    exact rz_i B hr hz dX1_listening_11 (by first | (simp [c4]; done) | (simp [c4, tn5 hf]; done)) (by first | (simp [c4]; done) | (simp [c4, tn5 hf]; done))
theorem hd_X1_quality : hdZ yX1_quality 3 := by decide +kernel
set_option maxRecDepth 100000 in
set_option maxHeartbeats 4000000 in
theorem c_X1_quality (l : Launch) (D : va_G) (cI cN : ClassId) (b : Nat → Nat) (an : Nat → Nat → Nat) (s : Sz) (rk : Sz) (sv : Nat → Sz) (rv : Nat → Sz) (nx : Nat) (ct : Nat) (iv : Int32) (rj : Int32) (x : Int32) (y : Int32) (z : Int32) : Fn l D cI cN yX1_quality wsX1_quality 4 (xW cI cN b an s rk sv rv nx ct iv rj) [.ref (b 0), .int x, .int y, .int z] (some (.int (if fTh x y z = true then s (24 + fAt (tn x) (tn y) (tn z)) else -2))) (xW cI cN b an s rk sv rv nx ct (if fTh x y z = true then iv else iv + nI 1) rj) := by
  refine Fn.of (cc := cX1_quality) (nL := 4) (ret := (some .int)) (lv := [(0, .ref (b 0)), (1, .int x), (2, .int y), (3, .int z)]) (by decide +kernel) rfl (Nat.le_of_ble_eq_true rfl) rfl ?_
  intro p e s_ m args below meth c A B hr hA H locs ls hz hl
  have hx := B.1.1
  have hb := B.1.2.1
  have hinX0 : ∀ w ∈ u_ws RX0 TX0 16, w ∈ wsX1_quality := by decide +kernel
  have hinX1 : ∀ w ∈ u_ws RX1 TX1 6, w ∈ wsX1_quality := by decide +kernel
  have lk12 : Cond.fieldLink yX1_quality.cls 12 RX1 (TX1 0).2.1 (TX1 0).2.2.1 ∈ wsX1_quality := by decide +kernel
  have lk39 : Cond.fieldLink yX1_quality.cls 39 RX0 (TX0 12).2.1 (TX0 12).2.2.1 ∈ wsX1_quality := by decide +kernel
  refine lv_iload_n hx hb dX1_quality_0 rfl (lv_at hl 1 rfl) ?_
  refine lv_iload_n hx hb dX1_quality_1 rfl (lv_at hl 2 rfl) ?_
  refine lv_iload_n hx hb dX1_quality_2 rfl (lv_at hl 3 rfl) ?_
  refine cS (k := 4) (As := [.int x, .int y, .int z]) (rest := []) (v := .int (b2i (fTh x y z))) B hz hA (c_X1_isCell l D cI cN x y z ) gX1_quality_X1_isCell rfl hd_X1_isCell (by decide) rfl hl.1 rfl (Nat.le_of_ble_eq_true rfl) dX1_quality_3 (fun H locs hz => ?_)
  refine lb_if_ne (tgt := 14) hx hb dX1_quality_6 (by decide) (fun c6 => ?_) (fun c6 => ?_)
  · obtain ⟨f, t, ch, hf, ht, hc, hft, rfl, rfl, rfl⟩ := fTh_nat c6
    refine lv_aload_n hx hb dX1_quality_14 rfl (lv_at hl 0 rfl) ?_
    refine gz (C := RX1) (T := TX1) (N := 6) (v := .ref (an 0 0)) B hz hinX1 0 rfl rfl 0 (by decide) lk12 rfl rfl dX1_quality_15 ?_
    refine gz (C := RX0) (T := TX0) (N := 16) (v := .ref (an 0 4)) B hz hinX0 2 rfl rfl 12 (by decide) lk39 rfl rfl dX1_quality_18 ?_
    refine lv_iload_n hx hb dX1_quality_21 rfl (lv_at hl 1 rfl) ?_
    refine lv_iload_n hx hb dX1_quality_22 rfl (lv_at hl 2 rfl) ?_
    refine lv_iload_n hx hb dX1_quality_23 rfl (lv_at hl 3 rfl) ?_
    refine cS (k := 4) (As := [.int (nI f), .int (nI t), .int (nI ch)]) (rest := [.ref (an 0 4)]) (v := .int (nI (fAt f t ch))) B hz hA (c_X1_cell l D cI cN f t ch ) gX1_quality_X1_cell rfl hd_X1_cell (by decide) rfl hl.1 rfl (Nat.le_of_ble_eq_true rfl) dX1_quality_24 (fun H locs hz => ?_)
    refine ildz (n := 200) (j := (fAt f t ch)) (v := (s (24 + (fAt f t ch)))) B hz 6 rfl (by have hat1 := fAt_lt hf ht hc; have hat2 := fAt_lt ht hf hc; omega) (by decide) (seg_at (by have hat1 := fAt_lt hf ht hc; have hat2 := fAt_lt ht hf hc; omega)) dX1_quality_27 ?_
    exact rz_i B hr hz dX1_quality_28 (by first | (simp [c6]; done) | (simp [c6, tn5 hf, tn5 ht, tn8 hc]; done)) (by first | (simp [c6]; done) | (simp [c6, tn5 hf, tn5 ht, tn8 hc]; done))
  · refine lv_aload_n hx hb dX1_quality_9 rfl (lv_at hl 0 rfl) ?_
    refine cV (C := RX1) (T := TX1) (N := 6) (ci := 1) (q0 := 0) (k := 4) (As := []) (rest := []) (v := .int (-2)) (ws1 := (xW cI cN b an s rk sv rv nx ct (iv + nI 1) rj)) B hz hA (c_X1_countInvalid l D cI cN b an s rk sv rv nx ct iv rj  ) gX1_quality_X1_countInvalid rfl rfl hd_X1_countInvalid (by decide) rfl rfl rfl hl.1 rfl (Nat.le_of_ble_eq_true rfl) dX1_quality_10 (fun H locs hz => ?_)
    exact rz_i B hr hz dX1_quality_13 (by first | (simp [c6]; done) | (simp [c6, tn5 hf, tn5 ht, tn8 hc]; done)) (by first | (simp [c6]; done) | (simp [c6, tn5 hf, tn5 ht, tn8 hc]; done))
theorem hd_X1_score : hdZ yX1_score 3 := by decide +kernel
set_option maxRecDepth 100000 in
set_option maxHeartbeats 4000000 in
theorem c_X1_score (l : Launch) (D : va_G) (cI cN : ClassId) (b : Nat → Nat) (an : Nat → Nat → Nat) (s : Sz) (rk : Sz) (sv : Nat → Sz) (rv : Nat → Sz) (nx : Nat) (ct : Nat) (iv : Int32) (rj : Int32) (x : Int32) (y : Int32) (z : Int32) : Fn l D cI cN yX1_score wsX1_score 4 (xW cI cN b an s rk sv rv nx ct iv rj) [.ref (b 0), .int x, .int y, .int z] (some (.int (if fTh x y z = true then s (224 + fAt (tn x) (tn y) (tn z)) else -2))) (xW cI cN b an s rk sv rv nx ct (if fTh x y z = true then iv else iv + nI 1) rj) := by
  refine Fn.of (cc := cX1_score) (nL := 4) (ret := (some .int)) (lv := [(0, .ref (b 0)), (1, .int x), (2, .int y), (3, .int z)]) (by decide +kernel) rfl (Nat.le_of_ble_eq_true rfl) rfl ?_
  intro p e s_ m args below meth c A B hr hA H locs ls hz hl
  have hx := B.1.1
  have hb := B.1.2.1
  have hinX0 : ∀ w ∈ u_ws RX0 TX0 16, w ∈ wsX1_score := by decide +kernel
  have hinX1 : ∀ w ∈ u_ws RX1 TX1 6, w ∈ wsX1_score := by decide +kernel
  have lk12 : Cond.fieldLink yX1_score.cls 12 RX1 (TX1 0).2.1 (TX1 0).2.2.1 ∈ wsX1_score := by decide +kernel
  have lk101 : Cond.fieldLink yX1_score.cls 101 RX0 (TX0 13).2.1 (TX0 13).2.2.1 ∈ wsX1_score := by decide +kernel
  refine lv_iload_n hx hb dX1_score_0 rfl (lv_at hl 1 rfl) ?_
  refine lv_iload_n hx hb dX1_score_1 rfl (lv_at hl 2 rfl) ?_
  refine lv_iload_n hx hb dX1_score_2 rfl (lv_at hl 3 rfl) ?_
  refine cS (k := 4) (As := [.int x, .int y, .int z]) (rest := []) (v := .int (b2i (fTh x y z))) B hz hA (c_X1_isCell l D cI cN x y z ) gX1_score_X1_isCell rfl hd_X1_isCell (by decide) rfl hl.1 rfl (Nat.le_of_ble_eq_true rfl) dX1_score_3 (fun H locs hz => ?_)
  refine lb_if_ne (tgt := 14) hx hb dX1_score_6 (by decide) (fun c6 => ?_) (fun c6 => ?_)
  · obtain ⟨f, t, ch, hf, ht, hc, hft, rfl, rfl, rfl⟩ := fTh_nat c6
    refine lv_aload_n hx hb dX1_score_14 rfl (lv_at hl 0 rfl) ?_
    refine gz (C := RX1) (T := TX1) (N := 6) (v := .ref (an 0 0)) B hz hinX1 0 rfl rfl 0 (by decide) lk12 rfl rfl dX1_score_15 ?_
    refine gz (C := RX0) (T := TX0) (N := 16) (v := .ref (an 0 5)) B hz hinX0 2 rfl rfl 13 (by decide) lk101 rfl rfl dX1_score_18 ?_
    refine lv_iload_n hx hb dX1_score_21 rfl (lv_at hl 1 rfl) ?_
    refine lv_iload_n hx hb dX1_score_22 rfl (lv_at hl 2 rfl) ?_
    refine lv_iload_n hx hb dX1_score_23 rfl (lv_at hl 3 rfl) ?_
    refine cS (k := 4) (As := [.int (nI f), .int (nI t), .int (nI ch)]) (rest := [.ref (an 0 5)]) (v := .int (nI (fAt f t ch))) B hz hA (c_X1_cell l D cI cN f t ch ) gX1_score_X1_cell rfl hd_X1_cell (by decide) rfl hl.1 rfl (Nat.le_of_ble_eq_true rfl) dX1_score_24 (fun H locs hz => ?_)
    refine ildz (n := 200) (j := (fAt f t ch)) (v := (s (224 + (fAt f t ch)))) B hz 7 rfl (by have hat1 := fAt_lt hf ht hc; have hat2 := fAt_lt ht hf hc; omega) (by decide) (seg_at (by have hat1 := fAt_lt hf ht hc; have hat2 := fAt_lt ht hf hc; omega)) dX1_score_27 ?_
    exact rz_i B hr hz dX1_score_28 (by first | (simp [c6]; done) | (simp [c6, tn5 hf, tn5 ht, tn8 hc]; done)) (by first | (simp [c6]; done) | (simp [c6, tn5 hf, tn5 ht, tn8 hc]; done))
  · refine lv_aload_n hx hb dX1_score_9 rfl (lv_at hl 0 rfl) ?_
    refine cV (C := RX1) (T := TX1) (N := 6) (ci := 1) (q0 := 0) (k := 4) (As := []) (rest := []) (v := .int (-2)) (ws1 := (xW cI cN b an s rk sv rv nx ct (iv + nI 1) rj)) B hz hA (c_X1_countInvalid l D cI cN b an s rk sv rv nx ct iv rj  ) gX1_score_X1_countInvalid rfl rfl hd_X1_countInvalid (by decide) rfl rfl rfl hl.1 rfl (Nat.le_of_ble_eq_true rfl) dX1_score_10 (fun H locs hz => ?_)
    exact rz_i B hr hz dX1_score_13 (by first | (simp [c6]; done) | (simp [c6, tn5 hf, tn5 ht, tn8 hc]; done)) (by first | (simp [c6]; done) | (simp [c6, tn5 hf, tn5 ht, tn8 hc]; done))
theorem hd_X1_effective : hdZ yX1_effective 3 := by decide +kernel
set_option maxRecDepth 100000 in
set_option maxHeartbeats 4000000 in
theorem c_X1_effective (l : Launch) (D : va_G) (cI cN : ClassId) (b : Nat → Nat) (an : Nat → Nat → Nat) (s : Sz) (rk : Sz) (sv : Nat → Sz) (rv : Nat → Sz) (nx : Nat) (ct : Nat) (iv : Int32) (rj : Int32) (x : Int32) (y : Int32) (z : Int32) (hv : IvA s) : Fn l D cI cN yX1_effective wsX1_effective 4 (xW cI cN b an s rk sv rv nx ct iv rj) [.ref (b 0), .int x, .int y, .int z] (some (.int (if fTh x y z = true then fEf (tn x) (tn y) (tn z) s else -2))) (xW cI cN b an s rk sv rv nx ct (if fTh x y z = true then iv else iv + nI 1) rj) := by
  refine Fn.of (cc := cX1_effective) (nL := 4) (ret := (some .int)) (lv := [(0, .ref (b 0)), (1, .int x), (2, .int y), (3, .int z)]) (by decide +kernel) rfl (Nat.le_of_ble_eq_true rfl) rfl ?_
  intro p e s_ m args below meth c A B hr hA H locs ls hz hl
  have hx := B.1.1
  have hb := B.1.2.1
  have hinX1 : ∀ w ∈ u_ws RX1 TX1 6, w ∈ wsX1_effective := by decide +kernel
  have lk12 : Cond.fieldLink yX1_effective.cls 12 RX1 (TX1 0).2.1 (TX1 0).2.2.1 ∈ wsX1_effective := by decide +kernel
  refine lv_iload_n hx hb dX1_effective_0 rfl (lv_at hl 1 rfl) ?_
  refine lv_iload_n hx hb dX1_effective_1 rfl (lv_at hl 2 rfl) ?_
  refine lv_iload_n hx hb dX1_effective_2 rfl (lv_at hl 3 rfl) ?_
  refine cS (k := 4) (As := [.int x, .int y, .int z]) (rest := []) (v := .int (b2i (fTh x y z))) B hz hA (c_X1_isCell l D cI cN x y z ) gX1_effective_X1_isCell rfl hd_X1_isCell (by decide) rfl hl.1 rfl (Nat.le_of_ble_eq_true rfl) dX1_effective_3 (fun H locs hz => ?_)
  refine lb_if_ne (tgt := 14) hx hb dX1_effective_6 (by decide) (fun c6 => ?_) (fun c6 => ?_)
  · obtain ⟨f, t, ch, hf, ht, hc, hft, rfl, rfl, rfl⟩ := fTh_nat c6
    refine lv_aload_n hx hb dX1_effective_14 rfl (lv_at hl 0 rfl) ?_
    refine gz (C := RX1) (T := TX1) (N := 6) (v := .ref (an 0 0)) B hz hinX1 0 rfl rfl 0 (by decide) lk12 rfl rfl dX1_effective_15 ?_
    refine lv_iload_n hx hb dX1_effective_18 rfl (lv_at hl 1 rfl) ?_
    refine lv_iload_n hx hb dX1_effective_19 rfl (lv_at hl 2 rfl) ?_
    refine lv_iload_n hx hb dX1_effective_20 rfl (lv_at hl 3 rfl) ?_
    refine cX (k := 4) (As := [.int (nI f), .int (nI t), .int (nI ch)]) (rest := []) (v := .int (fEf f t ch s)) (s' := s) (rk' := rk) B hz hA (c_X0_agedScore l D cI cN (an 0) s rk f t ch (hf) (ht) (hc) (hv)) gX1_effective_X0_agedScore rfl rfl hd_X0_agedScore (by decide) rfl hl.1 rfl (Nat.le_of_ble_eq_true rfl) dX1_effective_21 (fun H locs hz => ?_)
    exact rz_i B hr hz dX1_effective_24 (by first | (simp [c6]; done) | (simp [c6, tn5 hf, tn5 ht, tn8 hc]; done)) (by first | (simp [c6]; done) | (simp [c6, tn5 hf, tn5 ht, tn8 hc]; done))
  · refine lv_aload_n hx hb dX1_effective_9 rfl (lv_at hl 0 rfl) ?_
    refine cV (C := RX1) (T := TX1) (N := 6) (ci := 1) (q0 := 0) (k := 4) (As := []) (rest := []) (v := .int (-2)) (ws1 := (xW cI cN b an s rk sv rv nx ct (iv + nI 1) rj)) B hz hA (c_X1_countInvalid l D cI cN b an s rk sv rv nx ct iv rj  ) gX1_effective_X1_countInvalid rfl rfl hd_X1_countInvalid (by decide) rfl rfl rfl hl.1 rfl (Nat.le_of_ble_eq_true rfl) dX1_effective_10 (fun H locs hz => ?_)
    exact rz_i B hr hz dX1_effective_13 (by first | (simp [c6]; done) | (simp [c6, tn5 hf, tn5 ht, tn8 hc]; done)) (by first | (simp [c6]; done) | (simp [c6, tn5 hf, tn5 ht, tn8 hc]; done))
theorem hd_X1_bestChannel : hdZ yX1_bestChannel 2 := by decide +kernel
set_option maxRecDepth 100000 in
set_option maxHeartbeats 4000000 in
theorem c_X1_bestChannel (l : Launch) (D : va_G) (cI cN : ClassId) (b : Nat → Nat) (an : Nat → Nat → Nat) (s : Sz) (rk : Sz) (sv : Nat → Sz) (rv : Nat → Sz) (nx : Nat) (ct : Nat) (iv : Int32) (rj : Int32) (x : Int32) (y : Int32) (hv : IvA s) : Fn l D cI cN yX1_bestChannel wsX1_bestChannel 5 (xW cI cN b an s rk sv rv nx ct iv rj) [.ref (b 0), .int x, .int y] (some (.int (if fPr x y = true then oI (fFr (fRk (nI 1 <<< (nI (tn y) &&& 31)) (tn x) s rk 8) (s (9 + tn x)) 8) else -2))) (xW cI cN b an s (if fPr x y = true then fRk (nI 1 <<< (nI (tn y) &&& 31)) (tn x) s rk 8 else rk) sv rv nx ct (if fPr x y = true then iv else iv + nI 1) rj) := by
  refine Fn.of (cc := cX1_bestChannel) (nL := 3) (ret := (some .int)) (lv := [(0, .ref (b 0)), (1, .int x), (2, .int y)]) (by decide +kernel) rfl (Nat.le_of_ble_eq_true rfl) rfl ?_
  intro p e s_ m args below meth c A B hr hA H locs ls hz hl
  have hx := B.1.1
  have hb := B.1.2.1
  have hinX1 : ∀ w ∈ u_ws RX1 TX1 6, w ∈ wsX1_bestChannel := by decide +kernel
  have lk12 : Cond.fieldLink yX1_bestChannel.cls 12 RX1 (TX1 0).2.1 (TX1 0).2.2.1 ∈ wsX1_bestChannel := by decide +kernel
  refine lv_iload_n hx hb dX1_bestChannel_0 rfl (lv_at hl 1 rfl) ?_
  refine lv_iload_n hx hb dX1_bestChannel_1 rfl (lv_at hl 2 rfl) ?_
  refine cS (k := 5) (As := [.int x, .int y]) (rest := []) (v := .int (b2i (fPr x y))) B hz hA (c_X1_isPair l D cI cN x y ) gX1_bestChannel_X1_isPair rfl hd_X1_isPair (by decide) rfl hl.1 rfl (Nat.le_of_ble_eq_true rfl) dX1_bestChannel_2 (fun H locs hz => ?_)
  refine lb_if_ne (tgt := 13) hx hb dX1_bestChannel_5 (by decide) (fun c5 => ?_) (fun c5 => ?_)
  · obtain ⟨f, t, hf, ht, hft, rfl, rfl⟩ := fPr_nat c5
    refine lv_aload_n hx hb dX1_bestChannel_13 rfl (lv_at hl 0 rfl) ?_
    refine gz (C := RX1) (T := TX1) (N := 6) (v := .ref (an 0 0)) B hz hinX1 0 rfl rfl 0 (by decide) lk12 rfl rfl dX1_bestChannel_14 ?_
    refine lv_iload_n hx hb dX1_bestChannel_17 rfl (lv_at hl 1 rfl) ?_
    refine lv_iconst (v := (nI 1)) hx hb dX1_bestChannel_18 (by decide) ?_
    refine lv_iload_n hx hb dX1_bestChannel_19 rfl (lv_at hl 2 rfl) ?_
    refine lv_ishl hx hb dX1_bestChannel_20 ?_
    refine cX (k := 5) (As := [.int (nI f), .int ((nI 1) <<< ((nI t) &&& 31))]) (rest := []) (v := .int (oI (fFr (fRk ((nI 1) <<< ((nI t) &&& 31)) f s rk 8) (s (9 + f)) 8))) (s' := s) (rk' := (fRk ((nI 1) <<< ((nI t) &&& 31)) f s rk 8)) B hz hA (c_X0_preferredChannel l D cI cN (an 0) s rk f ((nI 1) <<< ((nI t) &&& 31)) (hf) (hv)) gX1_bestChannel_X0_preferredChannel rfl rfl hd_X0_preferredChannel (by decide) rfl hl.1 rfl (Nat.le_of_ble_eq_true rfl) dX1_bestChannel_21 (fun H locs hz => ?_)
    exact rz_i B hr hz dX1_bestChannel_24 (by first | (simp [c5]; done) | (simp [c5, tn5 hf, tn5 ht]; done)) (by first | (simp [c5]; done) | (simp [c5, tn5 hf, tn5 ht]; done))
  · refine lv_aload_n hx hb dX1_bestChannel_8 rfl (lv_at hl 0 rfl) ?_
    refine cV (C := RX1) (T := TX1) (N := 6) (ci := 1) (q0 := 0) (k := 5) (As := []) (rest := []) (v := .int (-2)) (ws1 := (xW cI cN b an s rk sv rv nx ct (iv + nI 1) rj)) B hz hA (c_X1_countInvalid l D cI cN b an s rk sv rv nx ct iv rj  ) gX1_bestChannel_X1_countInvalid rfl rfl hd_X1_countInvalid (by decide) rfl rfl rfl hl.1 rfl (Nat.le_of_ble_eq_true rfl) dX1_bestChannel_9 (fun H locs hz => ?_)
    exact rz_i B hr hz dX1_bestChannel_12 (by first | (simp [c5]; done) | (simp [c5, tn5 hf, tn5 ht]; done)) (by first | (simp [c5]; done) | (simp [c5, tn5 hf, tn5 ht]; done))
theorem hd_X1_netChannel : hdZ yX1_netChannel 2 := by decide +kernel
set_option maxRecDepth 100000 in
set_option maxHeartbeats 4000000 in
theorem c_X1_netChannel (l : Launch) (D : va_G) (cI cN : ClassId) (b : Nat → Nat) (an : Nat → Nat → Nat) (s : Sz) (rk : Sz) (sv : Nat → Sz) (rv : Nat → Sz) (nx : Nat) (ct : Nat) (iv : Int32) (rj : Int32) (x : Int32) (y : Int32) (hv : IvA s) : Fn l D cI cN yX1_netChannel wsX1_netChannel 5 (xW cI cN b an s rk sv rv nx ct iv rj) [.ref (b 0), .int x, .int y] (some (.int (if fNet x y = true then oI (fFr (fRk y (tn x) s rk 8) (s (9 + tn x)) 8) else -2))) (xW cI cN b an s (if fNet x y = true then fRk y (tn x) s rk 8 else rk) sv rv nx ct (if fNet x y = true then iv else iv + nI 1) rj) := by
  refine Fn.of (cc := cX1_netChannel) (nL := 3) (ret := (some .int)) (lv := [(0, .ref (b 0)), (1, .int x), (2, .int y)]) (by decide +kernel) rfl (Nat.le_of_ble_eq_true rfl) rfl ?_
  intro p e s_ m args below meth c A B hr hA H locs ls hz hl
  have hx := B.1.1
  have hb := B.1.2.1
  have hinX1 : ∀ w ∈ u_ws RX1 TX1 6, w ∈ wsX1_netChannel := by decide +kernel
  have lk12 : Cond.fieldLink yX1_netChannel.cls 12 RX1 (TX1 0).2.1 (TX1 0).2.2.1 ∈ wsX1_netChannel := by decide +kernel
  refine lv_iload_n hx hb dX1_netChannel_0 rfl (lv_at hl 1 rfl) ?_
  refine lv_iload_n hx hb dX1_netChannel_1 rfl (lv_at hl 2 rfl) ?_
  refine cS (k := 5) (As := [.int x, .int y]) (rest := []) (v := .int (b2i (fNet x y))) B hz hA (c_X1_isNet l D cI cN x y ) gX1_netChannel_X1_isNet rfl hd_X1_isNet (by decide) rfl hl.1 rfl (Nat.le_of_ble_eq_true rfl) dX1_netChannel_2 (fun H locs hz => ?_)
  refine lb_if_ne (tgt := 13) hx hb dX1_netChannel_5 (by decide) (fun c5 => ?_) (fun c5 => ?_)
  · obtain ⟨f, tm, hf, htm1, htm2, hfm, rfl, rfl⟩ := fNet_nat c5
    refine lv_aload_n hx hb dX1_netChannel_13 rfl (lv_at hl 0 rfl) ?_
    refine gz (C := RX1) (T := TX1) (N := 6) (v := .ref (an 0 0)) B hz hinX1 0 rfl rfl 0 (by decide) lk12 rfl rfl dX1_netChannel_14 ?_
    refine lv_iload_n hx hb dX1_netChannel_17 rfl (lv_at hl 1 rfl) ?_
    refine lv_iload_n hx hb dX1_netChannel_18 rfl (lv_at hl 2 rfl) ?_
    refine cX (k := 5) (As := [.int (nI f), .int (nI tm)]) (rest := []) (v := .int (oI (fFr (fRk (nI tm) f s rk 8) (s (9 + f)) 8))) (s' := s) (rk' := (fRk (nI tm) f s rk 8)) B hz hA (c_X0_preferredChannel l D cI cN (an 0) s rk f (nI tm) (hf) (hv)) gX1_netChannel_X0_preferredChannel rfl rfl hd_X0_preferredChannel (by decide) rfl hl.1 rfl (Nat.le_of_ble_eq_true rfl) dX1_netChannel_19 (fun H locs hz => ?_)
    exact rz_i B hr hz dX1_netChannel_22 (by first | (simp [c5]; done) | (simp [c5, tn5 hf]; done)) (by first | (simp [c5]; done) | (simp [c5, tn5 hf]; done))
  · refine lv_aload_n hx hb dX1_netChannel_8 rfl (lv_at hl 0 rfl) ?_
    refine cV (C := RX1) (T := TX1) (N := 6) (ci := 1) (q0 := 0) (k := 5) (As := []) (rest := []) (v := .int (-2)) (ws1 := (xW cI cN b an s rk sv rv nx ct (iv + nI 1) rj)) B hz hA (c_X1_countInvalid l D cI cN b an s rk sv rv nx ct iv rj  ) gX1_netChannel_X1_countInvalid rfl rfl hd_X1_countInvalid (by decide) rfl rfl rfl hl.1 rfl (Nat.le_of_ble_eq_true rfl) dX1_netChannel_9 (fun H locs hz => ?_)
    exact rz_i B hr hz dX1_netChannel_12 (by first | (simp [c5]; done) | (simp [c5, tn5 hf]; done)) (by first | (simp [c5]; done) | (simp [c5, tn5 hf]; done))
theorem hd_X1_vote : hdZ yX1_vote 3 := by decide +kernel
set_option maxRecDepth 100000 in
set_option maxHeartbeats 4000000 in
theorem c_X1_vote (l : Launch) (D : va_G) (cI cN : ClassId) (b : Nat → Nat) (an : Nat → Nat → Nat) (s : Sz) (rk : Sz) (sv : Nat → Sz) (rv : Nat → Sz) (nx : Nat) (ct : Nat) (iv : Int32) (rj : Int32) (x : Int32) (y : Int32) (z : Int32) : Fn l D cI cN yX1_vote wsX1_vote 3 (xW cI cN b an s rk sv rv nx ct iv rj) [.ref (b 0), .int x, .int y, .int z] (some (.int (if (fWd x && (fWd y && fWd z)) = true then fMaj x y z else -2))) (xW cI cN b an s rk sv rv nx ct (if (fWd x && (fWd y && fWd z)) = true then iv else iv + nI 1) rj) := by
  refine Fn.of (cc := cX1_vote) (nL := 4) (ret := (some .int)) (lv := [(0, .ref (b 0)), (1, .int x), (2, .int y), (3, .int z)]) (by decide +kernel) rfl (Nat.le_of_ble_eq_true rfl) rfl ?_
  intro p e s_ m args below meth c A B hr hA H locs ls hz hl
  have hx := B.1.1
  have hb := B.1.2.1
  refine lv_iload_n hx hb dX1_vote_0 rfl (lv_at hl 1 rfl) ?_
  refine cS (k := 3) (As := [.int x]) (rest := []) (v := .int (b2i (fWd x))) B hz hA (c_X1_isWord l D cI cN x ) gX1_vote_X1_isWord rfl hd_X1_isWord (by decide) rfl hl.1 rfl (Nat.le_of_ble_eq_true rfl) dX1_vote_1 (fun H locs hz => ?_)
  refine lb_if_eq (tgt := 21) hx hb dX1_vote_4 (by decide) (fun c4 => ?_) (fun c4 => ?_)
  · refine lv_aload_n hx hb dX1_vote_21 rfl (lv_at hl 0 rfl) ?_
    refine cV (C := RX1) (T := TX1) (N := 6) (ci := 1) (q0 := 0) (k := 3) (As := []) (rest := []) (v := .int (-2)) (ws1 := (xW cI cN b an s rk sv rv nx ct (iv + nI 1) rj)) B hz hA (c_X1_countInvalid l D cI cN b an s rk sv rv nx ct iv rj  ) gX1_vote_X1_countInvalid rfl rfl hd_X1_countInvalid (by decide) rfl rfl rfl hl.1 rfl (Nat.le_of_ble_eq_true rfl) dX1_vote_22 (fun H locs hz => ?_)
    exact rz_i B hr hz dX1_vote_25 (by first | (simp [c4]; done) | (simp [c4]; done)) (by first | (simp [c4]; done) | (simp [c4]; done))
  · refine lv_iload_n hx hb dX1_vote_7 rfl (lv_at hl 2 rfl) ?_
    refine cS (k := 3) (As := [.int y]) (rest := []) (v := .int (b2i (fWd y))) B hz hA (c_X1_isWord l D cI cN y ) gX1_vote_X1_isWord rfl hd_X1_isWord (by decide) rfl hl.1 rfl (Nat.le_of_ble_eq_true rfl) dX1_vote_8 (fun H locs hz => ?_)
    refine lb_if_eq (tgt := 21) hx hb dX1_vote_11 (by decide) (fun c11 => ?_) (fun c11 => ?_)
    · refine lv_aload_n hx hb dX1_vote_21 rfl (lv_at hl 0 rfl) ?_
      refine cV (C := RX1) (T := TX1) (N := 6) (ci := 1) (q0 := 0) (k := 3) (As := []) (rest := []) (v := .int (-2)) (ws1 := (xW cI cN b an s rk sv rv nx ct (iv + nI 1) rj)) B hz hA (c_X1_countInvalid l D cI cN b an s rk sv rv nx ct iv rj  ) gX1_vote_X1_countInvalid rfl rfl hd_X1_countInvalid (by decide) rfl rfl rfl hl.1 rfl (Nat.le_of_ble_eq_true rfl) dX1_vote_22 (fun H locs hz => ?_)
      exact rz_i B hr hz dX1_vote_25 (by first | (simp [c4, c11]; done) | (simp [c4, c11]; done)) (by first | (simp [c4, c11]; done) | (simp [c4, c11]; done))
    · refine lv_iload_n hx hb dX1_vote_14 rfl (lv_at hl 3 rfl) ?_
      refine cS (k := 3) (As := [.int z]) (rest := []) (v := .int (b2i (fWd z))) B hz hA (c_X1_isWord l D cI cN z ) gX1_vote_X1_isWord rfl hd_X1_isWord (by decide) rfl hl.1 rfl (Nat.le_of_ble_eq_true rfl) dX1_vote_15 (fun H locs hz => ?_)
      refine lb_if_ne (tgt := 26) hx hb dX1_vote_18 (by decide) (fun c18 => ?_) (fun c18 => ?_)
      · refine lv_iload_n hx hb dX1_vote_26 rfl (lv_at hl 1 rfl) ?_
        refine lv_iload_n hx hb dX1_vote_27 rfl (lv_at hl 2 rfl) ?_
        refine lv_iload_n hx hb dX1_vote_28 rfl (lv_at hl 3 rfl) ?_
        refine cS (k := 3) (As := [.int x, .int y, .int z]) (rest := []) (v := .int (fMaj x y z)) B hz hA (c_X1_majority l D cI cN x y z ) gX1_vote_X1_majority rfl hd_X1_majority (by decide) rfl hl.1 rfl (Nat.le_of_ble_eq_true rfl) dX1_vote_29 (fun H locs hz => ?_)
        exact rz_i B hr hz dX1_vote_32 (by first | (simp [c4, c11, c18]; done) | (simp [c4, c11, c18]; done)) (by first | (simp [c4, c11, c18]; done) | (simp [c4, c11, c18]; done))
      · refine lv_aload_n hx hb dX1_vote_21 rfl (lv_at hl 0 rfl) ?_
        refine cV (C := RX1) (T := TX1) (N := 6) (ci := 1) (q0 := 0) (k := 3) (As := []) (rest := []) (v := .int (-2)) (ws1 := (xW cI cN b an s rk sv rv nx ct (iv + nI 1) rj)) B hz hA (c_X1_countInvalid l D cI cN b an s rk sv rv nx ct iv rj  ) gX1_vote_X1_countInvalid rfl rfl hd_X1_countInvalid (by decide) rfl rfl rfl hl.1 rfl (Nat.le_of_ble_eq_true rfl) dX1_vote_22 (fun H locs hz => ?_)
        exact rz_i B hr hz dX1_vote_25 (by first | (simp [c4, c11, c18]; done) | (simp [c4, c11, c18]; done)) (by first | (simp [c4, c11, c18]; done) | (simp [c4, c11, c18]; done))
theorem hd_X1_errorCount : hdZ yX1_errorCount 1 := by decide +kernel
set_option maxRecDepth 100000 in
set_option maxHeartbeats 4000000 in
theorem c_X1_errorCount (l : Launch) (D : va_G) (cI cN : ClassId) (b : Nat → Nat) (an : Nat → Nat → Nat) (s : Sz) (rk : Sz) (sv : Nat → Sz) (rv : Nat → Sz) (nx : Nat) (ct : Nat) (iv : Int32) (rj : Int32) (x : Int32) : Fn l D cI cN yX1_errorCount wsX1_errorCount 1 (xW cI cN b an s rk sv rv nx ct iv rj) [.ref (b 0), .int x] (some (.int (if x = 0 then iv else if x = nI 1 then rj else -2))) (xW cI cN b an s rk sv rv nx ct (if x = 0 then iv else if x = nI 1 then iv else iv + nI 1) rj) := by
  refine Fn.of (cc := cX1_errorCount) (nL := 2) (ret := (some .int)) (lv := [(0, .ref (b 0)), (1, .int x)]) (by decide +kernel) rfl (Nat.le_of_ble_eq_true rfl) rfl ?_
  intro p e s_ m args below meth c A B hr hA H locs ls hz hl
  have hx := B.1.1
  have hb := B.1.2.1
  have hinX1 : ∀ w ∈ u_ws RX1 TX1 6, w ∈ wsX1_errorCount := by decide +kernel
  have lk138 : Cond.fieldLink yX1_errorCount.cls 138 RX1 (TX1 4).2.1 (TX1 4).2.2.1 ∈ wsX1_errorCount := by decide +kernel
  have lk141 : Cond.fieldLink yX1_errorCount.cls 141 RX1 (TX1 5).2.1 (TX1 5).2.2.1 ∈ wsX1_errorCount := by decide +kernel
  refine lv_iload_n hx hb dX1_errorCount_0 rfl (lv_at hl 1 rfl) ?_
  refine lv_if_ne (tgt := 9) hx hb dX1_errorCount_1 (by decide) (fun c1 => ?_) (fun c1 => ?_)
  · refine lv_iload_n hx hb dX1_errorCount_9 rfl (lv_at hl 1 rfl) ?_
    refine lv_iconst (v := (nI 1)) hx hb dX1_errorCount_10 (by decide) ?_
    refine lv_icmp_ne (tgt := 19) hx hb dX1_errorCount_11 (by decide) (fun c11 => ?_) (fun c11 => ?_)
    · refine lv_aload_n hx hb dX1_errorCount_19 rfl (lv_at hl 0 rfl) ?_
      refine cV (C := RX1) (T := TX1) (N := 6) (ci := 1) (q0 := 0) (k := 1) (As := []) (rest := []) (v := .int (-2)) (ws1 := (xW cI cN b an s rk sv rv nx ct (iv + nI 1) rj)) B hz hA (c_X1_countInvalid l D cI cN b an s rk sv rv nx ct iv rj  ) gX1_errorCount_X1_countInvalid rfl rfl hd_X1_countInvalid (by decide) rfl rfl rfl hl.1 rfl (Nat.le_of_ble_eq_true rfl) dX1_errorCount_20 (fun H locs hz => ?_)
      exact rz_i B hr hz dX1_errorCount_23 (by first | (rw [if_pos c1]; done) | (rw [if_neg c1, if_pos c11]; done) | (rw [if_neg c1, if_neg c11]; done)) (by first | (rw [if_pos c1]; done) | (rw [if_neg c1, if_pos c11]; done) | (rw [if_neg c1, if_neg c11]; done))
    · refine lv_aload_n hx hb dX1_errorCount_14 rfl (lv_at hl 0 rfl) ?_
      refine gz (C := RX1) (T := TX1) (N := 6) (v := .int rj) B hz hinX1 0 rfl rfl 5 (by decide) lk141 rfl rfl dX1_errorCount_15 ?_
      exact rz_i B hr hz dX1_errorCount_18 (by first | (rw [if_pos c1]; done) | (rw [if_neg c1, if_pos c11]; done) | (rw [if_neg c1, if_neg c11]; done)) (by first | (rw [if_pos c1]; done) | (rw [if_neg c1, if_pos c11]; done) | (rw [if_neg c1, if_neg c11]; done))
  · refine lv_aload_n hx hb dX1_errorCount_4 rfl (lv_at hl 0 rfl) ?_
    refine gz (C := RX1) (T := TX1) (N := 6) (v := .int iv) B hz hinX1 0 rfl rfl 4 (by decide) lk138 rfl rfl dX1_errorCount_5 ?_
    exact rz_i B hr hz dX1_errorCount_8 (by first | (rw [if_pos c1]; done) | (rw [if_neg c1, if_pos c11]; done) | (rw [if_neg c1, if_neg c11]; done)) (by first | (rw [if_pos c1]; done) | (rw [if_neg c1, if_pos c11]; done) | (rw [if_neg c1, if_neg c11]; done))
theorem hd_X1_digest : hdZ yX1_digest 0 := by decide +kernel
set_option maxRecDepth 100000 in
set_option maxHeartbeats 4000000 in
theorem c_X1_digest (l : Launch) (D : va_G) (cI cN : ClassId) (b : Nat → Nat) (an : Nat → Nat → Nat) (s : Sz) (rk : Sz) (sv : Nat → Sz) (rv : Nat → Sz) (nx : Nat) (ct : Nat) (iv : Int32) (rj : Int32) (hv : IvA s) : Fn l D cI cN yX1_digest wsX1_digest 3 (xW cI cN b an s rk sv rv nx ct iv rj) [.ref (b 0)] (some (.long (fDg iv rj ct s))) (xW cI cN b an s rk sv rv nx ct iv rj) := by
  refine Fn.of (cc := cX1_digest) (nL := 3) (ret := (some .long)) (lv := [(0, .ref (b 0))]) (by decide +kernel) rfl (Nat.le_of_ble_eq_true rfl) rfl ?_
  intro p e s_ m args below meth c A B hr hA H locs ls hz hl
  have hx := B.1.1
  have hb := B.1.2.1
  have hinX1 : ∀ w ∈ u_ws RX1 TX1 6, w ∈ wsX1_digest := by decide +kernel
  have lk12 : Cond.fieldLink yX1_digest.cls 12 RX1 (TX1 0).2.1 (TX1 0).2.2.1 ∈ wsX1_digest := by decide +kernel
  have lk128 : Cond.fieldLink yX1_digest.cls 128 RX1 (TX1 3).2.1 (TX1 3).2.2.1 ∈ wsX1_digest := by decide +kernel
  have lk138 : Cond.fieldLink yX1_digest.cls 138 RX1 (TX1 4).2.1 (TX1 4).2.2.1 ∈ wsX1_digest := by decide +kernel
  have lk141 : Cond.fieldLink yX1_digest.cls 141 RX1 (TX1 5).2.1 (TX1 5).2.2.1 ∈ wsX1_digest := by decide +kernel
  refine ldc2z (v := 12164) B (by decide +kernel) dX1_digest_0 ?_
  refine lv_lstore_n (lv' := [(1, .long 12164), (0, .ref (b 0))]) hx hb dX1_digest_3 rfl hl (by decide) rfl (fun ls hl => ?_)
  refine lv_lload_n hx hb dX1_digest_4 rfl (lv_at hl 0 rfl) ?_
  refine lv_aload_n hx hb dX1_digest_5 rfl (lv_at hl 1 rfl) ?_
  refine gz (C := RX1) (T := TX1) (N := 6) (v := .int iv) B hz hinX1 0 rfl rfl 4 (by decide) lk138 rfl rfl dX1_digest_6 ?_
  refine lv_i2l hx hb dX1_digest_9 rfl ?_
  refine cS (k := 3) (As := [.long 12164, .long iv.toInt64]) (rest := []) (v := .long (31 * 12164 + iv.toInt64)) B hz hA (c_X1_mix l D cI cN 12164 iv.toInt64 ) gX1_digest_X1_mix rfl hd_X1_mix (by decide) rfl hl.1 rfl (Nat.le_of_ble_eq_true rfl) dX1_digest_10 (fun H locs hz => ?_)
  refine lv_lstore_n (lv' := [(1, .long (31 * 12164 + iv.toInt64)), (0, .ref (b 0))]) hx hb dX1_digest_13 rfl hl (by decide) rfl (fun ls hl => ?_)
  refine lv_lload_n hx hb dX1_digest_14 rfl (lv_at hl 0 rfl) ?_
  refine lv_aload_n hx hb dX1_digest_15 rfl (lv_at hl 1 rfl) ?_
  refine gz (C := RX1) (T := TX1) (N := 6) (v := .int rj) B hz hinX1 0 rfl rfl 5 (by decide) lk141 rfl rfl dX1_digest_16 ?_
  refine lv_i2l hx hb dX1_digest_19 rfl ?_
  refine cS (k := 3) (As := [.long (31 * 12164 + iv.toInt64), .long rj.toInt64]) (rest := []) (v := .long (31 * (31 * 12164 + iv.toInt64) + rj.toInt64)) B hz hA (c_X1_mix l D cI cN (31 * 12164 + iv.toInt64) rj.toInt64 ) gX1_digest_X1_mix rfl hd_X1_mix (by decide) rfl hl.1 rfl (Nat.le_of_ble_eq_true rfl) dX1_digest_20 (fun H locs hz => ?_)
  refine lv_lstore_n (lv' := [(1, .long (31 * (31 * 12164 + iv.toInt64) + rj.toInt64)), (0, .ref (b 0))]) hx hb dX1_digest_23 rfl hl (by decide) rfl (fun ls hl => ?_)
  refine lv_lload_n hx hb dX1_digest_24 rfl (lv_at hl 0 rfl) ?_
  refine lv_aload_n hx hb dX1_digest_25 rfl (lv_at hl 1 rfl) ?_
  refine gz (C := RX1) (T := TX1) (N := 6) (v := .int (nI ct)) B hz hinX1 0 rfl rfl 3 (by decide) lk128 rfl rfl dX1_digest_26 ?_
  refine lv_i2l hx hb dX1_digest_29 rfl ?_
  refine cS (k := 3) (As := [.long (31 * (31 * 12164 + iv.toInt64) + rj.toInt64), .long ((nI ct).toInt64)]) (rest := []) (v := .long (31 * (31 * (31 * 12164 + iv.toInt64) + rj.toInt64) + ((nI ct).toInt64))) B hz hA (c_X1_mix l D cI cN (31 * (31 * 12164 + iv.toInt64) + rj.toInt64) ((nI ct).toInt64) ) gX1_digest_X1_mix rfl hd_X1_mix (by decide) rfl hl.1 rfl (Nat.le_of_ble_eq_true rfl) dX1_digest_30 (fun H locs hz => ?_)
  refine lv_lstore_n (lv' := [(1, .long (31 * (31 * (31 * 12164 + iv.toInt64) + rj.toInt64) + ((nI ct).toInt64))), (0, .ref (b 0))]) hx hb dX1_digest_33 rfl hl (by decide) rfl (fun ls hl => ?_)
  refine lv_aload_n hx hb dX1_digest_34 rfl (lv_at hl 1 rfl) ?_
  refine gz (C := RX1) (T := TX1) (N := 6) (v := .ref (an 0 0)) B hz hinX1 0 rfl rfl 0 (by decide) lk12 rfl rfl dX1_digest_35 ?_
  refine lv_lload_n hx hb dX1_digest_38 rfl (lv_at hl 0 rfl) ?_
  refine cX (k := 3) (As := [.long (31 * (31 * (31 * 12164 + iv.toInt64) + rj.toInt64) + ((nI ct).toInt64))]) (rest := []) (v := .long (fDa (31 * (31 * (31 * 12164 + iv.toInt64) + rj.toInt64) + ((nI ct).toInt64)) s)) (s' := s) (rk' := rk) B hz hA (c_X0_mixCounters l D cI cN (an 0) s rk (31 * (31 * (31 * 12164 + iv.toInt64) + rj.toInt64) + ((nI ct).toInt64)) ) gX1_digest_X0_mixCounters rfl rfl hd_X0_mixCounters (by decide) rfl hl.1 rfl (Nat.le_of_ble_eq_true rfl) dX1_digest_39 (fun H locs hz => ?_)
  refine lv_lstore_n (lv' := [(1, .long (fDa (31 * (31 * (31 * 12164 + iv.toInt64) + rj.toInt64) + ((nI ct).toInt64)) s)), (0, .ref (b 0))]) hx hb dX1_digest_42 rfl hl (by decide) rfl (fun ls hl => ?_)
  refine lv_aload_n hx hb dX1_digest_43 rfl (lv_at hl 1 rfl) ?_
  refine gz (C := RX1) (T := TX1) (N := 6) (v := .ref (an 0 0)) B hz hinX1 0 rfl rfl 0 (by decide) lk12 rfl rfl dX1_digest_44 ?_
  refine lv_lload_n hx hb dX1_digest_47 rfl (lv_at hl 0 rfl) ?_
  refine cX (k := 3) (As := [.long (fDa (31 * (31 * (31 * 12164 + iv.toInt64) + rj.toInt64) + ((nI ct).toInt64)) s)]) (rest := []) (v := .long (fDs s (fDa (31 * (31 * (31 * 12164 + iv.toInt64) + rj.toInt64) + ((nI ct).toInt64)) s) 5)) (s' := s) (rk' := rk) B hz hA (c_X0_mixStations l D cI cN (an 0) s rk (fDa (31 * (31 * (31 * 12164 + iv.toInt64) + rj.toInt64) + ((nI ct).toInt64)) s) ) gX1_digest_X0_mixStations rfl rfl hd_X0_mixStations (by decide) rfl hl.1 rfl (Nat.le_of_ble_eq_true rfl) dX1_digest_48 (fun H locs hz => ?_)
  refine lv_lstore_n (lv' := [(1, .long (fDs s (fDa (31 * (31 * (31 * 12164 + iv.toInt64) + rj.toInt64) + ((nI ct).toInt64)) s) 5)), (0, .ref (b 0))]) hx hb dX1_digest_51 rfl hl (by decide) rfl (fun ls hl => ?_)
  refine lv_aload_n hx hb dX1_digest_52 rfl (lv_at hl 1 rfl) ?_
  refine gz (C := RX1) (T := TX1) (N := 6) (v := .ref (an 0 0)) B hz hinX1 0 rfl rfl 0 (by decide) lk12 rfl rfl dX1_digest_53 ?_
  refine lv_lload_n hx hb dX1_digest_56 rfl (lv_at hl 0 rfl) ?_
  refine cX (k := 3) (As := [.long (fDs s (fDa (31 * (31 * (31 * 12164 + iv.toInt64) + rj.toInt64) + ((nI ct).toInt64)) s) 5)]) (rest := []) (v := .long (fDm s (fDs s (fDa (31 * (31 * (31 * 12164 + iv.toInt64) + rj.toInt64) + ((nI ct).toInt64)) s) 5) 200)) (s' := s) (rk' := rk) B hz hA (c_X0_mixScores l D cI cN (an 0) s rk (fDs s (fDa (31 * (31 * (31 * 12164 + iv.toInt64) + rj.toInt64) + ((nI ct).toInt64)) s) 5) (hv)) gX1_digest_X0_mixScores rfl rfl hd_X0_mixScores (by decide) rfl hl.1 rfl (Nat.le_of_ble_eq_true rfl) dX1_digest_57 (fun H locs hz => ?_)
  exact rz_l B hr hz dX1_digest_60 (by rfl) (by rfl)
