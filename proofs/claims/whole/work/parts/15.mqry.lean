theorem hd_X2_attempts : hdZ yX2_attempts 0 := by decide +kernel
set_option maxRecDepth 100000 in
set_option maxHeartbeats 4000000 in
theorem c_X2_attempts (l : Launch) (D : va_G) (cI cN : ClassId) (a : Nat → Nat) (s : Sz) (pst : Sz) (np : Nat) (er : Sz) (od : Sz) (rk : Sz) (hs : Int64) : Fn l D cI cN yX2_attempts wsX2_attempts 0 (mW cI a s pst np er od rk hs) [.ref (a 0)] (some (.int (s 5))) (mW cI a s pst np er od rk hs) := by
  refine Fn.of (cc := cX2_attempts) (nL := 1) (ret := (some .int)) (lv := [(0, .ref (a 0))]) (by decide +kernel) rfl (Nat.le_of_ble_eq_true rfl) rfl ?_
  intro p e s_ m args below meth c A B hr hA H locs ls hz hl
  have hx := B.1.1
  have hb := B.1.2.1
  have hinX2 : ∀ w ∈ u_ws RX2 TX2 7, w ∈ wsX2_attempts := by decide +kernel
  have lk7 : Cond.fieldLink yX2_attempts.cls 7 RX2 (TX2 0).2.1 (TX2 0).2.2.1 ∈ wsX2_attempts := by decide +kernel
  refine lv_aload_n hx hb dX2_attempts_0 rfl (lv_at hl 0 rfl) ?_
  refine gz (C := RX2) (T := TX2) (N := 7) (v := .ref (a 1)) B hz hinX2 0 rfl rfl 0 (by decide) lk7 rfl rfl dX2_attempts_1 ?_
  refine lv_iconst (v := (nI 5)) hx hb dX2_attempts_4 (by decide) ?_
  refine ildz (n := 624) (j := 5) (v := (s 5)) B hz 1 rfl (by omega) (by decide) rfl dX2_attempts_5 ?_
  exact rz_i B hr hz dX2_attempts_6 (by rfl) (by rfl)
theorem hd_X2_lastChannel : hdZ yX2_lastChannel 0 := by decide +kernel
set_option maxRecDepth 100000 in
set_option maxHeartbeats 4000000 in
theorem c_X2_lastChannel (l : Launch) (D : va_G) (cI cN : ClassId) (a : Nat → Nat) (s : Sz) (pst : Sz) (np : Nat) (er : Sz) (od : Sz) (rk : Sz) (hs : Int64) : Fn l D cI cN yX2_lastChannel wsX2_lastChannel 0 (mW cI a s pst np er od rk hs) [.ref (a 0)] (some (.int (s 6))) (mW cI a s pst np er od rk hs) := by
  refine Fn.of (cc := cX2_lastChannel) (nL := 1) (ret := (some .int)) (lv := [(0, .ref (a 0))]) (by decide +kernel) rfl (Nat.le_of_ble_eq_true rfl) rfl ?_
  intro p e s_ m args below meth c A B hr hA H locs ls hz hl
  have hx := B.1.1
  have hb := B.1.2.1
  have hinX2 : ∀ w ∈ u_ws RX2 TX2 7, w ∈ wsX2_lastChannel := by decide +kernel
  have lk7 : Cond.fieldLink yX2_lastChannel.cls 7 RX2 (TX2 0).2.1 (TX2 0).2.2.1 ∈ wsX2_lastChannel := by decide +kernel
  refine lv_aload_n hx hb dX2_lastChannel_0 rfl (lv_at hl 0 rfl) ?_
  refine gz (C := RX2) (T := TX2) (N := 7) (v := .ref (a 1)) B hz hinX2 0 rfl rfl 0 (by decide) lk7 rfl rfl dX2_lastChannel_1 ?_
  refine lv_bipush (v := (nI 6)) hx hb dX2_lastChannel_4 (by decide) ?_
  refine ildz (n := 624) (j := 6) (v := (s 6)) B hz 1 rfl (by omega) (by decide) rfl dX2_lastChannel_6 ?_
  exact rz_i B hr hz dX2_lastChannel_7 (by rfl) (by rfl)
theorem hd_X2_lastUnanimous : hdZ yX2_lastUnanimous 0 := by decide +kernel
set_option maxRecDepth 100000 in
set_option maxHeartbeats 4000000 in
theorem c_X2_lastUnanimous (l : Launch) (D : va_G) (cI cN : ClassId) (a : Nat → Nat) (s : Sz) (pst : Sz) (np : Nat) (er : Sz) (od : Sz) (rk : Sz) (hs : Int64) : Fn l D cI cN yX2_lastUnanimous wsX2_lastUnanimous 0 (mW cI a s pst np er od rk hs) [.ref (a 0)] (some (.int (s 7))) (mW cI a s pst np er od rk hs) := by
  refine Fn.of (cc := cX2_lastUnanimous) (nL := 1) (ret := (some .int)) (lv := [(0, .ref (a 0))]) (by decide +kernel) rfl (Nat.le_of_ble_eq_true rfl) rfl ?_
  intro p e s_ m args below meth c A B hr hA H locs ls hz hl
  have hx := B.1.1
  have hb := B.1.2.1
  have hinX2 : ∀ w ∈ u_ws RX2 TX2 7, w ∈ wsX2_lastUnanimous := by decide +kernel
  have lk7 : Cond.fieldLink yX2_lastUnanimous.cls 7 RX2 (TX2 0).2.1 (TX2 0).2.2.1 ∈ wsX2_lastUnanimous := by decide +kernel
  refine lv_aload_n hx hb dX2_lastUnanimous_0 rfl (lv_at hl 0 rfl) ?_
  refine gz (C := RX2) (T := TX2) (N := 7) (v := .ref (a 1)) B hz hinX2 0 rfl rfl 0 (by decide) lk7 rfl rfl dX2_lastUnanimous_1 ?_
  refine lv_bipush (v := (nI 7)) hx hb dX2_lastUnanimous_4 (by decide) ?_
  refine ildz (n := 624) (j := 7) (v := (s 7)) B hz 1 rfl (by omega) (by decide) rfl dX2_lastUnanimous_6 ?_
  exact rz_i B hr hz dX2_lastUnanimous_7 (by rfl) (by rfl)
theorem hd_X2_lastVoted : hdZ yX2_lastVoted 0 := by decide +kernel
set_option maxRecDepth 100000 in
set_option maxHeartbeats 4000000 in
theorem c_X2_lastVoted (l : Launch) (D : va_G) (cI cN : ClassId) (a : Nat → Nat) (s : Sz) (pst : Sz) (np : Nat) (er : Sz) (od : Sz) (rk : Sz) (hs : Int64) : Fn l D cI cN yX2_lastVoted wsX2_lastVoted 0 (mW cI a s pst np er od rk hs) [.ref (a 0)] (some (.int (s 8))) (mW cI a s pst np er od rk hs) := by
  refine Fn.of (cc := cX2_lastVoted) (nL := 1) (ret := (some .int)) (lv := [(0, .ref (a 0))]) (by decide +kernel) rfl (Nat.le_of_ble_eq_true rfl) rfl ?_
  intro p e s_ m args below meth c A B hr hA H locs ls hz hl
  have hx := B.1.1
  have hb := B.1.2.1
  have hinX2 : ∀ w ∈ u_ws RX2 TX2 7, w ∈ wsX2_lastVoted := by decide +kernel
  have lk7 : Cond.fieldLink yX2_lastVoted.cls 7 RX2 (TX2 0).2.1 (TX2 0).2.2.1 ∈ wsX2_lastVoted := by decide +kernel
  refine lv_aload_n hx hb dX2_lastVoted_0 rfl (lv_at hl 0 rfl) ?_
  refine gz (C := RX2) (T := TX2) (N := 7) (v := .ref (a 1)) B hz hinX2 0 rfl rfl 0 (by decide) lk7 rfl rfl dX2_lastVoted_1 ?_
  refine lv_bipush (v := (nI 8)) hx hb dX2_lastVoted_4 (by decide) ?_
  refine ildz (n := 624) (j := 8) (v := (s 8)) B hz 1 rfl (by omega) (by decide) rfl dX2_lastVoted_6 ?_
  exact rz_i B hr hz dX2_lastVoted_7 (by rfl) (by rfl)
theorem hd_X2_time : hdZ yX2_time 0 := by decide +kernel
set_option maxRecDepth 100000 in
set_option maxHeartbeats 4000000 in
theorem c_X2_time (l : Launch) (D : va_G) (cI cN : ClassId) (a : Nat → Nat) (s : Sz) (pst : Sz) (np : Nat) (er : Sz) (od : Sz) (rk : Sz) (hs : Int64) : Fn l D cI cN yX2_time wsX2_time 0 (mW cI a s pst np er od rk hs) [.ref (a 0)] (some (.int (s 0))) (mW cI a s pst np er od rk hs) := by
  refine Fn.of (cc := cX2_time) (nL := 1) (ret := (some .int)) (lv := [(0, .ref (a 0))]) (by decide +kernel) rfl (Nat.le_of_ble_eq_true rfl) rfl ?_
  intro p e s_ m args below meth c A B hr hA H locs ls hz hl
  have hx := B.1.1
  have hb := B.1.2.1
  have hinX2 : ∀ w ∈ u_ws RX2 TX2 7, w ∈ wsX2_time := by decide +kernel
  have lk7 : Cond.fieldLink yX2_time.cls 7 RX2 (TX2 0).2.1 (TX2 0).2.2.1 ∈ wsX2_time := by decide +kernel
  refine lv_aload_n hx hb dX2_time_0 rfl (lv_at hl 0 rfl) ?_
  refine gz (C := RX2) (T := TX2) (N := 7) (v := .ref (a 1)) B hz hinX2 0 rfl rfl 0 (by decide) lk7 rfl rfl dX2_time_1 ?_
  refine lv_iconst (v := (nI 0)) hx hb dX2_time_4 (by decide) ?_
  refine ildz (n := 624) (j := 0) (v := (s 0)) B hz 1 rfl (by omega) (by decide) rfl dX2_time_5 ?_
  exact rz_i B hr hz dX2_time_6 (by rfl) (by rfl)
theorem hd_X2_transmitted : hdZ yX2_transmitted 0 := by decide +kernel
set_option maxRecDepth 100000 in
set_option maxHeartbeats 4000000 in
theorem c_X2_transmitted (l : Launch) (D : va_G) (cI cN : ClassId) (a : Nat → Nat) (s : Sz) (pst : Sz) (np : Nat) (er : Sz) (od : Sz) (rk : Sz) (hs : Int64) : Fn l D cI cN yX2_transmitted wsX2_transmitted 0 (mW cI a s pst np er od rk hs) [.ref (a 0)] (some (.int (s 3))) (mW cI a s pst np er od rk hs) := by
  refine Fn.of (cc := cX2_transmitted) (nL := 1) (ret := (some .int)) (lv := [(0, .ref (a 0))]) (by decide +kernel) rfl (Nat.le_of_ble_eq_true rfl) rfl ?_
  intro p e s_ m args below meth c A B hr hA H locs ls hz hl
  have hx := B.1.1
  have hb := B.1.2.1
  have hinX2 : ∀ w ∈ u_ws RX2 TX2 7, w ∈ wsX2_transmitted := by decide +kernel
  have lk7 : Cond.fieldLink yX2_transmitted.cls 7 RX2 (TX2 0).2.1 (TX2 0).2.2.1 ∈ wsX2_transmitted := by decide +kernel
  refine lv_aload_n hx hb dX2_transmitted_0 rfl (lv_at hl 0 rfl) ?_
  refine gz (C := RX2) (T := TX2) (N := 7) (v := .ref (a 1)) B hz hinX2 0 rfl rfl 0 (by decide) lk7 rfl rfl dX2_transmitted_1 ?_
  refine lv_iconst (v := (nI 3)) hx hb dX2_transmitted_4 (by decide) ?_
  refine ildz (n := 624) (j := 3) (v := (s 3)) B hz 1 rfl (by omega) (by decide) rfl dX2_transmitted_5 ?_
  exact rz_i B hr hz dX2_transmitted_6 (by rfl) (by rfl)
theorem hd_X2_decoded : hdZ yX2_decoded 0 := by decide +kernel
set_option maxRecDepth 100000 in
set_option maxHeartbeats 4000000 in
theorem c_X2_decoded (l : Launch) (D : va_G) (cI cN : ClassId) (a : Nat → Nat) (s : Sz) (pst : Sz) (np : Nat) (er : Sz) (od : Sz) (rk : Sz) (hs : Int64) : Fn l D cI cN yX2_decoded wsX2_decoded 0 (mW cI a s pst np er od rk hs) [.ref (a 0)] (some (.int (s 4))) (mW cI a s pst np er od rk hs) := by
  refine Fn.of (cc := cX2_decoded) (nL := 1) (ret := (some .int)) (lv := [(0, .ref (a 0))]) (by decide +kernel) rfl (Nat.le_of_ble_eq_true rfl) rfl ?_
  intro p e s_ m args below meth c A B hr hA H locs ls hz hl
  have hx := B.1.1
  have hb := B.1.2.1
  have hinX2 : ∀ w ∈ u_ws RX2 TX2 7, w ∈ wsX2_decoded := by decide +kernel
  have lk7 : Cond.fieldLink yX2_decoded.cls 7 RX2 (TX2 0).2.1 (TX2 0).2.2.1 ∈ wsX2_decoded := by decide +kernel
  refine lv_aload_n hx hb dX2_decoded_0 rfl (lv_at hl 0 rfl) ?_
  refine gz (C := RX2) (T := TX2) (N := 7) (v := .ref (a 1)) B hz hinX2 0 rfl rfl 0 (by decide) lk7 rfl rfl dX2_decoded_1 ?_
  refine lv_iconst (v := (nI 4)) hx hb dX2_decoded_4 (by decide) ?_
  refine ildz (n := 624) (j := 4) (v := (s 4)) B hz 1 rfl (by omega) (by decide) rfl dX2_decoded_5 ?_
  exact rz_i B hr hz dX2_decoded_6 (by rfl) (by rfl)
theorem hd_X2_scan : hdZ yX2_scan 1 := by decide +kernel
set_option maxRecDepth 100000 in
set_option maxHeartbeats 4000000 in
theorem c_X2_scan (l : Launch) (D : va_G) (cI cN : ClassId) (a : Nat → Nat) (s : Sz) (pst : Sz) (np : Nat) (er : Sz) (od : Sz) (rk : Sz) (hs : Int64) (x : Int32) : Fn l D cI cN yX2_scan wsX2_scan 3 (mW cI a s pst np er od rk hs) [.ref (a 0), .int x] (some (.int (if fSt x = true then s (9 + tn x) else -2))) (mW cI a s pst np (if fSt x = true then er else erB er) od rk hs) := by
  refine Fn.of (cc := cX2_scan) (nL := 2) (ret := (some .int)) (lv := [(0, .ref (a 0)), (1, .int x)]) (by decide +kernel) rfl (Nat.le_of_ble_eq_true rfl) rfl ?_
  intro p e s_ m args below meth c A B hr hA H locs ls hz hl
  have hx := B.1.1
  have hb := B.1.2.1
  have hinX2 : ∀ w ∈ u_ws RX2 TX2 7, w ∈ wsX2_scan := by decide +kernel
  have lk7 : Cond.fieldLink yX2_scan.cls 7 RX2 (TX2 0).2.1 (TX2 0).2.2.1 ∈ wsX2_scan := by decide +kernel
  refine lv_iload_n hx hb dX2_scan_0 rfl (lv_at hl 1 rfl) ?_
  refine cS (k := 3) (As := [.int x]) (rest := []) (v := .int (b2i (fSt x))) B hz hA (c_X2_isStation l D cI cN x ) gX2_scan_X2_isStation rfl hd_X2_isStation (by decide) rfl hl.1 rfl (Nat.le_of_ble_eq_true rfl) dX2_scan_1 (fun H locs hz => ?_)
  refine lb_if_eq (tgt := 19) hx hb dX2_scan_4 (by decide) (fun c4 => ?_) (fun c4 => ?_)
  · refine lv_aload_n hx hb dX2_scan_19 rfl (lv_at hl 0 rfl) ?_
    refine lv_bipush (v := (-2)) hx hb dX2_scan_20 (by decide) ?_
    refine cV (C := RX2) (T := TX2) (N := 7) (ci := 2) (q0 := 0) (k := 3) (As := [.int (-2)]) (rest := []) (v := .int (-2)) (ws1 := (mW cI a s pst np (upd er (fIx (-2)) (er (fIx (-2)) + nI 1)) od rk hs)) B hz hA (c_X2_fail l D cI cN a s pst np er od rk hs (-2) (by first | exact Or.inl rfl | exact Or.inr rfl)) gX2_scan_X2_fail rfl rfl hd_X2_fail (by decide) rfl rfl rfl hl.1 rfl (Nat.le_of_ble_eq_true rfl) dX2_scan_22 (fun H locs hz => ?_)
    exact rz_i B hr hz dX2_scan_25 (by first | (simp [c4]; done) | (simp [c4, tn5 hf]; done)) (by first | (simp [c4]; done) | (simp [c4, erB]; done) | (simp [c4, erB, tn5 hf]; done))
  · obtain ⟨f, hf, rfl⟩ := fSt_nat c4
    refine lv_aload_n hx hb dX2_scan_7 rfl (lv_at hl 0 rfl) ?_
    refine gz (C := RX2) (T := TX2) (N := 7) (v := .ref (a 1)) B hz hinX2 0 rfl rfl 0 (by decide) lk7 rfl rfl dX2_scan_8 ?_
    refine lv_bipush (v := (nI 9)) hx hb dX2_scan_11 (by decide) ?_
    refine lv_iload_n hx hb dX2_scan_13 rfl (lv_at hl 1 rfl) ?_
    refine ln_add hx hb dX2_scan_14 ?_
    refine ildz (n := 624) (j := (9 + f)) (v := (s (9 + f))) B hz 1 rfl (by omega) (by decide) rfl dX2_scan_15 ?_
    refine lv_goto (tgt := 25) hx hb dX2_scan_16 (by decide) ?_
    exact rz_i B hr hz dX2_scan_25 (by first | (simp [c4]; done) | (simp [c4, tn5 hf]; done)) (by first | (simp [c4]; done) | (simp [c4, erB]; done) | (simp [c4, erB, tn5 hf]; done))
theorem hd_X2_link : hdZ yX2_link 1 := by decide +kernel
set_option maxRecDepth 100000 in
set_option maxHeartbeats 4000000 in
theorem c_X2_link (l : Launch) (D : va_G) (cI cN : ClassId) (a : Nat → Nat) (s : Sz) (pst : Sz) (np : Nat) (er : Sz) (od : Sz) (rk : Sz) (hs : Int64) (x : Int32) : Fn l D cI cN yX2_link wsX2_link 3 (mW cI a s pst np er od rk hs) [.ref (a 0), .int x] (some (.int (if fSt x = true then s (14 + tn x) else -2))) (mW cI a s pst np (if fSt x = true then er else erB er) od rk hs) := by
  refine Fn.of (cc := cX2_link) (nL := 2) (ret := (some .int)) (lv := [(0, .ref (a 0)), (1, .int x)]) (by decide +kernel) rfl (Nat.le_of_ble_eq_true rfl) rfl ?_
  intro p e s_ m args below meth c A B hr hA H locs ls hz hl
  have hx := B.1.1
  have hb := B.1.2.1
  have hinX2 : ∀ w ∈ u_ws RX2 TX2 7, w ∈ wsX2_link := by decide +kernel
  have lk7 : Cond.fieldLink yX2_link.cls 7 RX2 (TX2 0).2.1 (TX2 0).2.2.1 ∈ wsX2_link := by decide +kernel
  refine lv_iload_n hx hb dX2_link_0 rfl (lv_at hl 1 rfl) ?_
  refine cS (k := 3) (As := [.int x]) (rest := []) (v := .int (b2i (fSt x))) B hz hA (c_X2_isStation l D cI cN x ) gX2_link_X2_isStation rfl hd_X2_isStation (by decide) rfl hl.1 rfl (Nat.le_of_ble_eq_true rfl) dX2_link_1 (fun H locs hz => ?_)
  refine lb_if_eq (tgt := 19) hx hb dX2_link_4 (by decide) (fun c4 => ?_) (fun c4 => ?_)
  · refine lv_aload_n hx hb dX2_link_19 rfl (lv_at hl 0 rfl) ?_
    refine lv_bipush (v := (-2)) hx hb dX2_link_20 (by decide) ?_
    refine cV (C := RX2) (T := TX2) (N := 7) (ci := 2) (q0 := 0) (k := 3) (As := [.int (-2)]) (rest := []) (v := .int (-2)) (ws1 := (mW cI a s pst np (upd er (fIx (-2)) (er (fIx (-2)) + nI 1)) od rk hs)) B hz hA (c_X2_fail l D cI cN a s pst np er od rk hs (-2) (by first | exact Or.inl rfl | exact Or.inr rfl)) gX2_link_X2_fail rfl rfl hd_X2_fail (by decide) rfl rfl rfl hl.1 rfl (Nat.le_of_ble_eq_true rfl) dX2_link_22 (fun H locs hz => ?_)
    exact rz_i B hr hz dX2_link_25 (by first | (simp [c4]; done) | (simp [c4, tn5 hf]; done)) (by first | (simp [c4]; done) | (simp [c4, erB]; done) | (simp [c4, erB, tn5 hf]; done))
  · obtain ⟨f, hf, rfl⟩ := fSt_nat c4
    refine lv_aload_n hx hb dX2_link_7 rfl (lv_at hl 0 rfl) ?_
    refine gz (C := RX2) (T := TX2) (N := 7) (v := .ref (a 1)) B hz hinX2 0 rfl rfl 0 (by decide) lk7 rfl rfl dX2_link_8 ?_
    refine lv_bipush (v := (nI 14)) hx hb dX2_link_11 (by decide) ?_
    refine lv_iload_n hx hb dX2_link_13 rfl (lv_at hl 1 rfl) ?_
    refine ln_add hx hb dX2_link_14 ?_
    refine ildz (n := 624) (j := (14 + f)) (v := (s (14 + f))) B hz 1 rfl (by omega) (by decide) rfl dX2_link_15 ?_
    refine lv_goto (tgt := 25) hx hb dX2_link_16 (by decide) ?_
    exact rz_i B hr hz dX2_link_25 (by first | (simp [c4]; done) | (simp [c4, tn5 hf]; done)) (by first | (simp [c4]; done) | (simp [c4, erB]; done) | (simp [c4, erB, tn5 hf]; done))
theorem hd_X2_linkChannel : hdZ yX2_linkChannel 1 := by decide +kernel
set_option maxRecDepth 100000 in
set_option maxHeartbeats 4000000 in
theorem c_X2_linkChannel (l : Launch) (D : va_G) (cI cN : ClassId) (a : Nat → Nat) (s : Sz) (pst : Sz) (np : Nat) (er : Sz) (od : Sz) (rk : Sz) (hs : Int64) (x : Int32) : Fn l D cI cN yX2_linkChannel wsX2_linkChannel 3 (mW cI a s pst np er od rk hs) [.ref (a 0), .int x] (some (.int (if fSt x = true then s (19 + tn x) else -2))) (mW cI a s pst np (if fSt x = true then er else erB er) od rk hs) := by
  refine Fn.of (cc := cX2_linkChannel) (nL := 2) (ret := (some .int)) (lv := [(0, .ref (a 0)), (1, .int x)]) (by decide +kernel) rfl (Nat.le_of_ble_eq_true rfl) rfl ?_
  intro p e s_ m args below meth c A B hr hA H locs ls hz hl
  have hx := B.1.1
  have hb := B.1.2.1
  have hinX2 : ∀ w ∈ u_ws RX2 TX2 7, w ∈ wsX2_linkChannel := by decide +kernel
  have lk7 : Cond.fieldLink yX2_linkChannel.cls 7 RX2 (TX2 0).2.1 (TX2 0).2.2.1 ∈ wsX2_linkChannel := by decide +kernel
  refine lv_iload_n hx hb dX2_linkChannel_0 rfl (lv_at hl 1 rfl) ?_
  refine cS (k := 3) (As := [.int x]) (rest := []) (v := .int (b2i (fSt x))) B hz hA (c_X2_isStation l D cI cN x ) gX2_linkChannel_X2_isStation rfl hd_X2_isStation (by decide) rfl hl.1 rfl (Nat.le_of_ble_eq_true rfl) dX2_linkChannel_1 (fun H locs hz => ?_)
  refine lb_if_eq (tgt := 19) hx hb dX2_linkChannel_4 (by decide) (fun c4 => ?_) (fun c4 => ?_)
  · refine lv_aload_n hx hb dX2_linkChannel_19 rfl (lv_at hl 0 rfl) ?_
    refine lv_bipush (v := (-2)) hx hb dX2_linkChannel_20 (by decide) ?_
    refine cV (C := RX2) (T := TX2) (N := 7) (ci := 2) (q0 := 0) (k := 3) (As := [.int (-2)]) (rest := []) (v := .int (-2)) (ws1 := (mW cI a s pst np (upd er (fIx (-2)) (er (fIx (-2)) + nI 1)) od rk hs)) B hz hA (c_X2_fail l D cI cN a s pst np er od rk hs (-2) (by first | exact Or.inl rfl | exact Or.inr rfl)) gX2_linkChannel_X2_fail rfl rfl hd_X2_fail (by decide) rfl rfl rfl hl.1 rfl (Nat.le_of_ble_eq_true rfl) dX2_linkChannel_22 (fun H locs hz => ?_)
    exact rz_i B hr hz dX2_linkChannel_25 (by first | (simp [c4]; done) | (simp [c4, tn5 hf]; done)) (by first | (simp [c4]; done) | (simp [c4, erB]; done) | (simp [c4, erB, tn5 hf]; done))
  · obtain ⟨f, hf, rfl⟩ := fSt_nat c4
    refine lv_aload_n hx hb dX2_linkChannel_7 rfl (lv_at hl 0 rfl) ?_
    refine gz (C := RX2) (T := TX2) (N := 7) (v := .ref (a 1)) B hz hinX2 0 rfl rfl 0 (by decide) lk7 rfl rfl dX2_linkChannel_8 ?_
    refine lv_bipush (v := (nI 19)) hx hb dX2_linkChannel_11 (by decide) ?_
    refine lv_iload_n hx hb dX2_linkChannel_13 rfl (lv_at hl 1 rfl) ?_
    refine ln_add hx hb dX2_linkChannel_14 ?_
    refine ildz (n := 624) (j := (19 + f)) (v := (s (19 + f))) B hz 1 rfl (by omega) (by decide) rfl dX2_linkChannel_15 ?_
    refine lv_goto (tgt := 25) hx hb dX2_linkChannel_16 (by decide) ?_
    exact rz_i B hr hz dX2_linkChannel_25 (by first | (simp [c4]; done) | (simp [c4, tn5 hf]; done)) (by first | (simp [c4]; done) | (simp [c4, erB]; done) | (simp [c4, erB, tn5 hf]; done))
theorem hd_X2_listening : hdZ yX2_listening 1 := by decide +kernel
set_option maxRecDepth 100000 in
set_option maxHeartbeats 4000000 in
theorem c_X2_listening (l : Launch) (D : va_G) (cI cN : ClassId) (a : Nat → Nat) (s : Sz) (pst : Sz) (np : Nat) (er : Sz) (od : Sz) (rk : Sz) (hs : Int64) (x : Int32) (hI : IvS s) (hT : IvT s) : Fn l D cI cN yX2_listening wsX2_listening 3 (mW cI a s pst np er od rk hs) [.ref (a 0), .int x] (some (.int (if fSt x = true then (if fLk s (tn x) = true then -1 else nI (fLs (scn s (tn x)) (tmN s))) else -2))) (mW cI a s pst np (if fSt x = true then er else erB er) od rk hs) := by
  refine Fn.of (cc := cX2_listening) (nL := 2) (ret := (some .int)) (lv := [(0, .ref (a 0)), (1, .int x)]) (by decide +kernel) rfl (Nat.le_of_ble_eq_true rfl) rfl ?_
  intro p e s_ m args below meth c A B hr hA H locs ls hz hl
  have hx := B.1.1
  have hb := B.1.2.1
  have hinX2 : ∀ w ∈ u_ws RX2 TX2 7, w ∈ wsX2_listening := by decide +kernel
  have lk7 : Cond.fieldLink yX2_listening.cls 7 RX2 (TX2 0).2.1 (TX2 0).2.2.1 ∈ wsX2_listening := by decide +kernel
  refine lv_iload_n hx hb dX2_listening_0 rfl (lv_at hl 1 rfl) ?_
  refine cS (k := 3) (As := [.int x]) (rest := []) (v := .int (b2i (fSt x))) B hz hA (c_X2_isStation l D cI cN x ) gX2_listening_X2_isStation rfl hd_X2_isStation (by decide) rfl hl.1 rfl (Nat.le_of_ble_eq_true rfl) dX2_listening_1 (fun H locs hz => ?_)
  refine lb_if_ne (tgt := 16) hx hb dX2_listening_4 (by decide) (fun c4 => ?_) (fun c4 => ?_)
  · obtain ⟨f, hf, rfl⟩ := fSt_nat c4
    refine lv_aload_n hx hb dX2_listening_16 rfl (lv_at hl 0 rfl) ?_
    refine lv_iload_n hx hb dX2_listening_17 rfl (lv_at hl 1 rfl) ?_
    refine cV (C := RX2) (T := TX2) (N := 7) (ci := 2) (q0 := 0) (k := 3) (As := [.int (nI f)]) (rest := []) (v := .int (b2i (fLk s f))) (ws1 := (mW cI a s pst np er od rk hs)) B hz hA (c_X2_isLinked l D cI cN a s pst np er od rk hs f (hf)) gX2_listening_X2_isLinked rfl rfl hd_X2_isLinked (by decide) rfl rfl rfl hl.1 rfl (Nat.le_of_ble_eq_true rfl) dX2_listening_18 (fun H locs hz => ?_)
    refine lb_if_eq (tgt := 28) hx hb dX2_listening_21 (by decide) (fun c21 => ?_) (fun c21 => ?_)
    · refine lv_aload_n hx hb dX2_listening_28 rfl (lv_at hl 0 rfl) ?_
      refine lv_iload_n hx hb dX2_listening_29 rfl (lv_at hl 1 rfl) ?_
      refine lv_aload_n hx hb dX2_listening_30 rfl (lv_at hl 0 rfl) ?_
      refine gz (C := RX2) (T := TX2) (N := 7) (v := .ref (a 1)) B hz hinX2 0 rfl rfl 0 (by decide) lk7 rfl rfl dX2_listening_31 ?_
      refine lv_iconst (v := (nI 0)) hx hb dX2_listening_34 (by decide) ?_
      refine ildz (n := 624) (j := 0) (v := (s 0)) B hz 1 rfl (by omega) (by decide) rfl dX2_listening_35 ?_
      refine cvt (y := nI (tmN s)) (show IvT s by assumption).1 ?_
      refine cV (C := RX2) (T := TX2) (N := 7) (ci := 2) (q0 := 0) (k := 3) (As := [.int (nI f), .int (nI (tmN s))]) (rest := []) (v := .int (nI (fLs (scn s f) (tmN s)))) (ws1 := (mW cI a s pst np er od rk hs)) B hz hA (c_X2_listens l D cI cN a s pst np er od rk hs f (tmN s) (hf) (hI) (by have := hT.2; omega)) gX2_listening_X2_listens rfl rfl hd_X2_listens (by decide) rfl rfl rfl hl.1 rfl (Nat.le_of_ble_eq_true rfl) dX2_listening_36 (fun H locs hz => ?_)
      exact rz_i B hr hz dX2_listening_39 (by first | (simp [c4, c21]; done) | (simp [c4, c21, tn5 hf]; done)) (by first | (simp [c4, c21]; done) | (simp [c4, c21, erB]; done) | (simp [c4, c21, erB, tn5 hf]; done))
    · refine lv_iconst (v := (-1)) hx hb dX2_listening_24 (by decide) ?_
      refine lv_goto (tgt := 39) hx hb dX2_listening_25 (by decide) ?_
      exact rz_i B hr hz dX2_listening_39 (by first | (simp [c4, c21]; done) | (simp [c4, c21, tn5 hf]; done)) (by first | (simp [c4, c21]; done) | (simp [c4, c21, erB]; done) | (simp [c4, c21, erB, tn5 hf]; done))
  · refine lv_aload_n hx hb dX2_listening_7 rfl (lv_at hl 0 rfl) ?_
    refine lv_bipush (v := (-2)) hx hb dX2_listening_8 (by decide) ?_
    refine cV (C := RX2) (T := TX2) (N := 7) (ci := 2) (q0 := 0) (k := 3) (As := [.int (-2)]) (rest := []) (v := .int (-2)) (ws1 := (mW cI a s pst np (upd er (fIx (-2)) (er (fIx (-2)) + nI 1)) od rk hs)) B hz hA (c_X2_fail l D cI cN a s pst np er od rk hs (-2) (by first | exact Or.inl rfl | exact Or.inr rfl)) gX2_listening_X2_fail rfl rfl hd_X2_fail (by decide) rfl rfl rfl hl.1 rfl (Nat.le_of_ble_eq_true rfl) dX2_listening_10 (fun H locs hz => ?_)
    refine lv_goto (tgt := 39) hx hb dX2_listening_13 (by decide) ?_
    exact rz_i B hr hz dX2_listening_39 (by first | (simp [c4]; done) | (simp [c4, tn5 hf]; done)) (by first | (simp [c4]; done) | (simp [c4, erB]; done) | (simp [c4, erB, tn5 hf]; done))
theorem hd_X2_quality : hdZ yX2_quality 3 := by decide +kernel
set_option maxRecDepth 100000 in
set_option maxHeartbeats 4000000 in
theorem c_X2_quality (l : Launch) (D : va_G) (cI cN : ClassId) (a : Nat → Nat) (s : Sz) (pst : Sz) (np : Nat) (er : Sz) (od : Sz) (rk : Sz) (hs : Int64) (x : Int32) (y : Int32) (z : Int32) : Fn l D cI cN yX2_quality wsX2_quality 4 (mW cI a s pst np er od rk hs) [.ref (a 0), .int x, .int y, .int z] (some (.int (if fTh x y z = true then s (24 + fAt (tn x) (tn y) (tn z)) else -2))) (mW cI a s pst np (if fTh x y z = true then er else erB er) od rk hs) := by
  refine Fn.of (cc := cX2_quality) (nL := 4) (ret := (some .int)) (lv := [(0, .ref (a 0)), (1, .int x), (2, .int y), (3, .int z)]) (by decide +kernel) rfl (Nat.le_of_ble_eq_true rfl) rfl ?_
  intro p e s_ m args below meth c A B hr hA H locs ls hz hl
  have hx := B.1.1
  have hb := B.1.2.1
  have hinX2 : ∀ w ∈ u_ws RX2 TX2 7, w ∈ wsX2_quality := by decide +kernel
  have lk7 : Cond.fieldLink yX2_quality.cls 7 RX2 (TX2 0).2.1 (TX2 0).2.2.1 ∈ wsX2_quality := by decide +kernel
  refine lv_iload_n hx hb dX2_quality_0 rfl (lv_at hl 1 rfl) ?_
  refine lv_iload_n hx hb dX2_quality_1 rfl (lv_at hl 2 rfl) ?_
  refine lv_iload_n hx hb dX2_quality_2 rfl (lv_at hl 3 rfl) ?_
  refine cS (k := 4) (As := [.int x, .int y, .int z]) (rest := []) (v := .int (b2i (fTh x y z))) B hz hA (c_X2_isThere l D cI cN x y z ) gX2_quality_X2_isThere rfl hd_X2_isThere (by decide) rfl hl.1 rfl (Nat.le_of_ble_eq_true rfl) dX2_quality_3 (fun H locs hz => ?_)
  refine lb_if_eq (tgt := 26) hx hb dX2_quality_6 (by decide) (fun c6 => ?_) (fun c6 => ?_)
  · refine lv_aload_n hx hb dX2_quality_26 rfl (lv_at hl 0 rfl) ?_
    refine lv_bipush (v := (-2)) hx hb dX2_quality_27 (by decide) ?_
    refine cV (C := RX2) (T := TX2) (N := 7) (ci := 2) (q0 := 0) (k := 4) (As := [.int (-2)]) (rest := []) (v := .int (-2)) (ws1 := (mW cI a s pst np (upd er (fIx (-2)) (er (fIx (-2)) + nI 1)) od rk hs)) B hz hA (c_X2_fail l D cI cN a s pst np er od rk hs (-2) (by first | exact Or.inl rfl | exact Or.inr rfl)) gX2_quality_X2_fail rfl rfl hd_X2_fail (by decide) rfl rfl rfl hl.1 rfl (Nat.le_of_ble_eq_true rfl) dX2_quality_29 (fun H locs hz => ?_)
    exact rz_i B hr hz dX2_quality_32 (by first | (simp [c6]; done) | (simp [c6, tn5 hf, tn5 ht, tn8 hc]; done)) (by first | (simp [c6]; done) | (simp [c6, erB]; done) | (simp [c6, erB, tn5 hf, tn5 ht, tn8 hc]; done))
  · obtain ⟨f, t, ch, hf, ht, hc, hft, rfl, rfl, rfl⟩ := fTh_nat c6
    refine lv_aload_n hx hb dX2_quality_9 rfl (lv_at hl 0 rfl) ?_
    refine gz (C := RX2) (T := TX2) (N := 7) (v := .ref (a 1)) B hz hinX2 0 rfl rfl 0 (by decide) lk7 rfl rfl dX2_quality_10 ?_
    refine lv_bipush (v := (nI 24)) hx hb dX2_quality_13 (by decide) ?_
    refine lv_iload_n hx hb dX2_quality_15 rfl (lv_at hl 1 rfl) ?_
    refine lv_iload_n hx hb dX2_quality_16 rfl (lv_at hl 2 rfl) ?_
    refine lv_iload_n hx hb dX2_quality_17 rfl (lv_at hl 3 rfl) ?_
    refine cS (k := 4) (As := [.int (nI f), .int (nI t), .int (nI ch)]) (rest := [.int (nI 24), .ref (a 1)]) (v := .int (nI (fAt f t ch))) B hz hA (c_X2_at l D cI cN f t ch ) gX2_quality_X2_at rfl hd_X2_at (by decide) rfl hl.1 rfl (Nat.le_of_ble_eq_true rfl) dX2_quality_18 (fun H locs hz => ?_)
    refine ln_add hx hb dX2_quality_21 ?_
    refine ildz (n := 624) (j := (24 + (fAt f t ch))) (v := (s (24 + (fAt f t ch)))) B hz 1 rfl (by have hat1 := fAt_lt hf ht hc; have hat2 := fAt_lt ht hf hc; omega) (by decide) rfl dX2_quality_22 ?_
    refine lv_goto (tgt := 32) hx hb dX2_quality_23 (by decide) ?_
    exact rz_i B hr hz dX2_quality_32 (by first | (simp [c6]; done) | (simp [c6, tn5 hf, tn5 ht, tn8 hc]; done)) (by first | (simp [c6]; done) | (simp [c6, erB]; done) | (simp [c6, erB, tn5 hf, tn5 ht, tn8 hc]; done))
theorem hd_X2_score : hdZ yX2_score 3 := by decide +kernel
set_option maxRecDepth 100000 in
set_option maxHeartbeats 4000000 in
theorem c_X2_score (l : Launch) (D : va_G) (cI cN : ClassId) (a : Nat → Nat) (s : Sz) (pst : Sz) (np : Nat) (er : Sz) (od : Sz) (rk : Sz) (hs : Int64) (x : Int32) (y : Int32) (z : Int32) : Fn l D cI cN yX2_score wsX2_score 4 (mW cI a s pst np er od rk hs) [.ref (a 0), .int x, .int y, .int z] (some (.int (if fTh x y z = true then s (224 + fAt (tn x) (tn y) (tn z)) else -2))) (mW cI a s pst np (if fTh x y z = true then er else erB er) od rk hs) := by
  refine Fn.of (cc := cX2_score) (nL := 4) (ret := (some .int)) (lv := [(0, .ref (a 0)), (1, .int x), (2, .int y), (3, .int z)]) (by decide +kernel) rfl (Nat.le_of_ble_eq_true rfl) rfl ?_
  intro p e s_ m args below meth c A B hr hA H locs ls hz hl
  have hx := B.1.1
  have hb := B.1.2.1
  have hinX2 : ∀ w ∈ u_ws RX2 TX2 7, w ∈ wsX2_score := by decide +kernel
  have lk7 : Cond.fieldLink yX2_score.cls 7 RX2 (TX2 0).2.1 (TX2 0).2.2.1 ∈ wsX2_score := by decide +kernel
  refine lv_iload_n hx hb dX2_score_0 rfl (lv_at hl 1 rfl) ?_
  refine lv_iload_n hx hb dX2_score_1 rfl (lv_at hl 2 rfl) ?_
  refine lv_iload_n hx hb dX2_score_2 rfl (lv_at hl 3 rfl) ?_
  refine cS (k := 4) (As := [.int x, .int y, .int z]) (rest := []) (v := .int (b2i (fTh x y z))) B hz hA (c_X2_isThere l D cI cN x y z ) gX2_score_X2_isThere rfl hd_X2_isThere (by decide) rfl hl.1 rfl (Nat.le_of_ble_eq_true rfl) dX2_score_3 (fun H locs hz => ?_)
  refine lb_if_eq (tgt := 27) hx hb dX2_score_6 (by decide) (fun c6 => ?_) (fun c6 => ?_)
  · refine lv_aload_n hx hb dX2_score_27 rfl (lv_at hl 0 rfl) ?_
    refine lv_bipush (v := (-2)) hx hb dX2_score_28 (by decide) ?_
    refine cV (C := RX2) (T := TX2) (N := 7) (ci := 2) (q0 := 0) (k := 4) (As := [.int (-2)]) (rest := []) (v := .int (-2)) (ws1 := (mW cI a s pst np (upd er (fIx (-2)) (er (fIx (-2)) + nI 1)) od rk hs)) B hz hA (c_X2_fail l D cI cN a s pst np er od rk hs (-2) (by first | exact Or.inl rfl | exact Or.inr rfl)) gX2_score_X2_fail rfl rfl hd_X2_fail (by decide) rfl rfl rfl hl.1 rfl (Nat.le_of_ble_eq_true rfl) dX2_score_30 (fun H locs hz => ?_)
    exact rz_i B hr hz dX2_score_33 (by first | (simp [c6]; done) | (simp [c6, tn5 hf, tn5 ht, tn8 hc]; done)) (by first | (simp [c6]; done) | (simp [c6, erB]; done) | (simp [c6, erB, tn5 hf, tn5 ht, tn8 hc]; done))
  · obtain ⟨f, t, ch, hf, ht, hc, hft, rfl, rfl, rfl⟩ := fTh_nat c6
    refine lv_aload_n hx hb dX2_score_9 rfl (lv_at hl 0 rfl) ?_
    refine gz (C := RX2) (T := TX2) (N := 7) (v := .ref (a 1)) B hz hinX2 0 rfl rfl 0 (by decide) lk7 rfl rfl dX2_score_10 ?_
    refine lv_sipush (v := (nI 224)) hx hb dX2_score_13 (by decide) ?_
    refine lv_iload_n hx hb dX2_score_16 rfl (lv_at hl 1 rfl) ?_
    refine lv_iload_n hx hb dX2_score_17 rfl (lv_at hl 2 rfl) ?_
    refine lv_iload_n hx hb dX2_score_18 rfl (lv_at hl 3 rfl) ?_
    refine cS (k := 4) (As := [.int (nI f), .int (nI t), .int (nI ch)]) (rest := [.int (nI 224), .ref (a 1)]) (v := .int (nI (fAt f t ch))) B hz hA (c_X2_at l D cI cN f t ch ) gX2_score_X2_at rfl hd_X2_at (by decide) rfl hl.1 rfl (Nat.le_of_ble_eq_true rfl) dX2_score_19 (fun H locs hz => ?_)
    refine ln_add hx hb dX2_score_22 ?_
    refine ildz (n := 624) (j := (224 + (fAt f t ch))) (v := (s (224 + (fAt f t ch)))) B hz 1 rfl (by have hat1 := fAt_lt hf ht hc; have hat2 := fAt_lt ht hf hc; omega) (by decide) rfl dX2_score_23 ?_
    refine lv_goto (tgt := 33) hx hb dX2_score_24 (by decide) ?_
    exact rz_i B hr hz dX2_score_33 (by first | (simp [c6]; done) | (simp [c6, tn5 hf, tn5 ht, tn8 hc]; done)) (by first | (simp [c6]; done) | (simp [c6, erB]; done) | (simp [c6, erB, tn5 hf, tn5 ht, tn8 hc]; done))
theorem hd_X2_effective : hdZ yX2_effective 3 := by decide +kernel
set_option maxRecDepth 100000 in
set_option maxHeartbeats 4000000 in
theorem c_X2_effective (l : Launch) (D : va_G) (cI cN : ClassId) (a : Nat → Nat) (s : Sz) (pst : Sz) (np : Nat) (er : Sz) (od : Sz) (rk : Sz) (hs : Int64) (x : Int32) (y : Int32) (z : Int32) (hv : IvA s) : Fn l D cI cN yX2_effective wsX2_effective 4 (mW cI a s pst np er od rk hs) [.ref (a 0), .int x, .int y, .int z] (some (.int (if fTh x y z = true then fEf (tn x) (tn y) (tn z) s else -2))) (mW cI a s pst np (if fTh x y z = true then er else erB er) od rk hs) := by
  refine Fn.of (cc := cX2_effective) (nL := 4) (ret := (some .int)) (lv := [(0, .ref (a 0)), (1, .int x), (2, .int y), (3, .int z)]) (by decide +kernel) rfl (Nat.le_of_ble_eq_true rfl) rfl ?_
  intro p e s_ m args below meth c A B hr hA H locs ls hz hl
  have hx := B.1.1
  have hb := B.1.2.1
  refine lv_iload_n hx hb dX2_effective_0 rfl (lv_at hl 1 rfl) ?_
  refine lv_iload_n hx hb dX2_effective_1 rfl (lv_at hl 2 rfl) ?_
  refine lv_iload_n hx hb dX2_effective_2 rfl (lv_at hl 3 rfl) ?_
  refine cS (k := 4) (As := [.int x, .int y, .int z]) (rest := []) (v := .int (b2i (fTh x y z))) B hz hA (c_X2_isThere l D cI cN x y z ) gX2_effective_X2_isThere rfl hd_X2_isThere (by decide) rfl hl.1 rfl (Nat.le_of_ble_eq_true rfl) dX2_effective_3 (fun H locs hz => ?_)
  refine lb_if_eq (tgt := 19) hx hb dX2_effective_6 (by decide) (fun c6 => ?_) (fun c6 => ?_)
  · refine lv_aload_n hx hb dX2_effective_19 rfl (lv_at hl 0 rfl) ?_
    refine lv_bipush (v := (-2)) hx hb dX2_effective_20 (by decide) ?_
    refine cV (C := RX2) (T := TX2) (N := 7) (ci := 2) (q0 := 0) (k := 4) (As := [.int (-2)]) (rest := []) (v := .int (-2)) (ws1 := (mW cI a s pst np (upd er (fIx (-2)) (er (fIx (-2)) + nI 1)) od rk hs)) B hz hA (c_X2_fail l D cI cN a s pst np er od rk hs (-2) (by first | exact Or.inl rfl | exact Or.inr rfl)) gX2_effective_X2_fail rfl rfl hd_X2_fail (by decide) rfl rfl rfl hl.1 rfl (Nat.le_of_ble_eq_true rfl) dX2_effective_22 (fun H locs hz => ?_)
    exact rz_i B hr hz dX2_effective_25 (by first | (simp [c6]; done) | (simp [c6, tn5 hf, tn5 ht, tn8 hc]; done)) (by first | (simp [c6]; done) | (simp [c6, erB]; done) | (simp [c6, erB, tn5 hf, tn5 ht, tn8 hc]; done))
  · obtain ⟨f, t, ch, hf, ht, hc, hft, rfl, rfl, rfl⟩ := fTh_nat c6
    refine lv_aload_n hx hb dX2_effective_9 rfl (lv_at hl 0 rfl) ?_
    refine lv_iload_n hx hb dX2_effective_10 rfl (lv_at hl 1 rfl) ?_
    refine lv_iload_n hx hb dX2_effective_11 rfl (lv_at hl 2 rfl) ?_
    refine lv_iload_n hx hb dX2_effective_12 rfl (lv_at hl 3 rfl) ?_
    refine cV (C := RX2) (T := TX2) (N := 7) (ci := 2) (q0 := 0) (k := 4) (As := [.int (nI f), .int (nI t), .int (nI ch)]) (rest := []) (v := .int (fEf f t ch s)) (ws1 := (mW cI a s pst np er od rk hs)) B hz hA (c_X2_effectiveOf l D cI cN a s pst np er od rk hs f t ch (hf) (ht) (hc) (hv)) gX2_effective_X2_effectiveOf rfl rfl hd_X2_effectiveOf (by decide) rfl rfl rfl hl.1 rfl (Nat.le_of_ble_eq_true rfl) dX2_effective_13 (fun H locs hz => ?_)
    refine lv_goto (tgt := 25) hx hb dX2_effective_16 (by decide) ?_
    exact rz_i B hr hz dX2_effective_25 (by first | (simp [c6]; done) | (simp [c6, tn5 hf, tn5 ht, tn8 hc]; done)) (by first | (simp [c6]; done) | (simp [c6, erB]; done) | (simp [c6, erB, tn5 hf, tn5 ht, tn8 hc]; done))
theorem hd_X2_bestChannel : hdZ yX2_bestChannel 2 := by decide +kernel
set_option maxRecDepth 100000 in
set_option maxHeartbeats 4000000 in
theorem c_X2_bestChannel (l : Launch) (D : va_G) (cI cN : ClassId) (a : Nat → Nat) (s : Sz) (pst : Sz) (np : Nat) (er : Sz) (od : Sz) (rk : Sz) (hs : Int64) (x : Int32) (y : Int32) (hv : IvA s) : Fn l D cI cN yX2_bestChannel wsX2_bestChannel 3 (mW cI a s pst np er od rk hs) [.ref (a 0), .int x, .int y] (some (.int (if fPr x y = true then (if (fSc (tn x) (tn y) s od rk 8).1 = 0 then -1 else (fSc (tn x) (tn y) s od rk 8).2.1 0) else -2))) (mW cI a s pst np (if fPr x y = true then er else erB er) (if fPr x y = true then (fSc (tn x) (tn y) s od rk 8).2.1 else od) (if fPr x y = true then (fSc (tn x) (tn y) s od rk 8).2.2 else rk) hs) := by
  refine Fn.of (cc := cX2_bestChannel) (nL := 4) (ret := (some .int)) (lv := [(0, .ref (a 0)), (1, .int x), (2, .int y)]) (by decide +kernel) rfl (Nat.le_of_ble_eq_true rfl) rfl ?_
  intro p e s_ m args below meth c A B hr hA H locs ls hz hl
  have hx := B.1.1
  have hb := B.1.2.1
  have hinX2 : ∀ w ∈ u_ws RX2 TX2 7, w ∈ wsX2_bestChannel := by decide +kernel
  have lk19 : Cond.fieldLink yX2_bestChannel.cls 19 RX2 (TX2 4).2.1 (TX2 4).2.2.1 ∈ wsX2_bestChannel := by decide +kernel
  refine lv_iload_n hx hb dX2_bestChannel_0 rfl (lv_at hl 1 rfl) ?_
  refine lv_iload_n hx hb dX2_bestChannel_1 rfl (lv_at hl 2 rfl) ?_
  refine cS (k := 3) (As := [.int x, .int y]) (rest := []) (v := .int (b2i (fPr x y))) B hz hA (c_X2_arePair l D cI cN x y ) gX2_bestChannel_X2_arePair rfl hd_X2_arePair (by decide) rfl hl.1 rfl (Nat.le_of_ble_eq_true rfl) dX2_bestChannel_2 (fun H locs hz => ?_)
  refine lb_if_ne (tgt := 15) hx hb dX2_bestChannel_5 (by decide) (fun c5 => ?_) (fun c5 => ?_)
  · obtain ⟨f, t, hf, ht, hft, rfl, rfl⟩ := fPr_nat c5
    refine lv_aload_n hx hb dX2_bestChannel_15 rfl (lv_at hl 0 rfl) ?_
    refine lv_iload_n hx hb dX2_bestChannel_16 rfl (lv_at hl 1 rfl) ?_
    refine lv_iload_n hx hb dX2_bestChannel_17 rfl (lv_at hl 2 rfl) ?_
    refine cV (C := RX2) (T := TX2) (N := 7) (ci := 2) (q0 := 0) (k := 3) (As := [.int (nI f), .int (nI t)]) (rest := []) (v := .int (nI ((fSc f t s od rk 8).1))) (ws1 := (mW cI a s pst np er ((fSc f t s od rk 8).2.1) ((fSc f t s od rk 8).2.2) hs)) B hz hA (c_X2_sortChannels l D cI cN a s pst np er od rk hs f t (hf) (ht) (hv)) gX2_bestChannel_X2_sortChannels rfl rfl hd_X2_sortChannels (by decide) rfl rfl rfl hl.1 rfl (Nat.le_of_ble_eq_true rfl) dX2_bestChannel_18 (fun H locs hz => ?_)
    refine lv_istore_n (lv' := [(3, .int (nI ((fSc f t s od rk 8).1))), (0, .ref (a 0)), (1, .int (nI f)), (2, .int (nI t))]) hx hb dX2_bestChannel_21 rfl hl (by decide) rfl (fun ls hl => ?_)
    refine lv_iload_n hx hb dX2_bestChannel_22 rfl (lv_at hl 0 rfl) ?_
    refine ln_if_le (tgt := 35) hx hb dX2_bestChannel_23 (by decide) (by have := fSc_le f t s od rk 8; omega) (fun c23 => ?_) (fun c23 => ?_)
    · refine lv_iconst (v := (-1)) hx hb dX2_bestChannel_35 (by decide) ?_
      exact rz_i B hr hz dX2_bestChannel_36 (by first | (simp [c5, c23]; done) | (simp [c5, c23, tn5 hf, tn5 ht]; done)) (by first | (simp [c5, c23]; done) | (simp [c5, c23, erB]; done) | (simp [c5, c23, erB, tn5 hf, tn5 ht]; done))
    · refine lv_aload_n hx hb dX2_bestChannel_26 rfl (lv_at hl 1 rfl) ?_
      refine gz (C := RX2) (T := TX2) (N := 7) (v := .ref (a 4)) B hz hinX2 0 rfl rfl 4 (by decide) lk19 rfl rfl dX2_bestChannel_27 ?_
      refine lv_iconst (v := (nI 0)) hx hb dX2_bestChannel_30 (by decide) ?_
      refine ildz (n := 8) (j := 0) (v := (((fSc f t s od rk 8).2.1) 0)) B hz 4 rfl (by omega) (by decide) rfl dX2_bestChannel_31 ?_
      refine lv_goto (tgt := 36) hx hb dX2_bestChannel_32 (by decide) ?_
      exact rz_i B hr hz dX2_bestChannel_36 (by first | (simp [c5, c23]; done) | (simp [c5, c23, tn5 hf, tn5 ht]; done)) (by first | (simp [c5, c23]; done) | (simp [c5, c23, erB]; done) | (simp [c5, c23, erB, tn5 hf, tn5 ht]; done))
  · refine lv_aload_n hx hb dX2_bestChannel_8 rfl (lv_at hl 0 rfl) ?_
    refine lv_bipush (v := (-2)) hx hb dX2_bestChannel_9 (by decide) ?_
    refine cV (C := RX2) (T := TX2) (N := 7) (ci := 2) (q0 := 0) (k := 3) (As := [.int (-2)]) (rest := []) (v := .int (-2)) (ws1 := (mW cI a s pst np (upd er (fIx (-2)) (er (fIx (-2)) + nI 1)) od rk hs)) B hz hA (c_X2_fail l D cI cN a s pst np er od rk hs (-2) (by first | exact Or.inl rfl | exact Or.inr rfl)) gX2_bestChannel_X2_fail rfl rfl hd_X2_fail (by decide) rfl rfl rfl hl.1 rfl (Nat.le_of_ble_eq_true rfl) dX2_bestChannel_11 (fun H locs hz => ?_)
    exact rz_i B hr hz dX2_bestChannel_14 (by first | (simp [c5]; done) | (simp [c5, tn5 hf, tn5 ht]; done)) (by first | (simp [c5]; done) | (simp [c5, erB]; done) | (simp [c5, erB, tn5 hf, tn5 ht]; done))
theorem hd_X2_netChannel : hdZ yX2_netChannel 2 := by decide +kernel
set_option maxRecDepth 100000 in
set_option maxHeartbeats 4000000 in
theorem c_X2_netChannel (l : Launch) (D : va_G) (cI cN : ClassId) (a : Nat → Nat) (s : Sz) (pst : Sz) (np : Nat) (er : Sz) (od : Sz) (rk : Sz) (hs : Int64) (x : Int32) (y : Int32) (hv : IvA s) : Fn l D cI cN yX2_netChannel wsX2_netChannel 4 (mW cI a s pst np er od rk hs) [.ref (a 0), .int x, .int y] (some (.int (if fNet x y = true then oI (fFr (fun ch => fNs (nI 31) y (tn x) ch s 5) (s (9 + tn x)) 8) else -2))) (mW cI a s pst np (if fNet x y = true then er else erB er) od rk hs) := by
  refine Fn.of (cc := cX2_netChannel) (nL := 3) (ret := (some .int)) (lv := [(0, .ref (a 0)), (1, .int x), (2, .int y)]) (by decide +kernel) rfl (Nat.le_of_ble_eq_true rfl) rfl ?_
  intro p e s_ m args below meth c A B hr hA H locs ls hz hl
  have hx := B.1.1
  have hb := B.1.2.1
  refine lv_iload_n hx hb dX2_netChannel_0 rfl (lv_at hl 1 rfl) ?_
  refine lv_iload_n hx hb dX2_netChannel_1 rfl (lv_at hl 2 rfl) ?_
  refine cS (k := 4) (As := [.int x, .int y]) (rest := []) (v := .int (b2i (fNet x y))) B hz hA (c_X2_isNet l D cI cN x y ) gX2_netChannel_X2_isNet rfl hd_X2_isNet (by decide) rfl hl.1 rfl (Nat.le_of_ble_eq_true rfl) dX2_netChannel_2 (fun H locs hz => ?_)
  refine lb_if_eq (tgt := 17) hx hb dX2_netChannel_5 (by decide) (fun c5 => ?_) (fun c5 => ?_)
  · refine lv_aload_n hx hb dX2_netChannel_17 rfl (lv_at hl 0 rfl) ?_
    refine lv_bipush (v := (-2)) hx hb dX2_netChannel_18 (by decide) ?_
    refine cV (C := RX2) (T := TX2) (N := 7) (ci := 2) (q0 := 0) (k := 4) (As := [.int (-2)]) (rest := []) (v := .int (-2)) (ws1 := (mW cI a s pst np (upd er (fIx (-2)) (er (fIx (-2)) + nI 1)) od rk hs)) B hz hA (c_X2_fail l D cI cN a s pst np er od rk hs (-2) (by first | exact Or.inl rfl | exact Or.inr rfl)) gX2_netChannel_X2_fail rfl rfl hd_X2_fail (by decide) rfl rfl rfl hl.1 rfl (Nat.le_of_ble_eq_true rfl) dX2_netChannel_20 (fun H locs hz => ?_)
    exact rz_i B hr hz dX2_netChannel_23 (by first | (simp [c5]; done) | (simp [c5, tn5 hf]; done)) (by first | (simp [c5]; done) | (simp [c5, erB]; done) | (simp [c5, erB, tn5 hf]; done))
  · obtain ⟨f, tm, hf, htm1, htm2, hfm, rfl, rfl⟩ := fNet_nat c5
    refine lv_aload_n hx hb dX2_netChannel_8 rfl (lv_at hl 0 rfl) ?_
    refine lv_iload_n hx hb dX2_netChannel_9 rfl (lv_at hl 1 rfl) ?_
    refine lv_iload_n hx hb dX2_netChannel_10 rfl (lv_at hl 2 rfl) ?_
    refine cV (C := RX2) (T := TX2) (N := 7) (ci := 2) (q0 := 0) (k := 4) (As := [.int (nI f), .int (nI tm)]) (rest := []) (v := .int (oI (fFr (fun ch => fNs (nI 31) (nI tm) f ch s 5) (s (9 + f)) 8))) (ws1 := (mW cI a s pst np er od rk hs)) B hz hA (c_X2_netChannelOf l D cI cN a s pst np er od rk hs f (nI tm) (hf) (hv)) gX2_netChannel_X2_netChannelOf rfl rfl hd_X2_netChannelOf (by decide) rfl rfl rfl hl.1 rfl (Nat.le_of_ble_eq_true rfl) dX2_netChannel_11 (fun H locs hz => ?_)
    refine lv_goto (tgt := 23) hx hb dX2_netChannel_14 (by decide) ?_
    exact rz_i B hr hz dX2_netChannel_23 (by first | (simp [c5]; done) | (simp [c5, tn5 hf]; done)) (by first | (simp [c5]; done) | (simp [c5, erB]; done) | (simp [c5, erB, tn5 hf]; done))
theorem hd_X2_vote : hdZ yX2_vote 3 := by decide +kernel
set_option maxRecDepth 100000 in
set_option maxHeartbeats 4000000 in
theorem c_X2_vote (l : Launch) (D : va_G) (cI cN : ClassId) (a : Nat → Nat) (s : Sz) (pst : Sz) (np : Nat) (er : Sz) (od : Sz) (rk : Sz) (hs : Int64) (x : Int32) (y : Int32) (z : Int32) : Fn l D cI cN yX2_vote wsX2_vote 3 (mW cI a s pst np er od rk hs) [.ref (a 0), .int x, .int y, .int z] (some (.int (if (fWd x && (fWd y && fWd z)) = true then fMaj x y z else -2))) (mW cI a s pst np (if (fWd x && (fWd y && fWd z)) = true then er else erB er) od rk hs) := by
  refine Fn.of (cc := cX2_vote) (nL := 4) (ret := (some .int)) (lv := [(0, .ref (a 0)), (1, .int x), (2, .int y), (3, .int z)]) (by decide +kernel) rfl (Nat.le_of_ble_eq_true rfl) rfl ?_
  intro p e s_ m args below meth c A B hr hA H locs ls hz hl
  have hx := B.1.1
  have hb := B.1.2.1
  refine lv_iload_n hx hb dX2_vote_0 rfl (lv_at hl 1 rfl) ?_
  refine cS (k := 3) (As := [.int x]) (rest := []) (v := .int (b2i (fWd x))) B hz hA (c_X2_isWord l D cI cN x ) gX2_vote_X2_isWord rfl hd_X2_isWord (by decide) rfl hl.1 rfl (Nat.le_of_ble_eq_true rfl) dX2_vote_1 (fun H locs hz => ?_)
  refine lb_if_eq (tgt := 30) hx hb dX2_vote_4 (by decide) (fun c4 => ?_) (fun c4 => ?_)
  · refine lv_aload_n hx hb dX2_vote_30 rfl (lv_at hl 0 rfl) ?_
    refine lv_bipush (v := (-2)) hx hb dX2_vote_31 (by decide) ?_
    refine cV (C := RX2) (T := TX2) (N := 7) (ci := 2) (q0 := 0) (k := 3) (As := [.int (-2)]) (rest := []) (v := .int (-2)) (ws1 := (mW cI a s pst np (upd er (fIx (-2)) (er (fIx (-2)) + nI 1)) od rk hs)) B hz hA (c_X2_fail l D cI cN a s pst np er od rk hs (-2) (by first | exact Or.inl rfl | exact Or.inr rfl)) gX2_vote_X2_fail rfl rfl hd_X2_fail (by decide) rfl rfl rfl hl.1 rfl (Nat.le_of_ble_eq_true rfl) dX2_vote_33 (fun H locs hz => ?_)
    exact rz_i B hr hz dX2_vote_36 (by first | (simp [c4]; done) | (simp [c4]; done)) (by first | (simp [c4]; done) | (simp [c4, erB]; done) | (simp [c4, erB]; done))
  · refine lv_iload_n hx hb dX2_vote_7 rfl (lv_at hl 2 rfl) ?_
    refine cS (k := 3) (As := [.int y]) (rest := []) (v := .int (b2i (fWd y))) B hz hA (c_X2_isWord l D cI cN y ) gX2_vote_X2_isWord rfl hd_X2_isWord (by decide) rfl hl.1 rfl (Nat.le_of_ble_eq_true rfl) dX2_vote_8 (fun H locs hz => ?_)
    refine lb_if_eq (tgt := 30) hx hb dX2_vote_11 (by decide) (fun c11 => ?_) (fun c11 => ?_)
    · refine lv_aload_n hx hb dX2_vote_30 rfl (lv_at hl 0 rfl) ?_
      refine lv_bipush (v := (-2)) hx hb dX2_vote_31 (by decide) ?_
      refine cV (C := RX2) (T := TX2) (N := 7) (ci := 2) (q0 := 0) (k := 3) (As := [.int (-2)]) (rest := []) (v := .int (-2)) (ws1 := (mW cI a s pst np (upd er (fIx (-2)) (er (fIx (-2)) + nI 1)) od rk hs)) B hz hA (c_X2_fail l D cI cN a s pst np er od rk hs (-2) (by first | exact Or.inl rfl | exact Or.inr rfl)) gX2_vote_X2_fail rfl rfl hd_X2_fail (by decide) rfl rfl rfl hl.1 rfl (Nat.le_of_ble_eq_true rfl) dX2_vote_33 (fun H locs hz => ?_)
      exact rz_i B hr hz dX2_vote_36 (by first | (simp [c4, c11]; done) | (simp [c4, c11]; done)) (by first | (simp [c4, c11]; done) | (simp [c4, c11, erB]; done) | (simp [c4, c11, erB]; done))
    · refine lv_iload_n hx hb dX2_vote_14 rfl (lv_at hl 3 rfl) ?_
      refine cS (k := 3) (As := [.int z]) (rest := []) (v := .int (b2i (fWd z))) B hz hA (c_X2_isWord l D cI cN z ) gX2_vote_X2_isWord rfl hd_X2_isWord (by decide) rfl hl.1 rfl (Nat.le_of_ble_eq_true rfl) dX2_vote_15 (fun H locs hz => ?_)
      refine lb_if_eq (tgt := 30) hx hb dX2_vote_18 (by decide) (fun c18 => ?_) (fun c18 => ?_)
      · refine lv_aload_n hx hb dX2_vote_30 rfl (lv_at hl 0 rfl) ?_
        refine lv_bipush (v := (-2)) hx hb dX2_vote_31 (by decide) ?_
        refine cV (C := RX2) (T := TX2) (N := 7) (ci := 2) (q0 := 0) (k := 3) (As := [.int (-2)]) (rest := []) (v := .int (-2)) (ws1 := (mW cI a s pst np (upd er (fIx (-2)) (er (fIx (-2)) + nI 1)) od rk hs)) B hz hA (c_X2_fail l D cI cN a s pst np er od rk hs (-2) (by first | exact Or.inl rfl | exact Or.inr rfl)) gX2_vote_X2_fail rfl rfl hd_X2_fail (by decide) rfl rfl rfl hl.1 rfl (Nat.le_of_ble_eq_true rfl) dX2_vote_33 (fun H locs hz => ?_)
        exact rz_i B hr hz dX2_vote_36 (by first | (simp [c4, c11, c18]; done) | (simp [c4, c11, c18]; done)) (by first | (simp [c4, c11, c18]; done) | (simp [c4, c11, c18, erB]; done) | (simp [c4, c11, c18, erB]; done))
      · refine lv_iload_n hx hb dX2_vote_21 rfl (lv_at hl 1 rfl) ?_
        refine lv_iload_n hx hb dX2_vote_22 rfl (lv_at hl 2 rfl) ?_
        refine lv_iload_n hx hb dX2_vote_23 rfl (lv_at hl 3 rfl) ?_
        refine cS (k := 3) (As := [.int x, .int y, .int z]) (rest := []) (v := .int (fMaj x y z)) B hz hA (c_X2_majority l D cI cN x y z ) gX2_vote_X2_majority rfl hd_X2_majority (by decide) rfl hl.1 rfl (Nat.le_of_ble_eq_true rfl) dX2_vote_24 (fun H locs hz => ?_)
        refine lv_goto (tgt := 36) hx hb dX2_vote_27 (by decide) ?_
        exact rz_i B hr hz dX2_vote_36 (by first | (simp [c4, c11, c18]; done) | (simp [c4, c11, c18]; done)) (by first | (simp [c4, c11, c18]; done) | (simp [c4, c11, c18, erB]; done) | (simp [c4, c11, c18, erB]; done))
theorem hd_X2_errorCount : hdZ yX2_errorCount 1 := by decide +kernel
set_option maxRecDepth 100000 in
set_option maxHeartbeats 4000000 in
theorem c_X2_errorCount (l : Launch) (D : va_G) (cI cN : ClassId) (a : Nat → Nat) (s : Sz) (pst : Sz) (np : Nat) (er : Sz) (od : Sz) (rk : Sz) (hs : Int64) (x : Int32) : Fn l D cI cN yX2_errorCount wsX2_errorCount 3 (mW cI a s pst np er od rk hs) [.ref (a 0), .int x] (some (.int (if fIn x (nI 0) (nI 1) = true then er (tn x) else -2))) (mW cI a s pst np (if fIn x (nI 0) (nI 1) = true then er else erB er) od rk hs) := by
  refine Fn.of (cc := cX2_errorCount) (nL := 2) (ret := (some .int)) (lv := [(0, .ref (a 0)), (1, .int x)]) (by decide +kernel) rfl (Nat.le_of_ble_eq_true rfl) rfl ?_
  intro p e s_ m args below meth c A B hr hA H locs ls hz hl
  have hx := B.1.1
  have hb := B.1.2.1
  have hinX2 : ∀ w ∈ u_ws RX2 TX2 7, w ∈ wsX2_errorCount := by decide +kernel
  have lk16 : Cond.fieldLink yX2_errorCount.cls 16 RX2 (TX2 3).2.1 (TX2 3).2.2.1 ∈ wsX2_errorCount := by decide +kernel
  refine lv_iload_n hx hb dX2_errorCount_0 rfl (lv_at hl 1 rfl) ?_
  refine lv_iconst (v := (nI 0)) hx hb dX2_errorCount_1 (by decide) ?_
  refine lv_iconst (v := (nI 1)) hx hb dX2_errorCount_2 (by decide) ?_
  refine cS (k := 3) (As := [.int x, .int (nI 0), .int (nI 1)]) (rest := []) (v := .int (b2i (fIn x (nI 0) (nI 1)))) B hz hA (c_X2_in l D cI cN x (nI 0) (nI 1) ) gX2_errorCount_X2_in rfl hd_X2_in (by decide) rfl hl.1 rfl (Nat.le_of_ble_eq_true rfl) dX2_errorCount_3 (fun H locs hz => ?_)
  refine lb_if_eq (tgt := 18) hx hb dX2_errorCount_6 (by decide) (fun c6 => ?_) (fun c6 => ?_)
  · refine lv_aload_n hx hb dX2_errorCount_18 rfl (lv_at hl 0 rfl) ?_
    refine lv_bipush (v := (-2)) hx hb dX2_errorCount_19 (by decide) ?_
    refine cV (C := RX2) (T := TX2) (N := 7) (ci := 2) (q0 := 0) (k := 3) (As := [.int (-2)]) (rest := []) (v := .int (-2)) (ws1 := (mW cI a s pst np (upd er (fIx (-2)) (er (fIx (-2)) + nI 1)) od rk hs)) B hz hA (c_X2_fail l D cI cN a s pst np er od rk hs (-2) (by first | exact Or.inl rfl | exact Or.inr rfl)) gX2_errorCount_X2_fail rfl rfl hd_X2_fail (by decide) rfl rfl rfl hl.1 rfl (Nat.le_of_ble_eq_true rfl) dX2_errorCount_21 (fun H locs hz => ?_)
    exact rz_i B hr hz dX2_errorCount_24 (by first | (simp [c6]; done) | (simp [c6, show tn (nI j) = j from nI_clamp (by omega)]; done)) (by first | (simp [c6]; done) | (simp [c6, erB]; done) | (simp [c6, erB, show tn (nI j) = j from nI_clamp (by omega)]; done))
  · obtain ⟨j, hj0, hj1, rfl⟩ := fIn_nat (by decide) c6 (by decide)
    refine lv_aload_n hx hb dX2_errorCount_9 rfl (lv_at hl 0 rfl) ?_
    refine gz (C := RX2) (T := TX2) (N := 7) (v := .ref (a 3)) B hz hinX2 0 rfl rfl 3 (by decide) lk16 rfl rfl dX2_errorCount_10 ?_
    refine lv_iload_n hx hb dX2_errorCount_13 rfl (lv_at hl 1 rfl) ?_
    refine ildz (n := 2) (j := j) (v := (er j)) B hz 3 rfl (by omega) (by decide) rfl dX2_errorCount_14 ?_
    refine lv_goto (tgt := 24) hx hb dX2_errorCount_15 (by decide) ?_
    exact rz_i B hr hz dX2_errorCount_24 (by first | (simp [c6]; done) | (simp [c6, show tn (nI j) = j from nI_clamp (by omega)]; done)) (by first | (simp [c6]; done) | (simp [c6, erB]; done) | (simp [c6, erB, show tn (nI j) = j from nI_clamp (by omega)]; done))
theorem hd_X2_undo : hdZ yX2_undo 0 := by decide +kernel
set_option maxRecDepth 100000 in
set_option maxHeartbeats 4000000 in
theorem c_X2_undo (l : Launch) (D : va_G) (cI cN : ClassId) (a : Nat → Nat) (s : Sz) (pst : Sz) (np : Nat) (er : Sz) (od : Sz) (rk : Sz) (hs : Int64) (hnp : np ≤ 4) : Fn l D cI cN yX2_undo wsX2_undo 1 (mW cI a s pst np er od rk hs) [.ref (a 0)] (some (.int (if np = 0 then -3 else nI (np - 1)))) (mW cI a (if np = 0 then s else fCy (fun k => pst (624 * (np - 1) + k)) 0 s 624) pst (np - 1) (if np = 0 then upd er (fIx (-3)) (er (fIx (-3)) + nI 1) else er) od rk hs) := by
  refine Fn.of (cc := cX2_undo) (nL := 2) (ret := (some .int)) (lv := [(0, .ref (a 0))]) (by decide +kernel) rfl (Nat.le_of_ble_eq_true rfl) rfl ?_
  intro p e s_ m args below meth c A B hr hA H locs ls hz hl
  have hx := B.1.1
  have hb := B.1.2.1
  have hinX2 : ∀ w ∈ u_ws RX2 TX2 7, w ∈ wsX2_undo := by decide +kernel
  have lk7 : Cond.fieldLink yX2_undo.cls 7 RX2 (TX2 0).2.1 (TX2 0).2.2.1 ∈ wsX2_undo := by decide +kernel
  have lk13 : Cond.fieldLink yX2_undo.cls 13 RX2 (TX2 1).2.1 (TX2 1).2.2.1 ∈ wsX2_undo := by decide +kernel
  have lk25 : Cond.fieldLink yX2_undo.cls 25 RX2 (TX2 2).2.1 (TX2 2).2.2.1 ∈ wsX2_undo := by decide +kernel
  refine lv_aload_n hx hb dX2_undo_0 rfl (lv_at hl 0 rfl) ?_
  refine gz (C := RX2) (T := TX2) (N := 7) (v := .int (nI np)) B hz hinX2 0 rfl rfl 2 (by decide) lk25 rfl rfl dX2_undo_1 ?_
  refine ln_if_ne (tgt := 14) hx hb dX2_undo_4 (by decide) (by omega) (fun c4 => ?_) (fun c4 => ?_)
  · refine lv_aload_n hx hb dX2_undo_14 rfl (lv_at hl 0 rfl) ?_
    refine lv_dup hx hb dX2_undo_15 rfl ?_
    refine gz (C := RX2) (T := TX2) (N := 7) (v := .int (nI np)) B hz hinX2 0 rfl rfl 2 (by decide) lk25 rfl rfl dX2_undo_16 ?_
    refine lv_iconst (v := (nI 1)) hx hb dX2_undo_19 (by decide) ?_
    refine lv_isub hx hb dX2_undo_20 ?_
    refine cvt (y := nI (np - 1)) (pk_sub (by omega)) ?_
    refine pz (C := RX2) (T := TX2) (N := 7) (ty := .int) (ws1 := (mW cI a s pst (np - 1) er od rk hs)) B hz hinX2 tyX2_ok nmX2 0 rfl rfl 2 (by decide) lk25 rfl rfl (by decide +kernel) rfl rfl (Nat.le_of_ble_eq_true rfl) rfl dX2_undo_21 (fun H locs hz => ?_)
    refine lv_iconst (v := (nI 0)) hx hb dX2_undo_24 (by decide) ?_
    refine lv_istore_n (lv' := [(1, .int (nI 0)), (0, .ref (a 0))]) hx hb dX2_undo_25 rfl hl (by decide) rfl (fun ls hl => ?_)
    have LP26 : ∀ (n_LP26 : Nat) (i : Nat), (i ≤ 624) → 624 - i < n_LP26 → ∀ (H : Heap) (locs : List Loc) (ls : Array Slot), Hz D A s_.heap H locs (mW cI a (fCy (fun k => pst (624 * (np - 1) + k)) 0 s i) pst (np - 1) er od rk hs) → lv_has ls 2 [(0, .ref (a 0)), (1, .int (nI i))] → Wz p l e 1 s_ m args below meth c D A (some (.int (if np = 0 then -3 else nI (np - 1)))) (mW cI a (if np = 0 then s else fCy (fun k => pst (624 * (np - 1) + k)) 0 s 624) pst (np - 1) (if np = 0 then upd er (fIx (-3)) (er (fIx (-3)) + nI 1) else er) od rk hs) H locs (F0 m 26 ls []) := by
      intro n_LP26
      induction n_LP26 with
      | zero => intro i hi hm; exact absurd hm (Nat.not_lt_zero _)
      | succ n_LP26 ih_LP26 =>
        intro i hi hm H locs ls hz hl
        refine lv_iload_n hx hb dX2_undo_26 rfl (lv_at hl 1 rfl) ?_
        refine lv_sipush (v := (nI 624)) hx hb dX2_undo_27 (by decide) ?_
        refine ln_icmp_ge (tgt := 60) hx hb dX2_undo_30 (by decide) (by constructor <;> omega) (fun c30 => ?_) (fun c30 => ?_)
        · refine lv_aload_n hx hb dX2_undo_60 rfl (lv_at hl 0 rfl) ?_
          refine gz (C := RX2) (T := TX2) (N := 7) (v := .int (nI (np - 1))) B hz hinX2 0 rfl rfl 2 (by decide) lk25 rfl rfl dX2_undo_61 ?_
          exact rz_i B hr hz dX2_undo_64 (by first | rw [if_pos c4] | rw [if_neg c4]) (by first | (rw [if_pos c4, if_pos c4, show np - 1 = np by omega]; done) | (rw [if_neg c4, if_neg c4]; obtain rfl : i = 624 := (by omega); rfl))
        · refine lv_aload_n hx hb dX2_undo_33 rfl (lv_at hl 0 rfl) ?_
          refine gz (C := RX2) (T := TX2) (N := 7) (v := .ref (a 1)) B hz hinX2 0 rfl rfl 0 (by decide) lk7 rfl rfl dX2_undo_34 ?_
          refine lv_iload_n hx hb dX2_undo_37 rfl (lv_at hl 1 rfl) ?_
          refine lv_aload_n hx hb dX2_undo_38 rfl (lv_at hl 0 rfl) ?_
          refine gz (C := RX2) (T := TX2) (N := 7) (v := .ref (a 2)) B hz hinX2 0 rfl rfl 1 (by decide) lk13 rfl rfl dX2_undo_39 ?_
          refine lv_sipush (v := (nI 624)) hx hb dX2_undo_42 (by decide) ?_
          refine lv_aload_n hx hb dX2_undo_45 rfl (lv_at hl 0 rfl) ?_
          refine gz (C := RX2) (T := TX2) (N := 7) (v := .int (nI (np - 1))) B hz hinX2 0 rfl rfl 2 (by decide) lk25 rfl rfl dX2_undo_46 ?_
          refine ln_mul hx hb dX2_undo_49 ?_
          refine lv_iload_n hx hb dX2_undo_50 rfl (lv_at hl 1 rfl) ?_
          refine ln_add hx hb dX2_undo_51 ?_
          refine ildz (n := 2496) (j := ((624 * (np - 1)) + i)) (v := (pst ((624 * (np - 1)) + i))) B hz 2 rfl (by omega) (by decide) rfl dX2_undo_52 ?_
          refine istz (n := 624) (j := i) (ws1 := (mW cI a (upd (fCy (fun k => pst (624 * (np - 1) + k)) 0 s i) i (pst ((624 * (np - 1)) + i))) pst (np - 1) er od rk hs)) B hz 1 rfl (by omega) (by decide) rfl dX2_undo_53 (fun H locs hz => ?_)
          refine lv_iinc (v := nI (i + 1)) (lv' := [(1, .int (nI (i + 1))), (0, .ref (a 0))]) hx hb dX2_undo_54 hl (k := 1) rfl (nI_add i 1) (by decide) rfl (fun ls hl => ?_)
          refine lv_goto (tgt := 26) hx hb dX2_undo_57 (by decide) ?_
          exact ih_LP26 (i + 1) (by omega) (by omega) H locs ls (hz.cast (by rw [← fCy_s0])) (lv_cast (lv_sub hl [1, 0] (l' := [(0, .ref (a 0)), (1, .int (nI (i + 1)))]) rfl) (by rfl))
    exact LP26 _ 0 (by omega) (Nat.lt_succ_self _) H locs ls (hz.cast (by rw [fCy_0])) (lv_cast (lv_sub hl [1, 0] (l' := [(0, .ref (a 0)), (1, .int (nI 0))]) rfl) (by rfl))
  · refine lv_aload_n hx hb dX2_undo_7 rfl (lv_at hl 0 rfl) ?_
    refine lv_bipush (v := (-3)) hx hb dX2_undo_8 (by decide) ?_
    refine cV (C := RX2) (T := TX2) (N := 7) (ci := 2) (q0 := 0) (k := 1) (As := [.int (-3)]) (rest := []) (v := .int (-3)) (ws1 := (mW cI a s pst np (upd er (fIx (-3)) (er (fIx (-3)) + nI 1)) od rk hs)) B hz hA (c_X2_fail l D cI cN a s pst np er od rk hs (-3) (by first | exact Or.inl rfl | exact Or.inr rfl)) gX2_undo_X2_fail rfl rfl hd_X2_fail (by decide) rfl rfl rfl hl.1 rfl (Nat.le_of_ble_eq_true rfl) dX2_undo_10 (fun H locs hz => ?_)
    exact rz_i B hr hz dX2_undo_13 (by first | rw [if_pos c4] | rw [if_neg c4]) (by first | (rw [if_pos c4, if_pos c4, show np - 1 = np by omega]; done) | (rw [if_neg c4, if_neg c4]; obtain rfl : i = 624 := (by omega); rfl))
theorem hd_X2_digest : hdZ yX2_digest 0 := by decide +kernel
set_option maxRecDepth 100000 in
set_option maxHeartbeats 4000000 in
theorem c_X2_digest (l : Launch) (D : va_G) (cI cN : ClassId) (a : Nat → Nat) (s : Sz) (pst : Sz) (np : Nat) (er : Sz) (od : Sz) (rk : Sz) (hs : Int64) (hv : IvA s) : Fn l D cI cN yX2_digest wsX2_digest 2 (mW cI a s pst np er od rk hs) [.ref (a 0)] (some (.long (fDg (er 0) (er 1) np s))) (mW cI a s pst np er od rk (fDg (er 0) (er 1) np s)) := by
  refine Fn.of (cc := cX2_digest) (nL := 4) (ret := (some .long)) (lv := [(0, .ref (a 0))]) (by decide +kernel) rfl (Nat.le_of_ble_eq_true rfl) rfl ?_
  intro p e s_ m args below meth c A B hr hA H locs ls hz hl
  have hx := B.1.1
  have hb := B.1.2.1
  have hinX2 : ∀ w ∈ u_ws RX2 TX2 7, w ∈ wsX2_digest := by decide +kernel
  have lk7 : Cond.fieldLink yX2_digest.cls 7 RX2 (TX2 0).2.1 (TX2 0).2.2.1 ∈ wsX2_digest := by decide +kernel
  have lk16 : Cond.fieldLink yX2_digest.cls 16 RX2 (TX2 3).2.1 (TX2 3).2.2.1 ∈ wsX2_digest := by decide +kernel
  have lk25 : Cond.fieldLink yX2_digest.cls 25 RX2 (TX2 2).2.1 (TX2 2).2.2.1 ∈ wsX2_digest := by decide +kernel
  have lk130 : Cond.fieldLink yX2_digest.cls 130 RX2 (TX2 6).2.1 (TX2 6).2.2.1 ∈ wsX2_digest := by decide +kernel
  refine lv_aload_n hx hb dX2_digest_0 rfl (lv_at hl 0 rfl) ?_
  refine ldc2z (v := 12164) B (by decide +kernel) dX2_digest_1 ?_
  refine pz (C := RX2) (T := TX2) (N := 7) (ty := .long) (ws1 := (mW cI a s pst np er od rk 12164)) B hz hinX2 tyX2_ok nmX2 0 rfl rfl 6 (by decide) lk130 rfl rfl (by decide +kernel) rfl rfl (Nat.le_of_ble_eq_true rfl) rfl dX2_digest_4 (fun H locs hz => ?_)
  refine lv_aload_n hx hb dX2_digest_7 rfl (lv_at hl 0 rfl) ?_
  refine lv_aload_n hx hb dX2_digest_8 rfl (lv_at hl 0 rfl) ?_
  refine gz (C := RX2) (T := TX2) (N := 7) (v := .ref (a 3)) B hz hinX2 0 rfl rfl 3 (by decide) lk16 rfl rfl dX2_digest_9 ?_
  refine lv_iconst (v := (nI 0)) hx hb dX2_digest_12 (by decide) ?_
  refine ildz (n := 2) (j := 0) (v := (er 0)) B hz 3 rfl (by omega) (by decide) rfl dX2_digest_13 ?_
  refine cVv (C := RX2) (T := TX2) (N := 7) (ci := 2) (q0 := 0) (k := 2) (As := [.int (er 0)]) (rest := []) (ws1 := (mW cI a s pst np er od rk (31 * 12164 + (er 0).toInt64))) B hz hA (c_X2_add l D cI cN a s pst np er od rk 12164 (er 0) ) gX2_digest_X2_add rfl rfl hd_X2_add (by decide) rfl rfl rfl hl.1 rfl (Nat.le_of_ble_eq_true rfl) dX2_digest_14 (fun H locs hz => ?_)
  refine lv_aload_n hx hb dX2_digest_17 rfl (lv_at hl 0 rfl) ?_
  refine lv_aload_n hx hb dX2_digest_18 rfl (lv_at hl 0 rfl) ?_
  refine gz (C := RX2) (T := TX2) (N := 7) (v := .ref (a 3)) B hz hinX2 0 rfl rfl 3 (by decide) lk16 rfl rfl dX2_digest_19 ?_
  refine lv_iconst (v := (nI 1)) hx hb dX2_digest_22 (by decide) ?_
  refine ildz (n := 2) (j := 1) (v := (er 1)) B hz 3 rfl (by omega) (by decide) rfl dX2_digest_23 ?_
  refine cVv (C := RX2) (T := TX2) (N := 7) (ci := 2) (q0 := 0) (k := 2) (As := [.int (er 1)]) (rest := []) (ws1 := (mW cI a s pst np er od rk (31 * (31 * 12164 + (er 0).toInt64) + (er 1).toInt64))) B hz hA (c_X2_add l D cI cN a s pst np er od rk (31 * 12164 + (er 0).toInt64) (er 1) ) gX2_digest_X2_add rfl rfl hd_X2_add (by decide) rfl rfl rfl hl.1 rfl (Nat.le_of_ble_eq_true rfl) dX2_digest_24 (fun H locs hz => ?_)
  refine lv_aload_n hx hb dX2_digest_27 rfl (lv_at hl 0 rfl) ?_
  refine lv_aload_n hx hb dX2_digest_28 rfl (lv_at hl 0 rfl) ?_
  refine gz (C := RX2) (T := TX2) (N := 7) (v := .int (nI np)) B hz hinX2 0 rfl rfl 2 (by decide) lk25 rfl rfl dX2_digest_29 ?_
  refine cVv (C := RX2) (T := TX2) (N := 7) (ci := 2) (q0 := 0) (k := 2) (As := [.int (nI np)]) (rest := []) (ws1 := (mW cI a s pst np er od rk (31 * (31 * (31 * 12164 + (er 0).toInt64) + (er 1).toInt64) + (nI np).toInt64))) B hz hA (c_X2_add l D cI cN a s pst np er od rk (31 * (31 * 12164 + (er 0).toInt64) + (er 1).toInt64) (nI np) ) gX2_digest_X2_add rfl rfl hd_X2_add (by decide) rfl rfl rfl hl.1 rfl (Nat.le_of_ble_eq_true rfl) dX2_digest_32 (fun H locs hz => ?_)
  refine lv_aload_n hx hb dX2_digest_35 rfl (lv_at hl 0 rfl) ?_
  refine lv_aload_n hx hb dX2_digest_36 rfl (lv_at hl 0 rfl) ?_
  refine gz (C := RX2) (T := TX2) (N := 7) (v := .ref (a 1)) B hz hinX2 0 rfl rfl 0 (by decide) lk7 rfl rfl dX2_digest_37 ?_
  refine lv_iconst (v := (nI 0)) hx hb dX2_digest_40 (by decide) ?_
  refine ildz (n := 624) (j := 0) (v := (s 0)) B hz 1 rfl (by omega) (by decide) rfl dX2_digest_41 ?_
  refine cVv (C := RX2) (T := TX2) (N := 7) (ci := 2) (q0 := 0) (k := 2) (As := [.int (s 0)]) (rest := []) (ws1 := (mW cI a s pst np er od rk (31 * (31 * (31 * (31 * 12164 + (er 0).toInt64) + (er 1).toInt64) + (nI np).toInt64) + (s 0).toInt64))) B hz hA (c_X2_add l D cI cN a s pst np er od rk (31 * (31 * (31 * 12164 + (er 0).toInt64) + (er 1).toInt64) + (nI np).toInt64) (s 0) ) gX2_digest_X2_add rfl rfl hd_X2_add (by decide) rfl rfl rfl hl.1 rfl (Nat.le_of_ble_eq_true rfl) dX2_digest_42 (fun H locs hz => ?_)
  refine lv_aload_n hx hb dX2_digest_45 rfl (lv_at hl 0 rfl) ?_
  refine lv_aload_n hx hb dX2_digest_46 rfl (lv_at hl 0 rfl) ?_
  refine gz (C := RX2) (T := TX2) (N := 7) (v := .ref (a 1)) B hz hinX2 0 rfl rfl 0 (by decide) lk7 rfl rfl dX2_digest_47 ?_
  refine lv_iconst (v := (nI 2)) hx hb dX2_digest_50 (by decide) ?_
  refine ildz (n := 624) (j := 2) (v := (s 2)) B hz 1 rfl (by omega) (by decide) rfl dX2_digest_51 ?_
  refine cVv (C := RX2) (T := TX2) (N := 7) (ci := 2) (q0 := 0) (k := 2) (As := [.int (s 2)]) (rest := []) (ws1 := (mW cI a s pst np er od rk (31 * (31 * (31 * (31 * (31 * 12164 + (er 0).toInt64) + (er 1).toInt64) + (nI np).toInt64) + (s 0).toInt64) + (s 2).toInt64))) B hz hA (c_X2_add l D cI cN a s pst np er od rk (31 * (31 * (31 * (31 * 12164 + (er 0).toInt64) + (er 1).toInt64) + (nI np).toInt64) + (s 0).toInt64) (s 2) ) gX2_digest_X2_add rfl rfl hd_X2_add (by decide) rfl rfl rfl hl.1 rfl (Nat.le_of_ble_eq_true rfl) dX2_digest_52 (fun H locs hz => ?_)
  refine lv_aload_n hx hb dX2_digest_55 rfl (lv_at hl 0 rfl) ?_
  refine lv_aload_n hx hb dX2_digest_56 rfl (lv_at hl 0 rfl) ?_
  refine gz (C := RX2) (T := TX2) (N := 7) (v := .ref (a 1)) B hz hinX2 0 rfl rfl 0 (by decide) lk7 rfl rfl dX2_digest_57 ?_
  refine lv_iconst (v := (nI 1)) hx hb dX2_digest_60 (by decide) ?_
  refine ildz (n := 624) (j := 1) (v := (s 1)) B hz 1 rfl (by omega) (by decide) rfl dX2_digest_61 ?_
  refine cVv (C := RX2) (T := TX2) (N := 7) (ci := 2) (q0 := 0) (k := 2) (As := [.int (s 1)]) (rest := []) (ws1 := (mW cI a s pst np er od rk (31 * (31 * (31 * (31 * (31 * (31 * 12164 + (er 0).toInt64) + (er 1).toInt64) + (nI np).toInt64) + (s 0).toInt64) + (s 2).toInt64) + (s 1).toInt64))) B hz hA (c_X2_add l D cI cN a s pst np er od rk (31 * (31 * (31 * (31 * (31 * 12164 + (er 0).toInt64) + (er 1).toInt64) + (nI np).toInt64) + (s 0).toInt64) + (s 2).toInt64) (s 1) ) gX2_digest_X2_add rfl rfl hd_X2_add (by decide) rfl rfl rfl hl.1 rfl (Nat.le_of_ble_eq_true rfl) dX2_digest_62 (fun H locs hz => ?_)
  refine lv_iconst (v := (nI 3)) hx hb dX2_digest_65 (by decide) ?_
  refine lv_istore_n (lv' := [(1, .int (nI 3)), (0, .ref (a 0))]) hx hb dX2_digest_66 rfl hl (by decide) rfl (fun ls hl => ?_)
  refine lv_iload_n hx hb dX2_digest_67 rfl (lv_at hl 0 rfl) ?_
  refine lv_bipush (v := (nI 8)) hx hb dX2_digest_68 (by decide) ?_
  refine ln_icmp_gt (tgt := 89) hx hb dX2_digest_70 (by decide) (by decide) (fun c70 => ?_) (fun c70 => ?_)
  · first | exact absurd rfl c70 | exact absurd c70 (by decide) | (exfalso; omega)
  · refine lv_aload_n hx hb dX2_digest_73 rfl (lv_at hl 1 rfl) ?_
    refine lv_aload_n hx hb dX2_digest_74 rfl (lv_at hl 1 rfl) ?_
    refine gz (C := RX2) (T := TX2) (N := 7) (v := .ref (a 1)) B hz hinX2 0 rfl rfl 0 (by decide) lk7 rfl rfl dX2_digest_75 ?_
    refine lv_iload_n hx hb dX2_digest_78 rfl (lv_at hl 0 rfl) ?_
    refine ildz (n := 624) (j := 3) (v := (s 3)) B hz 1 rfl (by omega) (by decide) rfl dX2_digest_79 ?_
    refine cVv (C := RX2) (T := TX2) (N := 7) (ci := 2) (q0 := 0) (k := 2) (As := [.int (s 3)]) (rest := []) (ws1 := (mW cI a s pst np er od rk (31 * (31 * (31 * (31 * (31 * (31 * (31 * 12164 + (er 0).toInt64) + (er 1).toInt64) + (nI np).toInt64) + (s 0).toInt64) + (s 2).toInt64) + (s 1).toInt64) + (s 3).toInt64))) B hz hA (c_X2_add l D cI cN a s pst np er od rk (31 * (31 * (31 * (31 * (31 * (31 * 12164 + (er 0).toInt64) + (er 1).toInt64) + (nI np).toInt64) + (s 0).toInt64) + (s 2).toInt64) + (s 1).toInt64) (s 3) ) gX2_digest_X2_add rfl rfl hd_X2_add (by decide) rfl rfl rfl hl.1 rfl (Nat.le_of_ble_eq_true rfl) dX2_digest_80 (fun H locs hz => ?_)
    refine lv_iinc (v := nI 4) (lv' := [(1, .int (nI 4)), (0, .ref (a 0))]) hx hb dX2_digest_83 hl (k := 0) rfl (by decide) (by decide) rfl (fun ls hl => ?_)
    refine lv_goto (tgt := 67) hx hb dX2_digest_86 (by decide) ?_
    refine lv_iload_n hx hb dX2_digest_67 rfl (lv_at hl 0 rfl) ?_
    refine lv_bipush (v := (nI 8)) hx hb dX2_digest_68 (by decide) ?_
    refine ln_icmp_gt (tgt := 89) hx hb dX2_digest_70 (by decide) (by decide) (fun c70 => ?_) (fun c70 => ?_)
    · first | exact absurd rfl c70 | exact absurd c70 (by decide) | (exfalso; omega)
    · refine lv_aload_n hx hb dX2_digest_73 rfl (lv_at hl 1 rfl) ?_
      refine lv_aload_n hx hb dX2_digest_74 rfl (lv_at hl 1 rfl) ?_
      refine gz (C := RX2) (T := TX2) (N := 7) (v := .ref (a 1)) B hz hinX2 0 rfl rfl 0 (by decide) lk7 rfl rfl dX2_digest_75 ?_
      refine lv_iload_n hx hb dX2_digest_78 rfl (lv_at hl 0 rfl) ?_
      refine ildz (n := 624) (j := 4) (v := (s 4)) B hz 1 rfl (by omega) (by decide) rfl dX2_digest_79 ?_
      refine cVv (C := RX2) (T := TX2) (N := 7) (ci := 2) (q0 := 0) (k := 2) (As := [.int (s 4)]) (rest := []) (ws1 := (mW cI a s pst np er od rk (31 * (31 * (31 * (31 * (31 * (31 * (31 * (31 * 12164 + (er 0).toInt64) + (er 1).toInt64) + (nI np).toInt64) + (s 0).toInt64) + (s 2).toInt64) + (s 1).toInt64) + (s 3).toInt64) + (s 4).toInt64))) B hz hA (c_X2_add l D cI cN a s pst np er od rk (31 * (31 * (31 * (31 * (31 * (31 * (31 * 12164 + (er 0).toInt64) + (er 1).toInt64) + (nI np).toInt64) + (s 0).toInt64) + (s 2).toInt64) + (s 1).toInt64) + (s 3).toInt64) (s 4) ) gX2_digest_X2_add rfl rfl hd_X2_add (by decide) rfl rfl rfl hl.1 rfl (Nat.le_of_ble_eq_true rfl) dX2_digest_80 (fun H locs hz => ?_)
      refine lv_iinc (v := nI 5) (lv' := [(1, .int (nI 5)), (0, .ref (a 0))]) hx hb dX2_digest_83 hl (k := 0) rfl (by decide) (by decide) rfl (fun ls hl => ?_)
      refine lv_goto (tgt := 67) hx hb dX2_digest_86 (by decide) ?_
      refine lv_iload_n hx hb dX2_digest_67 rfl (lv_at hl 0 rfl) ?_
      refine lv_bipush (v := (nI 8)) hx hb dX2_digest_68 (by decide) ?_
      refine ln_icmp_gt (tgt := 89) hx hb dX2_digest_70 (by decide) (by decide) (fun c70 => ?_) (fun c70 => ?_)
      · first | exact absurd rfl c70 | exact absurd c70 (by decide) | (exfalso; omega)
      · refine lv_aload_n hx hb dX2_digest_73 rfl (lv_at hl 1 rfl) ?_
        refine lv_aload_n hx hb dX2_digest_74 rfl (lv_at hl 1 rfl) ?_
        refine gz (C := RX2) (T := TX2) (N := 7) (v := .ref (a 1)) B hz hinX2 0 rfl rfl 0 (by decide) lk7 rfl rfl dX2_digest_75 ?_
        refine lv_iload_n hx hb dX2_digest_78 rfl (lv_at hl 0 rfl) ?_
        refine ildz (n := 624) (j := 5) (v := (s 5)) B hz 1 rfl (by omega) (by decide) rfl dX2_digest_79 ?_
        refine cVv (C := RX2) (T := TX2) (N := 7) (ci := 2) (q0 := 0) (k := 2) (As := [.int (s 5)]) (rest := []) (ws1 := (mW cI a s pst np er od rk (31 * (31 * (31 * (31 * (31 * (31 * (31 * (31 * (31 * 12164 + (er 0).toInt64) + (er 1).toInt64) + (nI np).toInt64) + (s 0).toInt64) + (s 2).toInt64) + (s 1).toInt64) + (s 3).toInt64) + (s 4).toInt64) + (s 5).toInt64))) B hz hA (c_X2_add l D cI cN a s pst np er od rk (31 * (31 * (31 * (31 * (31 * (31 * (31 * (31 * 12164 + (er 0).toInt64) + (er 1).toInt64) + (nI np).toInt64) + (s 0).toInt64) + (s 2).toInt64) + (s 1).toInt64) + (s 3).toInt64) + (s 4).toInt64) (s 5) ) gX2_digest_X2_add rfl rfl hd_X2_add (by decide) rfl rfl rfl hl.1 rfl (Nat.le_of_ble_eq_true rfl) dX2_digest_80 (fun H locs hz => ?_)
        refine lv_iinc (v := nI 6) (lv' := [(1, .int (nI 6)), (0, .ref (a 0))]) hx hb dX2_digest_83 hl (k := 0) rfl (by decide) (by decide) rfl (fun ls hl => ?_)
        refine lv_goto (tgt := 67) hx hb dX2_digest_86 (by decide) ?_
        refine lv_iload_n hx hb dX2_digest_67 rfl (lv_at hl 0 rfl) ?_
        refine lv_bipush (v := (nI 8)) hx hb dX2_digest_68 (by decide) ?_
        refine ln_icmp_gt (tgt := 89) hx hb dX2_digest_70 (by decide) (by decide) (fun c70 => ?_) (fun c70 => ?_)
        · first | exact absurd rfl c70 | exact absurd c70 (by decide) | (exfalso; omega)
        · refine lv_aload_n hx hb dX2_digest_73 rfl (lv_at hl 1 rfl) ?_
          refine lv_aload_n hx hb dX2_digest_74 rfl (lv_at hl 1 rfl) ?_
          refine gz (C := RX2) (T := TX2) (N := 7) (v := .ref (a 1)) B hz hinX2 0 rfl rfl 0 (by decide) lk7 rfl rfl dX2_digest_75 ?_
          refine lv_iload_n hx hb dX2_digest_78 rfl (lv_at hl 0 rfl) ?_
          refine ildz (n := 624) (j := 6) (v := (s 6)) B hz 1 rfl (by omega) (by decide) rfl dX2_digest_79 ?_
          refine cVv (C := RX2) (T := TX2) (N := 7) (ci := 2) (q0 := 0) (k := 2) (As := [.int (s 6)]) (rest := []) (ws1 := (mW cI a s pst np er od rk (31 * (31 * (31 * (31 * (31 * (31 * (31 * (31 * (31 * (31 * 12164 + (er 0).toInt64) + (er 1).toInt64) + (nI np).toInt64) + (s 0).toInt64) + (s 2).toInt64) + (s 1).toInt64) + (s 3).toInt64) + (s 4).toInt64) + (s 5).toInt64) + (s 6).toInt64))) B hz hA (c_X2_add l D cI cN a s pst np er od rk (31 * (31 * (31 * (31 * (31 * (31 * (31 * (31 * (31 * 12164 + (er 0).toInt64) + (er 1).toInt64) + (nI np).toInt64) + (s 0).toInt64) + (s 2).toInt64) + (s 1).toInt64) + (s 3).toInt64) + (s 4).toInt64) + (s 5).toInt64) (s 6) ) gX2_digest_X2_add rfl rfl hd_X2_add (by decide) rfl rfl rfl hl.1 rfl (Nat.le_of_ble_eq_true rfl) dX2_digest_80 (fun H locs hz => ?_)
          refine lv_iinc (v := nI 7) (lv' := [(1, .int (nI 7)), (0, .ref (a 0))]) hx hb dX2_digest_83 hl (k := 0) rfl (by decide) (by decide) rfl (fun ls hl => ?_)
          refine lv_goto (tgt := 67) hx hb dX2_digest_86 (by decide) ?_
          refine lv_iload_n hx hb dX2_digest_67 rfl (lv_at hl 0 rfl) ?_
          refine lv_bipush (v := (nI 8)) hx hb dX2_digest_68 (by decide) ?_
          refine ln_icmp_gt (tgt := 89) hx hb dX2_digest_70 (by decide) (by decide) (fun c70 => ?_) (fun c70 => ?_)
          · first | exact absurd rfl c70 | exact absurd c70 (by decide) | (exfalso; omega)
          · refine lv_aload_n hx hb dX2_digest_73 rfl (lv_at hl 1 rfl) ?_
            refine lv_aload_n hx hb dX2_digest_74 rfl (lv_at hl 1 rfl) ?_
            refine gz (C := RX2) (T := TX2) (N := 7) (v := .ref (a 1)) B hz hinX2 0 rfl rfl 0 (by decide) lk7 rfl rfl dX2_digest_75 ?_
            refine lv_iload_n hx hb dX2_digest_78 rfl (lv_at hl 0 rfl) ?_
            refine ildz (n := 624) (j := 7) (v := (s 7)) B hz 1 rfl (by omega) (by decide) rfl dX2_digest_79 ?_
            refine cVv (C := RX2) (T := TX2) (N := 7) (ci := 2) (q0 := 0) (k := 2) (As := [.int (s 7)]) (rest := []) (ws1 := (mW cI a s pst np er od rk (31 * (31 * (31 * (31 * (31 * (31 * (31 * (31 * (31 * (31 * (31 * 12164 + (er 0).toInt64) + (er 1).toInt64) + (nI np).toInt64) + (s 0).toInt64) + (s 2).toInt64) + (s 1).toInt64) + (s 3).toInt64) + (s 4).toInt64) + (s 5).toInt64) + (s 6).toInt64) + (s 7).toInt64))) B hz hA (c_X2_add l D cI cN a s pst np er od rk (31 * (31 * (31 * (31 * (31 * (31 * (31 * (31 * (31 * (31 * 12164 + (er 0).toInt64) + (er 1).toInt64) + (nI np).toInt64) + (s 0).toInt64) + (s 2).toInt64) + (s 1).toInt64) + (s 3).toInt64) + (s 4).toInt64) + (s 5).toInt64) + (s 6).toInt64) (s 7) ) gX2_digest_X2_add rfl rfl hd_X2_add (by decide) rfl rfl rfl hl.1 rfl (Nat.le_of_ble_eq_true rfl) dX2_digest_80 (fun H locs hz => ?_)
            refine lv_iinc (v := nI 8) (lv' := [(1, .int (nI 8)), (0, .ref (a 0))]) hx hb dX2_digest_83 hl (k := 0) rfl (by decide) (by decide) rfl (fun ls hl => ?_)
            refine lv_goto (tgt := 67) hx hb dX2_digest_86 (by decide) ?_
            refine lv_iload_n hx hb dX2_digest_67 rfl (lv_at hl 0 rfl) ?_
            refine lv_bipush (v := (nI 8)) hx hb dX2_digest_68 (by decide) ?_
            refine ln_icmp_gt (tgt := 89) hx hb dX2_digest_70 (by decide) (by decide) (fun c70 => ?_) (fun c70 => ?_)
            · first | exact absurd rfl c70 | exact absurd c70 (by decide) | (exfalso; omega)
            · refine lv_aload_n hx hb dX2_digest_73 rfl (lv_at hl 1 rfl) ?_
              refine lv_aload_n hx hb dX2_digest_74 rfl (lv_at hl 1 rfl) ?_
              refine gz (C := RX2) (T := TX2) (N := 7) (v := .ref (a 1)) B hz hinX2 0 rfl rfl 0 (by decide) lk7 rfl rfl dX2_digest_75 ?_
              refine lv_iload_n hx hb dX2_digest_78 rfl (lv_at hl 0 rfl) ?_
              refine ildz (n := 624) (j := 8) (v := (s 8)) B hz 1 rfl (by omega) (by decide) rfl dX2_digest_79 ?_
              refine cVv (C := RX2) (T := TX2) (N := 7) (ci := 2) (q0 := 0) (k := 2) (As := [.int (s 8)]) (rest := []) (ws1 := (mW cI a s pst np er od rk (31 * (31 * (31 * (31 * (31 * (31 * (31 * (31 * (31 * (31 * (31 * (31 * 12164 + (er 0).toInt64) + (er 1).toInt64) + (nI np).toInt64) + (s 0).toInt64) + (s 2).toInt64) + (s 1).toInt64) + (s 3).toInt64) + (s 4).toInt64) + (s 5).toInt64) + (s 6).toInt64) + (s 7).toInt64) + (s 8).toInt64))) B hz hA (c_X2_add l D cI cN a s pst np er od rk (31 * (31 * (31 * (31 * (31 * (31 * (31 * (31 * (31 * (31 * (31 * 12164 + (er 0).toInt64) + (er 1).toInt64) + (nI np).toInt64) + (s 0).toInt64) + (s 2).toInt64) + (s 1).toInt64) + (s 3).toInt64) + (s 4).toInt64) + (s 5).toInt64) + (s 6).toInt64) + (s 7).toInt64) (s 8) ) gX2_digest_X2_add rfl rfl hd_X2_add (by decide) rfl rfl rfl hl.1 rfl (Nat.le_of_ble_eq_true rfl) dX2_digest_80 (fun H locs hz => ?_)
              refine lv_iinc (v := nI 9) (lv' := [(1, .int (nI 9)), (0, .ref (a 0))]) hx hb dX2_digest_83 hl (k := 0) rfl (by decide) (by decide) rfl (fun ls hl => ?_)
              refine lv_goto (tgt := 67) hx hb dX2_digest_86 (by decide) ?_
              refine lv_iload_n hx hb dX2_digest_67 rfl (lv_at hl 0 rfl) ?_
              refine lv_bipush (v := (nI 8)) hx hb dX2_digest_68 (by decide) ?_
              refine ln_icmp_gt (tgt := 89) hx hb dX2_digest_70 (by decide) (by decide) (fun c70 => ?_) (fun c70 => ?_)
              · refine lv_iconst (v := (nI 0)) hx hb dX2_digest_89 (by decide) ?_
                refine lv_istore_n (lv' := [(1, .int (nI 0)), (0, .ref (a 0))]) hx hb dX2_digest_90 rfl hl (by decide) rfl (fun ls hl => ?_)
                have LP91 : ∀ (n_LP91 : Nat) (i : Nat), (i ≤ 5) → 5 - i < n_LP91 → ∀ (H : Heap) (locs : List Loc) (ls : Array Slot), Hz D A s_.heap H locs (mW cI a s pst np er od rk (fDs s (fDa (mx (mx (mx 12164 (er 0)) (er 1)) (nI np)) s) i)) → lv_has ls 4 [(0, .ref (a 0)), (1, .int (nI i))] → Wz p l e 2 s_ m args below meth c D A (some (.long (fDg (er 0) (er 1) np s))) (mW cI a s pst np er od rk (fDg (er 0) (er 1) np s)) H locs (F0 m 91 ls []) := by
                  intro n_LP91
                  induction n_LP91 with
                  | zero => intro i hi hm; exact absurd hm (Nat.not_lt_zero _)
                  | succ n_LP91 ih_LP91 =>
                    intro i hi hm H locs ls hz hl
                    refine lv_iload_n hx hb dX2_digest_91 rfl (lv_at hl 1 rfl) ?_
                    refine lv_iconst (v := (nI 5)) hx hb dX2_digest_92 (by decide) ?_
                    refine ln_icmp_ge (tgt := 141) hx hb dX2_digest_93 (by decide) (by constructor <;> omega) (fun c93 => ?_) (fun c93 => ?_)
                    · obtain rfl : i = 5 := by omega
                      refine lv_iconst (v := (nI 0)) hx hb dX2_digest_141 (by decide) ?_
                      refine lv_istore_n (lv' := [(1, .int (nI 0)), (0, .ref (a 0))]) hx hb dX2_digest_142 rfl hl (by decide) rfl (fun ls hl => ?_)
                      have LP143 : ∀ (n_LP143 : Nat) (i : Nat), (i ≤ 200) → 200 - i < n_LP143 → ∀ (H : Heap) (locs : List Loc) (ls : Array Slot), Hz D A s_.heap H locs (mW cI a s pst np er od rk (fDm s (fDs s (fDa (mx (mx (mx 12164 (er 0)) (er 1)) (nI np)) s) 5) i)) → lv_has ls 4 [(0, .ref (a 0)), (1, .int (nI i))] → Wz p l e 2 s_ m args below meth c D A (some (.long (fDg (er 0) (er 1) np s))) (mW cI a s pst np er od rk (fDg (er 0) (er 1) np s)) H locs (F0 m 143 ls []) := by
                        intro n_LP143
                        induction n_LP143 with
                        | zero => intro i hi hm; exact absurd hm (Nat.not_lt_zero _)
                        | succ n_LP143 ih_LP143 =>
                          intro i hi hm H locs ls hz hl
                          refine lv_iload_n hx hb dX2_digest_143 rfl (lv_at hl 1 rfl) ?_
                          refine lv_sipush (v := (nI 200)) hx hb dX2_digest_144 (by decide) ?_
                          refine ln_icmp_ge (tgt := 201) hx hb dX2_digest_147 (by decide) (by constructor <;> omega) (fun c147 => ?_) (fun c147 => ?_)
                          · refine lv_aload_n hx hb dX2_digest_201 rfl (lv_at hl 0 rfl) ?_
                            refine gz (C := RX2) (T := TX2) (N := 7) (v := .long (fDm s (fDs s (fDa (mx (mx (mx 12164 (er 0)) (er 1)) (nI np)) s) 5) i)) B hz hinX2 0 rfl rfl 6 (by decide) lk130 rfl rfl dX2_digest_202 ?_
                            exact rz_l B hr hz dX2_digest_205 (by obtain rfl : i = 200 := (by omega); rfl) (by obtain rfl : i = 200 := (by omega); rfl)
                          · refine lv_iload_n hx hb dX2_digest_150 rfl (lv_at hl 1 rfl) ?_
                            refine lv_bipush (v := (nI 40)) hx hb dX2_digest_151 (by decide) ?_
                            refine lv_idiv hx hb dX2_digest_153 (nI_ne0 (by omega) (by omega)) ?_
                            refine cvt (y := nI (i / 40)) (pk_div (by omega) (by omega) (by omega)) ?_
                            refine lv_istore_n (lv' := [(2, .int (nI (i / 40))), (0, .ref (a 0)), (1, .int (nI i))]) hx hb dX2_digest_154 rfl hl (by decide) rfl (fun ls hl => ?_)
                            refine lv_iload_n hx hb dX2_digest_155 rfl (lv_at hl 2 rfl) ?_
                            refine lv_bipush (v := (nI 8)) hx hb dX2_digest_156 (by decide) ?_
                            refine lv_idiv hx hb dX2_digest_158 (nI_ne0 (by omega) (by omega)) ?_
                            refine cvt (y := nI (i / 8)) (pk_div (by omega) (by omega) (by omega)) ?_
                            refine lv_iconst (v := (nI 5)) hx hb dX2_digest_159 (by decide) ?_
                            refine lv_irem hx hb dX2_digest_160 (nI_ne0 (by omega) (by omega)) ?_
                            refine cvt (y := nI ((i / 8) % 5)) (pk_rem (by omega) (by omega) (by omega)) ?_
                            refine lv_istore_n (lv' := [(3, .int (nI ((i / 8) % 5))), (2, .int (nI (i / 40))), (0, .ref (a 0)), (1, .int (nI i))]) hx hb dX2_digest_161 rfl hl (by decide) rfl (fun ls hl => ?_)
                            refine lv_iload_n hx hb dX2_digest_162 rfl (lv_at hl 1 rfl) ?_
                            refine lv_iload_n hx hb dX2_digest_163 rfl (lv_at hl 0 rfl) ?_
                            refine ln_icmp_eq (tgt := 195) hx hb dX2_digest_164 (by decide) (by constructor <;> omega) (fun c164 => ?_) (fun c164 => ?_)
                            · refine lv_iinc (v := nI (i + 1)) (lv' := [(1, .int (nI (i + 1))), (3, .int (nI ((i / 8) % 5))), (2, .int (nI (i / 40))), (0, .ref (a 0))]) hx hb dX2_digest_195 hl (k := 3) rfl (nI_add i 1) (by decide) rfl (fun ls hl => ?_)
                              refine lv_goto (tgt := 143) hx hb dX2_digest_198 (by decide) ?_
                              exact ih_LP143 (i + 1) (by omega) (by omega) H locs ls (hz.cast (by first | (simp only [fDm, if_pos c164]; done) | (simp only [fDm, if_neg c164]; rfl))) (lv_cast (lv_sub hl [3, 0] (l' := [(0, .ref (a 0)), (1, .int (nI (i + 1)))]) rfl) (by rfl))
                            · refine lv_aload_n hx hb dX2_digest_167 rfl (lv_at hl 2 rfl) ?_
                              refine lv_aload_n hx hb dX2_digest_168 rfl (lv_at hl 2 rfl) ?_
                              refine gz (C := RX2) (T := TX2) (N := 7) (v := .ref (a 1)) B hz hinX2 0 rfl rfl 0 (by decide) lk7 rfl rfl dX2_digest_169 ?_
                              refine lv_sipush (v := (nI 224)) hx hb dX2_digest_172 (by decide) ?_
                              refine lv_iload_n hx hb dX2_digest_175 rfl (lv_at hl 3 rfl) ?_
                              refine ln_add hx hb dX2_digest_176 ?_
                              refine ildz (n := 624) (j := (224 + i)) (v := (s (224 + i))) B hz 1 rfl (by omega) (by decide) rfl dX2_digest_177 ?_
                              refine cVv (C := RX2) (T := TX2) (N := 7) (ci := 2) (q0 := 0) (k := 2) (As := [.int (s (224 + i))]) (rest := []) (ws1 := (mW cI a s pst np er od rk (31 * (fDm s (fDs s (fDa (mx (mx (mx 12164 (er 0)) (er 1)) (nI np)) s) 5) i) + (s (224 + i)).toInt64))) B hz hA (c_X2_add l D cI cN a s pst np er od rk (fDm s (fDs s (fDa (mx (mx (mx 12164 (er 0)) (er 1)) (nI np)) s) 5) i) (s (224 + i)) ) gX2_digest_X2_add rfl rfl hd_X2_add (by decide) rfl rfl rfl hl.1 rfl (Nat.le_of_ble_eq_true rfl) dX2_digest_178 (fun H locs hz => ?_)
                              refine lv_aload_n hx hb dX2_digest_181 rfl (lv_at hl 2 rfl) ?_
                              refine lv_aload_n hx hb dX2_digest_182 rfl (lv_at hl 2 rfl) ?_
                              refine lv_iload_n hx hb dX2_digest_183 rfl (lv_at hl 1 rfl) ?_
                              refine lv_iload_n hx hb dX2_digest_184 rfl (lv_at hl 0 rfl) ?_
                              refine lv_iload_n hx hb dX2_digest_185 rfl (lv_at hl 3 rfl) ?_
                              refine lv_bipush (v := (nI 8)) hx hb dX2_digest_186 (by decide) ?_
                              refine lv_irem hx hb dX2_digest_188 (nI_ne0 (by omega) (by omega)) ?_
                              refine cvt (y := nI (i % 8)) (pk_rem (by omega) (by omega) (by omega)) ?_
                              refine cV (C := RX2) (T := TX2) (N := 7) (ci := 2) (q0 := 0) (k := 2) (As := [.int (nI (i / 40)), .int (nI ((i / 8) % 5)), .int (nI (i % 8))]) (rest := [.ref (a 0)]) (v := .int (fEf (i / 40) ((i / 8) % 5) (i % 8) s)) (ws1 := (mW cI a s pst np er od rk (31 * (fDm s (fDs s (fDa (mx (mx (mx 12164 (er 0)) (er 1)) (nI np)) s) 5) i) + (s (224 + i)).toInt64))) B hz hA (c_X2_effectiveOf l D cI cN a s pst np er od rk (31 * (fDm s (fDs s (fDa (mx (mx (mx 12164 (er 0)) (er 1)) (nI np)) s) 5) i) + (s (224 + i)).toInt64) (i / 40) ((i / 8) % 5) (i % 8) (by omega) (by omega) (by omega) (hv)) gX2_digest_X2_effectiveOf rfl rfl hd_X2_effectiveOf (by decide) rfl rfl rfl hl.1 rfl (Nat.le_of_ble_eq_true rfl) dX2_digest_189 (fun H locs hz => ?_)
                              refine cVv (C := RX2) (T := TX2) (N := 7) (ci := 2) (q0 := 0) (k := 2) (As := [.int (fEf (i / 40) ((i / 8) % 5) (i % 8) s)]) (rest := []) (ws1 := (mW cI a s pst np er od rk (31 * (31 * (fDm s (fDs s (fDa (mx (mx (mx 12164 (er 0)) (er 1)) (nI np)) s) 5) i) + (s (224 + i)).toInt64) + (fEf (i / 40) ((i / 8) % 5) (i % 8) s).toInt64))) B hz hA (c_X2_add l D cI cN a s pst np er od rk (31 * (fDm s (fDs s (fDa (mx (mx (mx 12164 (er 0)) (er 1)) (nI np)) s) 5) i) + (s (224 + i)).toInt64) (fEf (i / 40) ((i / 8) % 5) (i % 8) s) ) gX2_digest_X2_add rfl rfl hd_X2_add (by decide) rfl rfl rfl hl.1 rfl (Nat.le_of_ble_eq_true rfl) dX2_digest_192 (fun H locs hz => ?_)
                              refine lv_iinc (v := nI (i + 1)) (lv' := [(1, .int (nI (i + 1))), (3, .int (nI ((i / 8) % 5))), (2, .int (nI (i / 40))), (0, .ref (a 0))]) hx hb dX2_digest_195 hl (k := 3) rfl (nI_add i 1) (by decide) rfl (fun ls hl => ?_)
                              refine lv_goto (tgt := 143) hx hb dX2_digest_198 (by decide) ?_
                              exact ih_LP143 (i + 1) (by omega) (by omega) H locs ls (hz.cast (by first | (simp only [fDm, if_pos c164]; done) | (simp only [fDm, if_neg c164]; rfl))) (lv_cast (lv_sub hl [3, 0] (l' := [(0, .ref (a 0)), (1, .int (nI (i + 1)))]) rfl) (by rfl))
                      exact LP143 _ 0 (by omega) (Nat.lt_succ_self _) H locs ls (hz.cast (by rfl)) (lv_cast (lv_sub hl [1, 0] (l' := [(0, .ref (a 0)), (1, .int (nI 0))]) rfl) (by rfl))
                    · refine lv_aload_n hx hb dX2_digest_96 rfl (lv_at hl 0 rfl) ?_
                      refine lv_aload_n hx hb dX2_digest_97 rfl (lv_at hl 0 rfl) ?_
                      refine gz (C := RX2) (T := TX2) (N := 7) (v := .ref (a 1)) B hz hinX2 0 rfl rfl 0 (by decide) lk7 rfl rfl dX2_digest_98 ?_
                      refine lv_bipush (v := (nI 9)) hx hb dX2_digest_101 (by decide) ?_
                      refine lv_iload_n hx hb dX2_digest_103 rfl (lv_at hl 1 rfl) ?_
                      refine ln_add hx hb dX2_digest_104 ?_
                      refine ildz (n := 624) (j := (9 + i)) (v := (s (9 + i))) B hz 1 rfl (by omega) (by decide) rfl dX2_digest_105 ?_
                      refine cVv (C := RX2) (T := TX2) (N := 7) (ci := 2) (q0 := 0) (k := 2) (As := [.int (s (9 + i))]) (rest := []) (ws1 := (mW cI a s pst np er od rk (31 * (fDs s (fDa (mx (mx (mx 12164 (er 0)) (er 1)) (nI np)) s) i) + (s (9 + i)).toInt64))) B hz hA (c_X2_add l D cI cN a s pst np er od rk (fDs s (fDa (mx (mx (mx 12164 (er 0)) (er 1)) (nI np)) s) i) (s (9 + i)) ) gX2_digest_X2_add rfl rfl hd_X2_add (by decide) rfl rfl rfl hl.1 rfl (Nat.le_of_ble_eq_true rfl) dX2_digest_106 (fun H locs hz => ?_)
                      refine lv_aload_n hx hb dX2_digest_109 rfl (lv_at hl 0 rfl) ?_
                      refine lv_aload_n hx hb dX2_digest_110 rfl (lv_at hl 0 rfl) ?_
                      refine gz (C := RX2) (T := TX2) (N := 7) (v := .ref (a 1)) B hz hinX2 0 rfl rfl 0 (by decide) lk7 rfl rfl dX2_digest_111 ?_
                      refine lv_bipush (v := (nI 14)) hx hb dX2_digest_114 (by decide) ?_
                      refine lv_iload_n hx hb dX2_digest_116 rfl (lv_at hl 1 rfl) ?_
                      refine ln_add hx hb dX2_digest_117 ?_
                      refine ildz (n := 624) (j := (14 + i)) (v := (s (14 + i))) B hz 1 rfl (by omega) (by decide) rfl dX2_digest_118 ?_
                      refine cVv (C := RX2) (T := TX2) (N := 7) (ci := 2) (q0 := 0) (k := 2) (As := [.int (s (14 + i))]) (rest := []) (ws1 := (mW cI a s pst np er od rk (31 * (31 * (fDs s (fDa (mx (mx (mx 12164 (er 0)) (er 1)) (nI np)) s) i) + (s (9 + i)).toInt64) + (s (14 + i)).toInt64))) B hz hA (c_X2_add l D cI cN a s pst np er od rk (31 * (fDs s (fDa (mx (mx (mx 12164 (er 0)) (er 1)) (nI np)) s) i) + (s (9 + i)).toInt64) (s (14 + i)) ) gX2_digest_X2_add rfl rfl hd_X2_add (by decide) rfl rfl rfl hl.1 rfl (Nat.le_of_ble_eq_true rfl) dX2_digest_119 (fun H locs hz => ?_)
                      refine lv_aload_n hx hb dX2_digest_122 rfl (lv_at hl 0 rfl) ?_
                      refine lv_aload_n hx hb dX2_digest_123 rfl (lv_at hl 0 rfl) ?_
                      refine gz (C := RX2) (T := TX2) (N := 7) (v := .ref (a 1)) B hz hinX2 0 rfl rfl 0 (by decide) lk7 rfl rfl dX2_digest_124 ?_
                      refine lv_bipush (v := (nI 19)) hx hb dX2_digest_127 (by decide) ?_
                      refine lv_iload_n hx hb dX2_digest_129 rfl (lv_at hl 1 rfl) ?_
                      refine ln_add hx hb dX2_digest_130 ?_
                      refine ildz (n := 624) (j := (19 + i)) (v := (s (19 + i))) B hz 1 rfl (by omega) (by decide) rfl dX2_digest_131 ?_
                      refine cVv (C := RX2) (T := TX2) (N := 7) (ci := 2) (q0 := 0) (k := 2) (As := [.int (s (19 + i))]) (rest := []) (ws1 := (mW cI a s pst np er od rk (31 * (31 * (31 * (fDs s (fDa (mx (mx (mx 12164 (er 0)) (er 1)) (nI np)) s) i) + (s (9 + i)).toInt64) + (s (14 + i)).toInt64) + (s (19 + i)).toInt64))) B hz hA (c_X2_add l D cI cN a s pst np er od rk (31 * (31 * (fDs s (fDa (mx (mx (mx 12164 (er 0)) (er 1)) (nI np)) s) i) + (s (9 + i)).toInt64) + (s (14 + i)).toInt64) (s (19 + i)) ) gX2_digest_X2_add rfl rfl hd_X2_add (by decide) rfl rfl rfl hl.1 rfl (Nat.le_of_ble_eq_true rfl) dX2_digest_132 (fun H locs hz => ?_)
                      refine lv_iinc (v := nI (i + 1)) (lv' := [(1, .int (nI (i + 1))), (0, .ref (a 0))]) hx hb dX2_digest_135 hl (k := 1) rfl (nI_add i 1) (by decide) rfl (fun ls hl => ?_)
                      refine lv_goto (tgt := 91) hx hb dX2_digest_138 (by decide) ?_
                      exact ih_LP91 (i + 1) (by omega) (by omega) H locs ls (hz.cast (by rfl)) (lv_cast (lv_sub hl [1, 0] (l' := [(0, .ref (a 0)), (1, .int (nI (i + 1)))]) rfl) (by rfl))
                exact LP91 _ 0 (by omega) (Nat.lt_succ_self _) H locs ls (hz.cast (by rfl)) (lv_cast (lv_sub hl [1, 0] (l' := [(0, .ref (a 0)), (1, .int (nI 0))]) rfl) (by rfl))
              · first | exact absurd rfl c70 | exact absurd c70 (by decide) | (exfalso; omega)
