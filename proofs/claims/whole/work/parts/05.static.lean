theorem ti0 : (0 : Int32).toInt = 0 := by decide
theorem xSt_a {k : Int32} (h : k < 0) : false = fSt k := fIn_a (show k < nI 0 from h)
theorem xSt_b {k : Int32} (h0 : ¬ k < 0) (h : nI 5 ≤ k) : false = fSt k := by
  have z5 : (nI 5).toInt = 5 := by decide
  have z4 : (nI 4).toInt = 4 := by decide
  refine fIn_b ?_
  rw [Int32.lt_iff_toInt_lt, z4]; rw [Int32.le_iff_toInt_le, z5] at h; omega
theorem xSt_c {k : Int32} (h0 : ¬ k < 0) (h : ¬ nI 5 ≤ k) : true = fSt k := by
  have z5 : (nI 5).toInt = 5 := by decide
  have z4 : (nI 4).toInt = 4 := by decide
  refine fIn_c h0 ?_
  rw [Int32.lt_iff_toInt_lt, z4]; rw [Int32.le_iff_toInt_le, z5] at h; omega
theorem xCh_a {k : Int32} (h : k < 0) : false = fCh k := fIn_a (show k < nI 0 from h)
theorem xCh_b {k : Int32} (h0 : ¬ k < 0) (h : nI 8 ≤ k) : false = fCh k := by
  have z5 : (nI 8).toInt = 8 := by decide
  have z4 : (nI 7).toInt = 7 := by decide
  refine fIn_b ?_
  rw [Int32.lt_iff_toInt_lt, z4]; rw [Int32.le_iff_toInt_le, z5] at h; omega
theorem xCh_c {k : Int32} (h0 : ¬ k < 0) (h : ¬ nI 8 ≤ k) : true = fCh k := by
  have z5 : (nI 8).toInt = 8 := by decide
  have z4 : (nI 7).toInt = 7 := by decide
  refine fIn_c h0 ?_
  rw [Int32.lt_iff_toInt_lt, z4]; rw [Int32.le_iff_toInt_le, z5] at h; omega
theorem xHas (set k : Int32) : set &&& (nI 1 <<< (k &&& 31)) = 0 ↔ fHas set k = false := by
  obtain ⟨j, hj, e⟩ := sh_31 k
  unfold fHas
  rw [e, and_bt set hj, decide_eq_false_iff_not, has_bt set hj]
  cases bt set j <;> simp
theorem xHas_a {set k : Int32} (h : set &&& (nI 1 <<< (k &&& 31)) = 0) : false = fHas set k := ((xHas set k).mp h).symm
theorem xHas_b {set k : Int32} (h : ¬ set &&& (nI 1 <<< (k &&& 31)) = 0) : true = fHas set k := by
  cases e : fHas set k
  · exact absurd ((xHas set k).mpr e) h
  · rfl
theorem fHas_bt (x : Int32) {j : Nat} (hj : j < 32) : fHas x (nI j) = bt x j := by
  unfold fHas
  cases e : bt x j
  · rw [decide_eq_false_iff_not, has_bt x hj, e]; simp
  · rw [decide_eq_true_eq, has_bt x hj, e]
theorem hd_X2_in : hdZ yX2_in 3 := by decide +kernel
set_option maxRecDepth 100000 in
set_option maxHeartbeats 4000000 in
theorem c_X2_in (l : Launch) (D : va_G) (cI cN : ClassId) (v : Int32) (lo : Int32) (hi : Int32) : Fn l D cI cN yX2_in wsX2_in 0 ([] : va_W) [.int v, .int lo, .int hi] (some (.int (b2i (fIn v lo hi)))) ([] : va_W) := by
  refine Fn.of (cc := cX2_in) (nL := 3) (ret := (some .boolean)) (lv := [(0, .int v), (1, .int lo), (2, .int hi)]) (by decide +kernel) rfl (Nat.le_of_ble_eq_true rfl) rfl ?_
  intro p e s_ m args below meth c A B hr hA H locs ls hz hl
  have hx := B.1.1
  have hb := B.1.2.1
  refine lv_iload_n hx hb dX2_in_0 rfl (lv_at hl 0 rfl) ?_
  refine lv_iload_n hx hb dX2_in_1 rfl (lv_at hl 1 rfl) ?_
  refine lv_icmp_lt (tgt := 14) hx hb dX2_in_2 (by decide) (fun c2 => ?_) (fun c2 => ?_)
  · refine lv_iconst (v := (nI 0)) hx hb dX2_in_14 (by decide) ?_
    exact rz_z0 B hr hz dX2_in_15 (by first | exact fIn_a c2 | exact fIn_b c7 | exact fIn_c c2 c7) (by rfl)
  · refine lv_iload_n hx hb dX2_in_5 rfl (lv_at hl 0 rfl) ?_
    refine lv_iload_n hx hb dX2_in_6 rfl (lv_at hl 2 rfl) ?_
    refine lv_icmp_gt (tgt := 14) hx hb dX2_in_7 (by decide) (fun c7 => ?_) (fun c7 => ?_)
    · refine lv_iconst (v := (nI 0)) hx hb dX2_in_14 (by decide) ?_
      exact rz_z0 B hr hz dX2_in_15 (by first | exact fIn_a c2 | exact fIn_b c7 | exact fIn_c c2 c7) (by rfl)
    · refine lv_iconst (v := (nI 1)) hx hb dX2_in_10 (by decide) ?_
      refine lv_goto (tgt := 15) hx hb dX2_in_11 (by decide) ?_
      exact rz_z1 B hr hz dX2_in_15 (by first | exact fIn_a c2 | exact fIn_b c7 | exact fIn_c c2 c7) (by rfl)
theorem hd_X2_has : hdZ yX2_has 2 := by decide +kernel
set_option maxRecDepth 100000 in
set_option maxHeartbeats 4000000 in
theorem c_X2_has (l : Launch) (D : va_G) (cI cN : ClassId) (set : Int32) (k : Int32) : Fn l D cI cN yX2_has wsX2_has 0 ([] : va_W) [.int set, .int k] (some (.int (b2i (fHas set k)))) ([] : va_W) := by
  refine Fn.of (cc := cX2_has) (nL := 2) (ret := (some .boolean)) (lv := [(0, .int set), (1, .int k)]) (by decide +kernel) rfl (Nat.le_of_ble_eq_true rfl) rfl ?_
  intro p e s_ m args below meth c A B hr hA H locs ls hz hl
  have hx := B.1.1
  have hb := B.1.2.1
  refine lv_iload_n hx hb dX2_has_0 rfl (lv_at hl 0 rfl) ?_
  refine lv_iload_n hx hb dX2_has_1 rfl (lv_at hl 1 rfl) ?_
  refine lv_ishr hx hb dX2_has_2 ?_
  refine lv_iconst (v := (nI 1)) hx hb dX2_has_3 (by decide) ?_
  refine lv_iand hx hb dX2_has_4 ?_
  refine lv_iconst (v := (nI 1)) hx hb dX2_has_5 (by decide) ?_
  refine lv_icmp_ne (tgt := 13) hx hb dX2_has_6 (by decide) (fun c6 => ?_) (fun c6 => ?_)
  · refine lv_iconst (v := (nI 0)) hx hb dX2_has_13 (by decide) ?_
    exact rz_z0 B hr hz dX2_has_14 (by simp [fHas, c6]) (by rfl)
  · refine lv_iconst (v := (nI 1)) hx hb dX2_has_9 (by decide) ?_
    refine lv_goto (tgt := 14) hx hb dX2_has_10 (by decide) ?_
    exact rz_z1 B hr hz dX2_has_14 (by simp [fHas, c6]) (by rfl)
theorem hd_X2_isStation : hdZ yX2_isStation 1 := by decide +kernel
set_option maxRecDepth 100000 in
set_option maxHeartbeats 4000000 in
theorem c_X2_isStation (l : Launch) (D : va_G) (cI cN : ClassId) (k : Int32) : Fn l D cI cN yX2_isStation wsX2_isStation 1 ([] : va_W) [.int k] (some (.int (b2i (fSt k)))) ([] : va_W) := by
  refine Fn.of (cc := cX2_isStation) (nL := 1) (ret := (some .boolean)) (lv := [(0, .int k)]) (by decide +kernel) rfl (Nat.le_of_ble_eq_true rfl) rfl ?_
  intro p e s_ m args below meth c A B hr hA H locs ls hz hl
  have hx := B.1.1
  have hb := B.1.2.1
  refine lv_iload_n hx hb dX2_isStation_0 rfl (lv_at hl 0 rfl) ?_
  refine lv_iconst (v := (nI 0)) hx hb dX2_isStation_1 (by decide) ?_
  refine lv_iconst (v := (nI 4)) hx hb dX2_isStation_2 (by decide) ?_
  refine cS (k := 1) (As := [.int k, .int (nI 0), .int (nI 4)]) (rest := []) (v := .int (b2i (fIn k (nI 0) (nI 4)))) B hz hA (c_X2_in l D cI cN k (nI 0) (nI 4) ) gX2_isStation_X2_in rfl hd_X2_in (by decide) rfl hl.1 rfl (Nat.le_of_ble_eq_true rfl) dX2_isStation_3 (fun H locs hz => ?_)
  exact rz_z B hr hz dX2_isStation_6 (by rfl) (by rfl)
theorem hd_X2_isChannel : hdZ yX2_isChannel 1 := by decide +kernel
set_option maxRecDepth 100000 in
set_option maxHeartbeats 4000000 in
theorem c_X2_isChannel (l : Launch) (D : va_G) (cI cN : ClassId) (k : Int32) : Fn l D cI cN yX2_isChannel wsX2_isChannel 1 ([] : va_W) [.int k] (some (.int (b2i (fCh k)))) ([] : va_W) := by
  refine Fn.of (cc := cX2_isChannel) (nL := 1) (ret := (some .boolean)) (lv := [(0, .int k)]) (by decide +kernel) rfl (Nat.le_of_ble_eq_true rfl) rfl ?_
  intro p e s_ m args below meth c A B hr hA H locs ls hz hl
  have hx := B.1.1
  have hb := B.1.2.1
  refine lv_iload_n hx hb dX2_isChannel_0 rfl (lv_at hl 0 rfl) ?_
  refine lv_iconst (v := (nI 0)) hx hb dX2_isChannel_1 (by decide) ?_
  refine lv_bipush (v := (nI 7)) hx hb dX2_isChannel_2 (by decide) ?_
  refine cS (k := 1) (As := [.int k, .int (nI 0), .int (nI 7)]) (rest := []) (v := .int (b2i (fIn k (nI 0) (nI 7)))) B hz hA (c_X2_in l D cI cN k (nI 0) (nI 7) ) gX2_isChannel_X2_in rfl hd_X2_in (by decide) rfl hl.1 rfl (Nat.le_of_ble_eq_true rfl) dX2_isChannel_4 (fun H locs hz => ?_)
  exact rz_z B hr hz dX2_isChannel_7 (by rfl) (by rfl)
theorem hd_X2_isWord : hdZ yX2_isWord 1 := by decide +kernel
set_option maxRecDepth 100000 in
set_option maxHeartbeats 4000000 in
theorem c_X2_isWord (l : Launch) (D : va_G) (cI cN : ClassId) (k : Int32) : Fn l D cI cN yX2_isWord wsX2_isWord 1 ([] : va_W) [.int k] (some (.int (b2i (fWd k)))) ([] : va_W) := by
  refine Fn.of (cc := cX2_isWord) (nL := 1) (ret := (some .boolean)) (lv := [(0, .int k)]) (by decide +kernel) rfl (Nat.le_of_ble_eq_true rfl) rfl ?_
  intro p e s_ m args below meth c A B hr hA H locs ls hz hl
  have hx := B.1.1
  have hb := B.1.2.1
  refine lv_iload_n hx hb dX2_isWord_0 rfl (lv_at hl 0 rfl) ?_
  refine lv_iconst (v := (nI 0)) hx hb dX2_isWord_1 (by decide) ?_
  refine ldcz (v := (nI 16777215)) B (by decide +kernel) dX2_isWord_2 ?_
  refine cS (k := 1) (As := [.int k, .int (nI 0), .int (nI 16777215)]) (rest := []) (v := .int (b2i (fIn k (nI 0) (nI 16777215)))) B hz hA (c_X2_in l D cI cN k (nI 0) (nI 16777215) ) gX2_isWord_X2_in rfl hd_X2_in (by decide) rfl hl.1 rfl (Nat.le_of_ble_eq_true rfl) dX2_isWord_4 (fun H locs hz => ?_)
  exact rz_z B hr hz dX2_isWord_7 (by rfl) (by rfl)
theorem hd_X2_arePair : hdZ yX2_arePair 2 := by decide +kernel
set_option maxRecDepth 100000 in
set_option maxHeartbeats 4000000 in
theorem c_X2_arePair (l : Launch) (D : va_G) (cI cN : ClassId) (x : Int32) (y : Int32) : Fn l D cI cN yX2_arePair wsX2_arePair 2 ([] : va_W) [.int x, .int y] (some (.int (b2i (fPr x y)))) ([] : va_W) := by
  refine Fn.of (cc := cX2_arePair) (nL := 2) (ret := (some .boolean)) (lv := [(0, .int x), (1, .int y)]) (by decide +kernel) rfl (Nat.le_of_ble_eq_true rfl) rfl ?_
  intro p e s_ m args below meth c A B hr hA H locs ls hz hl
  have hx := B.1.1
  have hb := B.1.2.1
  refine lv_iload_n hx hb dX2_arePair_0 rfl (lv_at hl 0 rfl) ?_
  refine cS (k := 2) (As := [.int x]) (rest := []) (v := .int (b2i (fSt x))) B hz hA (c_X2_isStation l D cI cN x ) gX2_arePair_X2_isStation rfl hd_X2_isStation (by decide) rfl hl.1 rfl (Nat.le_of_ble_eq_true rfl) dX2_arePair_1 (fun H locs hz => ?_)
  refine lb_if_eq (tgt := 23) hx hb dX2_arePair_4 (by decide) (fun c4 => ?_) (fun c4 => ?_)
  · refine lv_iconst (v := (nI 0)) hx hb dX2_arePair_23 (by decide) ?_
    exact rz_z0 B hr hz dX2_arePair_24 (by simp_all [fPr]) (by rfl)
  · refine lv_iload_n hx hb dX2_arePair_7 rfl (lv_at hl 1 rfl) ?_
    refine cS (k := 2) (As := [.int y]) (rest := []) (v := .int (b2i (fSt y))) B hz hA (c_X2_isStation l D cI cN y ) gX2_arePair_X2_isStation rfl hd_X2_isStation (by decide) rfl hl.1 rfl (Nat.le_of_ble_eq_true rfl) dX2_arePair_8 (fun H locs hz => ?_)
    refine lb_if_eq (tgt := 23) hx hb dX2_arePair_11 (by decide) (fun c11 => ?_) (fun c11 => ?_)
    · refine lv_iconst (v := (nI 0)) hx hb dX2_arePair_23 (by decide) ?_
      exact rz_z0 B hr hz dX2_arePair_24 (by simp_all [fPr]) (by rfl)
    · refine lv_iload_n hx hb dX2_arePair_14 rfl (lv_at hl 0 rfl) ?_
      refine lv_iload_n hx hb dX2_arePair_15 rfl (lv_at hl 1 rfl) ?_
      refine lv_icmp_eq (tgt := 23) hx hb dX2_arePair_16 (by decide) (fun c16 => ?_) (fun c16 => ?_)
      · refine lv_iconst (v := (nI 0)) hx hb dX2_arePair_23 (by decide) ?_
        exact rz_z0 B hr hz dX2_arePair_24 (by simp_all [fPr]) (by rfl)
      · refine lv_iconst (v := (nI 1)) hx hb dX2_arePair_19 (by decide) ?_
        refine lv_goto (tgt := 24) hx hb dX2_arePair_20 (by decide) ?_
        exact rz_z1 B hr hz dX2_arePair_24 (by simp_all [fPr]) (by rfl)
theorem hd_X2_isThere : hdZ yX2_isThere 3 := by decide +kernel
set_option maxRecDepth 100000 in
set_option maxHeartbeats 4000000 in
theorem c_X2_isThere (l : Launch) (D : va_G) (cI cN : ClassId) (x : Int32) (y : Int32) (z : Int32) : Fn l D cI cN yX2_isThere wsX2_isThere 3 ([] : va_W) [.int x, .int y, .int z] (some (.int (b2i (fTh x y z)))) ([] : va_W) := by
  refine Fn.of (cc := cX2_isThere) (nL := 3) (ret := (some .boolean)) (lv := [(0, .int x), (1, .int y), (2, .int z)]) (by decide +kernel) rfl (Nat.le_of_ble_eq_true rfl) rfl ?_
  intro p e s_ m args below meth c A B hr hA H locs ls hz hl
  have hx := B.1.1
  have hb := B.1.2.1
  refine lv_iload_n hx hb dX2_isThere_0 rfl (lv_at hl 0 rfl) ?_
  refine lv_iload_n hx hb dX2_isThere_1 rfl (lv_at hl 1 rfl) ?_
  refine cS (k := 3) (As := [.int x, .int y]) (rest := []) (v := .int (b2i (fPr x y))) B hz hA (c_X2_arePair l D cI cN x y ) gX2_isThere_X2_arePair rfl hd_X2_arePair (by decide) rfl hl.1 rfl (Nat.le_of_ble_eq_true rfl) dX2_isThere_2 (fun H locs hz => ?_)
  refine lb_if_eq (tgt := 19) hx hb dX2_isThere_5 (by decide) (fun c5 => ?_) (fun c5 => ?_)
  · refine lv_iconst (v := (nI 0)) hx hb dX2_isThere_19 (by decide) ?_
    exact rz_z0 B hr hz dX2_isThere_20 (by simp_all [fTh]) (by rfl)
  · refine lv_iload_n hx hb dX2_isThere_8 rfl (lv_at hl 2 rfl) ?_
    refine cS (k := 3) (As := [.int z]) (rest := []) (v := .int (b2i (fCh z))) B hz hA (c_X2_isChannel l D cI cN z ) gX2_isThere_X2_isChannel rfl hd_X2_isChannel (by decide) rfl hl.1 rfl (Nat.le_of_ble_eq_true rfl) dX2_isThere_9 (fun H locs hz => ?_)
    refine lb_if_eq (tgt := 19) hx hb dX2_isThere_12 (by decide) (fun c12 => ?_) (fun c12 => ?_)
    · refine lv_iconst (v := (nI 0)) hx hb dX2_isThere_19 (by decide) ?_
      exact rz_z0 B hr hz dX2_isThere_20 (by simp_all [fTh]) (by rfl)
    · refine lv_iconst (v := (nI 1)) hx hb dX2_isThere_15 (by decide) ?_
      refine lv_goto (tgt := 20) hx hb dX2_isThere_16 (by decide) ?_
      exact rz_z1 B hr hz dX2_isThere_20 (by simp_all [fTh]) (by rfl)
theorem hd_X2_isNet : hdZ yX2_isNet 2 := by decide +kernel
set_option maxRecDepth 100000 in
set_option maxHeartbeats 4000000 in
theorem c_X2_isNet (l : Launch) (D : va_G) (cI cN : ClassId) (k : Int32) (ms : Int32) : Fn l D cI cN yX2_isNet wsX2_isNet 2 ([] : va_W) [.int k, .int ms] (some (.int (b2i (fNet k ms)))) ([] : va_W) := by
  refine Fn.of (cc := cX2_isNet) (nL := 2) (ret := (some .boolean)) (lv := [(0, .int k), (1, .int ms)]) (by decide +kernel) rfl (Nat.le_of_ble_eq_true rfl) rfl ?_
  intro p e s_ m args below meth c A B hr hA H locs ls hz hl
  have hx := B.1.1
  have hb := B.1.2.1
  refine lv_iload_n hx hb dX2_isNet_0 rfl (lv_at hl 0 rfl) ?_
  refine cS (k := 2) (As := [.int k]) (rest := []) (v := .int (b2i (fSt k))) B hz hA (c_X2_isStation l D cI cN k ) gX2_isNet_X2_isStation rfl hd_X2_isStation (by decide) rfl hl.1 rfl (Nat.le_of_ble_eq_true rfl) dX2_isNet_1 (fun H locs hz => ?_)
  refine lb_if_eq (tgt := 29) hx hb dX2_isNet_4 (by decide) (fun c4 => ?_) (fun c4 => ?_)
  · refine lv_iconst (v := (nI 0)) hx hb dX2_isNet_29 (by decide) ?_
    exact rz_z0 B hr hz dX2_isNet_30 (by simp_all [fNet]) (by rfl)
  · refine lv_iload_n hx hb dX2_isNet_7 rfl (lv_at hl 1 rfl) ?_
    refine lv_iconst (v := (nI 1)) hx hb dX2_isNet_8 (by decide) ?_
    refine lv_bipush (v := (nI 31)) hx hb dX2_isNet_9 (by decide) ?_
    refine cS (k := 2) (As := [.int ms, .int (nI 1), .int (nI 31)]) (rest := []) (v := .int (b2i (fIn ms (nI 1) (nI 31)))) B hz hA (c_X2_in l D cI cN ms (nI 1) (nI 31) ) gX2_isNet_X2_in rfl hd_X2_in (by decide) rfl hl.1 rfl (Nat.le_of_ble_eq_true rfl) dX2_isNet_11 (fun H locs hz => ?_)
    refine lb_if_eq (tgt := 29) hx hb dX2_isNet_14 (by decide) (fun c14 => ?_) (fun c14 => ?_)
    · refine lv_iconst (v := (nI 0)) hx hb dX2_isNet_29 (by decide) ?_
      exact rz_z0 B hr hz dX2_isNet_30 (by simp_all [fNet]) (by rfl)
    · refine lv_iload_n hx hb dX2_isNet_17 rfl (lv_at hl 1 rfl) ?_
      refine lv_iload_n hx hb dX2_isNet_18 rfl (lv_at hl 0 rfl) ?_
      refine cS (k := 2) (As := [.int ms, .int k]) (rest := []) (v := .int (b2i (fHas ms k))) B hz hA (c_X2_has l D cI cN ms k ) gX2_isNet_X2_has rfl hd_X2_has (by decide) rfl hl.1 rfl (Nat.le_of_ble_eq_true rfl) dX2_isNet_19 (fun H locs hz => ?_)
      refine lb_if_ne (tgt := 29) hx hb dX2_isNet_22 (by decide) (fun c22 => ?_) (fun c22 => ?_)
      · refine lv_iconst (v := (nI 0)) hx hb dX2_isNet_29 (by decide) ?_
        exact rz_z0 B hr hz dX2_isNet_30 (by simp_all [fNet]) (by rfl)
      · refine lv_iconst (v := (nI 1)) hx hb dX2_isNet_25 (by decide) ?_
        refine lv_goto (tgt := 30) hx hb dX2_isNet_26 (by decide) ?_
        exact rz_z1 B hr hz dX2_isNet_30 (by simp_all [fNet]) (by rfl)
theorem hd_X2_at : hdZ yX2_at 3 := by decide +kernel
set_option maxRecDepth 100000 in
set_option maxHeartbeats 4000000 in
theorem c_X2_at (l : Launch) (D : va_G) (cI cN : ClassId) (x : Nat) (y : Nat) (z : Nat) : Fn l D cI cN yX2_at wsX2_at 0 ([] : va_W) [.int (nI x), .int (nI y), .int (nI z)] (some (.int (nI (fAt x y z)))) ([] : va_W) := by
  refine Fn.of (cc := cX2_at) (nL := 3) (ret := (some .int)) (lv := [(0, .int (nI x)), (1, .int (nI y)), (2, .int (nI z))]) (by decide +kernel) rfl (Nat.le_of_ble_eq_true rfl) rfl ?_
  intro p e s_ m args below meth c A B hr hA H locs ls hz hl
  have hx := B.1.1
  have hb := B.1.2.1
  refine lv_bipush (v := (nI 40)) hx hb dX2_at_0 (by decide) ?_
  refine lv_iload_n hx hb dX2_at_2 rfl (lv_at hl 0 rfl) ?_
  refine ln_mul hx hb dX2_at_3 ?_
  refine lv_bipush (v := (nI 8)) hx hb dX2_at_4 (by decide) ?_
  refine lv_iload_n hx hb dX2_at_6 rfl (lv_at hl 1 rfl) ?_
  refine ln_mul hx hb dX2_at_7 ?_
  refine ln_add hx hb dX2_at_8 ?_
  refine lv_iload_n hx hb dX2_at_9 rfl (lv_at hl 2 rfl) ?_
  refine ln_add hx hb dX2_at_10 ?_
  exact rz_i B hr hz dX2_at_11 (by rfl) (by rfl)
theorem hd_X2_majority : hdZ yX2_majority 3 := by decide +kernel
set_option maxRecDepth 100000 in
set_option maxHeartbeats 4000000 in
theorem c_X2_majority (l : Launch) (D : va_G) (cI cN : ClassId) (x : Int32) (y : Int32) (z : Int32) : Fn l D cI cN yX2_majority wsX2_majority 0 ([] : va_W) [.int x, .int y, .int z] (some (.int (fMaj x y z))) ([] : va_W) := by
  refine Fn.of (cc := cX2_majority) (nL := 3) (ret := (some .int)) (lv := [(0, .int x), (1, .int y), (2, .int z)]) (by decide +kernel) rfl (Nat.le_of_ble_eq_true rfl) rfl ?_
  intro p e s_ m args below meth c A B hr hA H locs ls hz hl
  have hx := B.1.1
  have hb := B.1.2.1
  refine lv_iload_n hx hb dX2_majority_0 rfl (lv_at hl 0 rfl) ?_
  refine lv_iload_n hx hb dX2_majority_1 rfl (lv_at hl 1 rfl) ?_
  refine lv_iand hx hb dX2_majority_2 ?_
  refine lv_iload_n hx hb dX2_majority_3 rfl (lv_at hl 0 rfl) ?_
  refine lv_iload_n hx hb dX2_majority_4 rfl (lv_at hl 2 rfl) ?_
  refine lv_iand hx hb dX2_majority_5 ?_
  refine lv_ior hx hb dX2_majority_6 ?_
  refine lv_iload_n hx hb dX2_majority_7 rfl (lv_at hl 1 rfl) ?_
  refine lv_iload_n hx hb dX2_majority_8 rfl (lv_at hl 2 rfl) ?_
  refine lv_iand hx hb dX2_majority_9 ?_
  refine lv_ior hx hb dX2_majority_10 ?_
  exact rz_i B hr hz dX2_majority_11 (by rfl) (by rfl)
theorem hd_X2_count : hdZ yX2_count 1 := by decide +kernel
set_option maxRecDepth 100000 in
set_option maxHeartbeats 4000000 in
theorem c_X2_count (l : Launch) (D : va_G) (cI cN : ClassId) (t : Nat) (ht : t < 256) : Fn l D cI cN yX2_count wsX2_count 0 ([] : va_W) [.int (nI t)] (some (.int (nI (cnt t)))) ([] : va_W) := by
  refine Fn.of (cc := cX2_count) (nL := 3) (ret := (some .int)) (lv := [(0, .int (nI t))]) (by decide +kernel) rfl (Nat.le_of_ble_eq_true rfl) rfl ?_
  intro p e s_ m args below meth c A B hr hA H locs ls hz hl
  have hx := B.1.1
  have hb := B.1.2.1
  refine lv_iconst (v := (nI 0)) hx hb dX2_count_0 (by decide) ?_
  refine lv_istore_n (lv' := [(1, .int (nI 0)), (0, .int (nI t))]) hx hb dX2_count_1 rfl hl (by decide) rfl (fun ls hl => ?_)
  refine lv_iconst (v := (nI 0)) hx hb dX2_count_2 (by decide) ?_
  refine lv_istore_n (lv' := [(2, .int (nI 0)), (1, .int (nI 0)), (0, .int (nI t))]) hx hb dX2_count_3 rfl hl (by decide) rfl (fun ls hl => ?_)
  have LP : ∀ (n_LP : Nat) (i : Nat), i ≤ 8 → 8 - i < n_LP → ∀ (H : Heap) (locs : List Loc) (ls : Array Slot), Hz D A s_.heap H locs ([] : va_W) → lv_has ls 3 [(0, .int (nI t)), (1, .int (fCnI (nI t) i)), (2, .int (nI i))] → Wz p l e 0 s_ m args below meth c D A (some (.int (nI (cnt t)))) ([] : va_W) H locs (F0 m 4 ls []) := by
    intro n_LP
    induction n_LP with
    | zero => intro i hi hm; exact absurd hm (Nat.not_lt_zero _)
    | succ n_LP ih_LP =>
      intro i hi hm H locs ls hz hl
      refine lv_iload_n hx hb dX2_count_4 rfl (lv_at hl 2 rfl) ?_
      refine lv_bipush (v := (nI 8)) hx hb dX2_count_5 (by decide) ?_
      refine ln_icmp_ge (tgt := 24) hx hb dX2_count_7 (by decide) (by constructor <;> omega) (fun c7 => ?_) (fun c7 => ?_)
      · refine lv_iload_n hx hb dX2_count_24 rfl (lv_at hl 1 rfl) ?_
        exact rz_i B hr hz dX2_count_25 (by rw [show i = 8 by omega]; exact (cnt_ok t ht).1) (by rfl)
      · refine lv_iload_n hx hb dX2_count_10 rfl (lv_at hl 1 rfl) ?_
        refine lv_iload_n hx hb dX2_count_11 rfl (lv_at hl 0 rfl) ?_
        refine lv_iload_n hx hb dX2_count_12 rfl (lv_at hl 2 rfl) ?_
        refine lv_ishr hx hb dX2_count_13 ?_
        refine lv_iconst (v := (nI 1)) hx hb dX2_count_14 (by decide) ?_
        refine lv_iand hx hb dX2_count_15 ?_
        refine lv_iadd hx hb dX2_count_16 ?_
        refine lv_istore_n (lv' := [(1, .int ((fCnI (nI t) i) + (((nI t) >>> ((nI i) &&& 31)) &&& (nI 1)))), (0, .int (nI t)), (2, .int (nI i))]) hx hb dX2_count_17 rfl hl (by decide) rfl (fun ls hl => ?_)
        refine lv_iinc (v := nI (i + 1)) (lv' := [(2, .int (nI (i + 1))), (1, .int ((fCnI (nI t) i) + (((nI t) >>> ((nI i) &&& 31)) &&& (nI 1)))), (0, .int (nI t))]) hx hb dX2_count_18 hl (k := 2) rfl (nI_add i 1) (by decide) rfl (fun ls hl => ?_)
        refine lv_goto (tgt := 4) hx hb dX2_count_21 (by decide) ?_
        exact ih_LP (i + 1) (by omega) (by omega) H locs ls (hz.cast (by rfl)) (lv_cast (lv_sub hl [2, 1, 0] (l' := [(0, .int (nI t)), (1, .int ((fCnI (nI t) i) + (((nI t) >>> ((nI i) &&& 31)) &&& (nI 1)))), (2, .int (nI (i + 1)))]) rfl) (by rfl))
  exact LP _ 0 (by omega) (Nat.lt_succ_self _) H locs ls (hz.cast (by rfl)) (lv_cast (lv_sub hl [2, 1, 0] (l' := [(0, .int (nI t)), (1, .int (nI 0)), (2, .int (nI 0))]) rfl) (by rfl))
theorem hd_X1_isStation : hdZ yX1_isStation 1 := by decide +kernel
set_option maxRecDepth 100000 in
set_option maxHeartbeats 4000000 in
theorem c_X1_isStation (l : Launch) (D : va_G) (cI cN : ClassId) (k : Int32) : Fn l D cI cN yX1_isStation wsX1_isStation 0 ([] : va_W) [.int k] (some (.int (b2i (fSt k)))) ([] : va_W) := by
  refine Fn.of (cc := cX1_isStation) (nL := 1) (ret := (some .boolean)) (lv := [(0, .int k)]) (by decide +kernel) rfl (Nat.le_of_ble_eq_true rfl) rfl ?_
  intro p e s_ m args below meth c A B hr hA H locs ls hz hl
  have hx := B.1.1
  have hb := B.1.2.1
  refine lv_iload_n hx hb dX1_isStation_0 rfl (lv_at hl 0 rfl) ?_
  refine lv_if_lt (tgt := 13) hx hb dX1_isStation_1 (by decide) (fun c1 => ?_) (fun c1 => ?_)
  · refine lv_iconst (v := (nI 0)) hx hb dX1_isStation_13 (by decide) ?_
    exact rz_z0 B hr hz dX1_isStation_14 (by first | exact xSt_a c1 | exact xSt_b c1 c6 | exact xSt_c c1 c6) (by rfl)
  · refine lv_iload_n hx hb dX1_isStation_4 rfl (lv_at hl 0 rfl) ?_
    refine lv_iconst (v := (nI 5)) hx hb dX1_isStation_5 (by decide) ?_
    refine lv_icmp_ge (tgt := 13) hx hb dX1_isStation_6 (by decide) (fun c6 => ?_) (fun c6 => ?_)
    · refine lv_iconst (v := (nI 0)) hx hb dX1_isStation_13 (by decide) ?_
      exact rz_z0 B hr hz dX1_isStation_14 (by first | exact xSt_a c1 | exact xSt_b c1 c6 | exact xSt_c c1 c6) (by rfl)
    · refine lv_iconst (v := (nI 1)) hx hb dX1_isStation_9 (by decide) ?_
      refine lv_goto (tgt := 14) hx hb dX1_isStation_10 (by decide) ?_
      exact rz_z1 B hr hz dX1_isStation_14 (by first | exact xSt_a c1 | exact xSt_b c1 c6 | exact xSt_c c1 c6) (by rfl)
theorem hd_X1_isChannel : hdZ yX1_isChannel 1 := by decide +kernel
set_option maxRecDepth 100000 in
set_option maxHeartbeats 4000000 in
theorem c_X1_isChannel (l : Launch) (D : va_G) (cI cN : ClassId) (k : Int32) : Fn l D cI cN yX1_isChannel wsX1_isChannel 0 ([] : va_W) [.int k] (some (.int (b2i (fCh k)))) ([] : va_W) := by
  refine Fn.of (cc := cX1_isChannel) (nL := 1) (ret := (some .boolean)) (lv := [(0, .int k)]) (by decide +kernel) rfl (Nat.le_of_ble_eq_true rfl) rfl ?_
  intro p e s_ m args below meth c A B hr hA H locs ls hz hl
  have hx := B.1.1
  have hb := B.1.2.1
  refine lv_iload_n hx hb dX1_isChannel_0 rfl (lv_at hl 0 rfl) ?_
  refine lv_if_lt (tgt := 14) hx hb dX1_isChannel_1 (by decide) (fun c1 => ?_) (fun c1 => ?_)
  · refine lv_iconst (v := (nI 0)) hx hb dX1_isChannel_14 (by decide) ?_
    exact rz_z0 B hr hz dX1_isChannel_15 (by first | exact xCh_a c1 | exact xCh_b c1 c7 | exact xCh_c c1 c7) (by rfl)
  · refine lv_iload_n hx hb dX1_isChannel_4 rfl (lv_at hl 0 rfl) ?_
    refine lv_bipush (v := (nI 8)) hx hb dX1_isChannel_5 (by decide) ?_
    refine lv_icmp_ge (tgt := 14) hx hb dX1_isChannel_7 (by decide) (fun c7 => ?_) (fun c7 => ?_)
    · refine lv_iconst (v := (nI 0)) hx hb dX1_isChannel_14 (by decide) ?_
      exact rz_z0 B hr hz dX1_isChannel_15 (by first | exact xCh_a c1 | exact xCh_b c1 c7 | exact xCh_c c1 c7) (by rfl)
    · refine lv_iconst (v := (nI 1)) hx hb dX1_isChannel_10 (by decide) ?_
      refine lv_goto (tgt := 15) hx hb dX1_isChannel_11 (by decide) ?_
      exact rz_z1 B hr hz dX1_isChannel_15 (by first | exact xCh_a c1 | exact xCh_b c1 c7 | exact xCh_c c1 c7) (by rfl)
theorem hd_X1_isWord : hdZ yX1_isWord 1 := by decide +kernel
set_option maxRecDepth 100000 in
set_option maxHeartbeats 4000000 in
theorem c_X1_isWord (l : Launch) (D : va_G) (cI cN : ClassId) (k : Int32) : Fn l D cI cN yX1_isWord wsX1_isWord 0 ([] : va_W) [.int k] (some (.int (b2i (fWd k)))) ([] : va_W) := by
  refine Fn.of (cc := cX1_isWord) (nL := 1) (ret := (some .boolean)) (lv := [(0, .int k)]) (by decide +kernel) rfl (Nat.le_of_ble_eq_true rfl) rfl ?_
  intro p e s_ m args below meth c A B hr hA H locs ls hz hl
  have hx := B.1.1
  have hb := B.1.2.1
  refine lv_iload_n hx hb dX1_isWord_0 rfl (lv_at hl 0 rfl) ?_
  refine lv_if_lt (tgt := 14) hx hb dX1_isWord_1 (by decide) (fun c1 => ?_) (fun c1 => ?_)
  · refine lv_iconst (v := (nI 0)) hx hb dX1_isWord_14 (by decide) ?_
    exact rz_z0 B hr hz dX1_isWord_15 (by first | exact fIn_a c1 | exact fIn_b c7 | exact fIn_c c1 c7) (by rfl)
  · refine lv_iload_n hx hb dX1_isWord_4 rfl (lv_at hl 0 rfl) ?_
    refine ldcz (v := (nI 16777215)) B (by decide +kernel) dX1_isWord_5 ?_
    refine lv_icmp_gt (tgt := 14) hx hb dX1_isWord_7 (by decide) (fun c7 => ?_) (fun c7 => ?_)
    · refine lv_iconst (v := (nI 0)) hx hb dX1_isWord_14 (by decide) ?_
      exact rz_z0 B hr hz dX1_isWord_15 (by first | exact fIn_a c1 | exact fIn_b c7 | exact fIn_c c1 c7) (by rfl)
    · refine lv_iconst (v := (nI 1)) hx hb dX1_isWord_10 (by decide) ?_
      refine lv_goto (tgt := 15) hx hb dX1_isWord_11 (by decide) ?_
      exact rz_z1 B hr hz dX1_isWord_15 (by first | exact fIn_a c1 | exact fIn_b c7 | exact fIn_c c1 c7) (by rfl)
theorem hd_X1_isPair : hdZ yX1_isPair 2 := by decide +kernel
set_option maxRecDepth 100000 in
set_option maxHeartbeats 4000000 in
theorem c_X1_isPair (l : Launch) (D : va_G) (cI cN : ClassId) (x : Int32) (y : Int32) : Fn l D cI cN yX1_isPair wsX1_isPair 1 ([] : va_W) [.int x, .int y] (some (.int (b2i (fPr x y)))) ([] : va_W) := by
  refine Fn.of (cc := cX1_isPair) (nL := 2) (ret := (some .boolean)) (lv := [(0, .int x), (1, .int y)]) (by decide +kernel) rfl (Nat.le_of_ble_eq_true rfl) rfl ?_
  intro p e s_ m args below meth c A B hr hA H locs ls hz hl
  have hx := B.1.1
  have hb := B.1.2.1
  refine lv_iload_n hx hb dX1_isPair_0 rfl (lv_at hl 0 rfl) ?_
  refine cS (k := 1) (As := [.int x]) (rest := []) (v := .int (b2i (fSt x))) B hz hA (c_X1_isStation l D cI cN x ) gX1_isPair_X1_isStation rfl hd_X1_isStation (by decide) rfl hl.1 rfl (Nat.le_of_ble_eq_true rfl) dX1_isPair_1 (fun H locs hz => ?_)
  refine lb_if_eq (tgt := 23) hx hb dX1_isPair_4 (by decide) (fun c4 => ?_) (fun c4 => ?_)
  · refine lv_iconst (v := (nI 0)) hx hb dX1_isPair_23 (by decide) ?_
    exact rz_z0 B hr hz dX1_isPair_24 (by simp_all [fPr]) (by rfl)
  · refine lv_iload_n hx hb dX1_isPair_7 rfl (lv_at hl 1 rfl) ?_
    refine cS (k := 1) (As := [.int y]) (rest := []) (v := .int (b2i (fSt y))) B hz hA (c_X1_isStation l D cI cN y ) gX1_isPair_X1_isStation rfl hd_X1_isStation (by decide) rfl hl.1 rfl (Nat.le_of_ble_eq_true rfl) dX1_isPair_8 (fun H locs hz => ?_)
    refine lb_if_eq (tgt := 23) hx hb dX1_isPair_11 (by decide) (fun c11 => ?_) (fun c11 => ?_)
    · refine lv_iconst (v := (nI 0)) hx hb dX1_isPair_23 (by decide) ?_
      exact rz_z0 B hr hz dX1_isPair_24 (by simp_all [fPr]) (by rfl)
    · refine lv_iload_n hx hb dX1_isPair_14 rfl (lv_at hl 0 rfl) ?_
      refine lv_iload_n hx hb dX1_isPair_15 rfl (lv_at hl 1 rfl) ?_
      refine lv_icmp_eq (tgt := 23) hx hb dX1_isPair_16 (by decide) (fun c16 => ?_) (fun c16 => ?_)
      · refine lv_iconst (v := (nI 0)) hx hb dX1_isPair_23 (by decide) ?_
        exact rz_z0 B hr hz dX1_isPair_24 (by simp_all [fPr]) (by rfl)
      · refine lv_iconst (v := (nI 1)) hx hb dX1_isPair_19 (by decide) ?_
        refine lv_goto (tgt := 24) hx hb dX1_isPair_20 (by decide) ?_
        exact rz_z1 B hr hz dX1_isPair_24 (by simp_all [fPr]) (by rfl)
theorem hd_X1_isCell : hdZ yX1_isCell 3 := by decide +kernel
set_option maxRecDepth 100000 in
set_option maxHeartbeats 4000000 in
theorem c_X1_isCell (l : Launch) (D : va_G) (cI cN : ClassId) (x : Int32) (y : Int32) (z : Int32) : Fn l D cI cN yX1_isCell wsX1_isCell 2 ([] : va_W) [.int x, .int y, .int z] (some (.int (b2i (fTh x y z)))) ([] : va_W) := by
  refine Fn.of (cc := cX1_isCell) (nL := 3) (ret := (some .boolean)) (lv := [(0, .int x), (1, .int y), (2, .int z)]) (by decide +kernel) rfl (Nat.le_of_ble_eq_true rfl) rfl ?_
  intro p e s_ m args below meth c A B hr hA H locs ls hz hl
  have hx := B.1.1
  have hb := B.1.2.1
  refine lv_iload_n hx hb dX1_isCell_0 rfl (lv_at hl 0 rfl) ?_
  refine lv_iload_n hx hb dX1_isCell_1 rfl (lv_at hl 1 rfl) ?_
  refine cS (k := 2) (As := [.int x, .int y]) (rest := []) (v := .int (b2i (fPr x y))) B hz hA (c_X1_isPair l D cI cN x y ) gX1_isCell_X1_isPair rfl hd_X1_isPair (by decide) rfl hl.1 rfl (Nat.le_of_ble_eq_true rfl) dX1_isCell_2 (fun H locs hz => ?_)
  refine lb_if_eq (tgt := 19) hx hb dX1_isCell_5 (by decide) (fun c5 => ?_) (fun c5 => ?_)
  · refine lv_iconst (v := (nI 0)) hx hb dX1_isCell_19 (by decide) ?_
    exact rz_z0 B hr hz dX1_isCell_20 (by simp_all [fTh]) (by rfl)
  · refine lv_iload_n hx hb dX1_isCell_8 rfl (lv_at hl 2 rfl) ?_
    refine cS (k := 2) (As := [.int z]) (rest := []) (v := .int (b2i (fCh z))) B hz hA (c_X1_isChannel l D cI cN z ) gX1_isCell_X1_isChannel rfl hd_X1_isChannel (by decide) rfl hl.1 rfl (Nat.le_of_ble_eq_true rfl) dX1_isCell_9 (fun H locs hz => ?_)
    refine lb_if_eq (tgt := 19) hx hb dX1_isCell_12 (by decide) (fun c12 => ?_) (fun c12 => ?_)
    · refine lv_iconst (v := (nI 0)) hx hb dX1_isCell_19 (by decide) ?_
      exact rz_z0 B hr hz dX1_isCell_20 (by simp_all [fTh]) (by rfl)
    · refine lv_iconst (v := (nI 1)) hx hb dX1_isCell_15 (by decide) ?_
      refine lv_goto (tgt := 20) hx hb dX1_isCell_16 (by decide) ?_
      exact rz_z1 B hr hz dX1_isCell_20 (by simp_all [fTh]) (by rfl)
theorem hd_X1_contains : hdZ yX1_contains 2 := by decide +kernel
set_option maxRecDepth 100000 in
set_option maxHeartbeats 4000000 in
theorem c_X1_contains (l : Launch) (D : va_G) (cI cN : ClassId) (set : Int32) (k : Int32) : Fn l D cI cN yX1_contains wsX1_contains 0 ([] : va_W) [.int set, .int k] (some (.int (b2i (fHas set k)))) ([] : va_W) := by
  refine Fn.of (cc := cX1_contains) (nL := 2) (ret := (some .boolean)) (lv := [(0, .int set), (1, .int k)]) (by decide +kernel) rfl (Nat.le_of_ble_eq_true rfl) rfl ?_
  intro p e s_ m args below meth c A B hr hA H locs ls hz hl
  have hx := B.1.1
  have hb := B.1.2.1
  refine lv_iload_n hx hb dX1_contains_0 rfl (lv_at hl 0 rfl) ?_
  refine lv_iconst (v := (nI 1)) hx hb dX1_contains_1 (by decide) ?_
  refine lv_iload_n hx hb dX1_contains_2 rfl (lv_at hl 1 rfl) ?_
  refine lv_ishl hx hb dX1_contains_3 ?_
  refine lv_iand hx hb dX1_contains_4 ?_
  refine lv_if_eq (tgt := 12) hx hb dX1_contains_5 (by decide) (fun c5 => ?_) (fun c5 => ?_)
  · refine lv_iconst (v := (nI 0)) hx hb dX1_contains_12 (by decide) ?_
    exact rz_z0 B hr hz dX1_contains_13 (by first | exact xHas_a c5 | exact xHas_b c5) (by rfl)
  · refine lv_iconst (v := (nI 1)) hx hb dX1_contains_8 (by decide) ?_
    refine lv_goto (tgt := 13) hx hb dX1_contains_9 (by decide) ?_
    exact rz_z1 B hr hz dX1_contains_13 (by first | exact xHas_a c5 | exact xHas_b c5) (by rfl)
theorem hd_X1_isNet : hdZ yX1_isNet 2 := by decide +kernel
set_option maxRecDepth 100000 in
set_option maxHeartbeats 4000000 in
theorem c_X1_isNet (l : Launch) (D : va_G) (cI cN : ClassId) (k : Int32) (ms : Int32) : Fn l D cI cN yX1_isNet wsX1_isNet 1 ([] : va_W) [.int k, .int ms] (some (.int (b2i (fNet k ms)))) ([] : va_W) := by
  refine Fn.of (cc := cX1_isNet) (nL := 2) (ret := (some .boolean)) (lv := [(0, .int k), (1, .int ms)]) (by decide +kernel) rfl (Nat.le_of_ble_eq_true rfl) rfl ?_
  intro p e s_ m args below meth c A B hr hA H locs ls hz hl
  have hx := B.1.1
  have hb := B.1.2.1
  refine lv_iload_n hx hb dX1_isNet_0 rfl (lv_at hl 0 rfl) ?_
  refine cS (k := 1) (As := [.int k]) (rest := []) (v := .int (b2i (fSt k))) B hz hA (c_X1_isStation l D cI cN k ) gX1_isNet_X1_isStation rfl hd_X1_isStation (by decide) rfl hl.1 rfl (Nat.le_of_ble_eq_true rfl) dX1_isNet_1 (fun H locs hz => ?_)
  refine lb_if_eq (tgt := 30) hx hb dX1_isNet_4 (by decide) (fun c4 => ?_) (fun c4 => ?_)
  · refine lv_iconst (v := (nI 0)) hx hb dX1_isNet_30 (by decide) ?_
    exact rz_z0 B hr hz dX1_isNet_31 (by first | (simp [fNet, c4]; done) | (simp [fNet, c4, ← fIn_a c9]; done) | (simp [fNet, c4, ← fIn_b c15]; done) | (simp [fNet, c4, ← fIn_c c9 c15, c23]; done)) (by rfl)
  · refine lv_iload_n hx hb dX1_isNet_7 rfl (lv_at hl 1 rfl) ?_
    refine lv_iconst (v := (nI 1)) hx hb dX1_isNet_8 (by decide) ?_
    refine lv_icmp_lt (tgt := 30) hx hb dX1_isNet_9 (by decide) (fun c9 => ?_) (fun c9 => ?_)
    · refine lv_iconst (v := (nI 0)) hx hb dX1_isNet_30 (by decide) ?_
      exact rz_z0 B hr hz dX1_isNet_31 (by first | (simp [fNet, c4]; done) | (simp [fNet, c4, ← fIn_a c9]; done) | (simp [fNet, c4, ← fIn_b c15]; done) | (simp [fNet, c4, ← fIn_c c9 c15, c23]; done)) (by rfl)
    · refine lv_iload_n hx hb dX1_isNet_12 rfl (lv_at hl 1 rfl) ?_
      refine lv_bipush (v := (nI 31)) hx hb dX1_isNet_13 (by decide) ?_
      refine lv_icmp_gt (tgt := 30) hx hb dX1_isNet_15 (by decide) (fun c15 => ?_) (fun c15 => ?_)
      · refine lv_iconst (v := (nI 0)) hx hb dX1_isNet_30 (by decide) ?_
        exact rz_z0 B hr hz dX1_isNet_31 (by first | (simp [fNet, c4]; done) | (simp [fNet, c4, ← fIn_a c9]; done) | (simp [fNet, c4, ← fIn_b c15]; done) | (simp [fNet, c4, ← fIn_c c9 c15, c23]; done)) (by rfl)
      · refine lv_iload_n hx hb dX1_isNet_18 rfl (lv_at hl 1 rfl) ?_
        refine lv_iload_n hx hb dX1_isNet_19 rfl (lv_at hl 0 rfl) ?_
        refine cS (k := 1) (As := [.int ms, .int k]) (rest := []) (v := .int (b2i (fHas ms k))) B hz hA (c_X1_contains l D cI cN ms k ) gX1_isNet_X1_contains rfl hd_X1_contains (by decide) rfl hl.1 rfl (Nat.le_of_ble_eq_true rfl) dX1_isNet_20 (fun H locs hz => ?_)
        refine lb_if_ne (tgt := 30) hx hb dX1_isNet_23 (by decide) (fun c23 => ?_) (fun c23 => ?_)
        · refine lv_iconst (v := (nI 0)) hx hb dX1_isNet_30 (by decide) ?_
          exact rz_z0 B hr hz dX1_isNet_31 (by first | (simp [fNet, c4]; done) | (simp [fNet, c4, ← fIn_a c9]; done) | (simp [fNet, c4, ← fIn_b c15]; done) | (simp [fNet, c4, ← fIn_c c9 c15, c23]; done)) (by rfl)
        · refine lv_iconst (v := (nI 1)) hx hb dX1_isNet_26 (by decide) ?_
          refine lv_goto (tgt := 31) hx hb dX1_isNet_27 (by decide) ?_
          exact rz_z1 B hr hz dX1_isNet_31 (by first | (simp [fNet, c4]; done) | (simp [fNet, c4, ← fIn_a c9]; done) | (simp [fNet, c4, ← fIn_b c15]; done) | (simp [fNet, c4, ← fIn_c c9 c15, c23]; done)) (by rfl)
theorem hd_X1_cell : hdZ yX1_cell 3 := by decide +kernel
set_option maxRecDepth 100000 in
set_option maxHeartbeats 4000000 in
theorem c_X1_cell (l : Launch) (D : va_G) (cI cN : ClassId) (x : Nat) (y : Nat) (z : Nat) : Fn l D cI cN yX1_cell wsX1_cell 0 ([] : va_W) [.int (nI x), .int (nI y), .int (nI z)] (some (.int (nI (fAt x y z)))) ([] : va_W) := by
  refine Fn.of (cc := cX1_cell) (nL := 3) (ret := (some .int)) (lv := [(0, .int (nI x)), (1, .int (nI y)), (2, .int (nI z))]) (by decide +kernel) rfl (Nat.le_of_ble_eq_true rfl) rfl ?_
  intro p e s_ m args below meth c A B hr hA H locs ls hz hl
  have hx := B.1.1
  have hb := B.1.2.1
  refine lv_iload_n hx hb dX1_cell_0 rfl (lv_at hl 0 rfl) ?_
  refine lv_iconst (v := (nI 5)) hx hb dX1_cell_1 (by decide) ?_
  refine ln_mul hx hb dX1_cell_2 ?_
  refine lv_iload_n hx hb dX1_cell_3 rfl (lv_at hl 1 rfl) ?_
  refine ln_add hx hb dX1_cell_4 ?_
  refine lv_bipush (v := (nI 8)) hx hb dX1_cell_5 (by decide) ?_
  refine ln_mul hx hb dX1_cell_7 ?_
  refine lv_iload_n hx hb dX1_cell_8 rfl (lv_at hl 2 rfl) ?_
  refine ln_add hx hb dX1_cell_9 ?_
  exact rz_i B hr hz dX1_cell_10 (by congr 1; unfold fAt; omega) (by rfl)
theorem hd_X1_majority : hdZ yX1_majority 3 := by decide +kernel
set_option maxRecDepth 100000 in
set_option maxHeartbeats 4000000 in
theorem c_X1_majority (l : Launch) (D : va_G) (cI cN : ClassId) (x : Int32) (y : Int32) (z : Int32) : Fn l D cI cN yX1_majority wsX1_majority 0 ([] : va_W) [.int x, .int y, .int z] (some (.int (fMaj x y z))) ([] : va_W) := by
  refine Fn.of (cc := cX1_majority) (nL := 3) (ret := (some .int)) (lv := [(0, .int x), (1, .int y), (2, .int z)]) (by decide +kernel) rfl (Nat.le_of_ble_eq_true rfl) rfl ?_
  intro p e s_ m args below meth c A B hr hA H locs ls hz hl
  have hx := B.1.1
  have hb := B.1.2.1
  refine lv_iload_n hx hb dX1_majority_0 rfl (lv_at hl 0 rfl) ?_
  refine lv_iload_n hx hb dX1_majority_1 rfl (lv_at hl 1 rfl) ?_
  refine lv_iand hx hb dX1_majority_2 ?_
  refine lv_iload_n hx hb dX1_majority_3 rfl (lv_at hl 0 rfl) ?_
  refine lv_iload_n hx hb dX1_majority_4 rfl (lv_at hl 2 rfl) ?_
  refine lv_iand hx hb dX1_majority_5 ?_
  refine lv_ior hx hb dX1_majority_6 ?_
  refine lv_iload_n hx hb dX1_majority_7 rfl (lv_at hl 1 rfl) ?_
  refine lv_iload_n hx hb dX1_majority_8 rfl (lv_at hl 2 rfl) ?_
  refine lv_iand hx hb dX1_majority_9 ?_
  refine lv_ior hx hb dX1_majority_10 ?_
  exact rz_i B hr hz dX1_majority_11 (by rfl) (by rfl)
theorem hd_X1_mix : hdZ yX1_mix 2 := by decide +kernel
set_option maxRecDepth 100000 in
set_option maxHeartbeats 4000000 in
theorem c_X1_mix (l : Launch) (D : va_G) (cI cN : ClassId) (x : Int64) (y : Int64) : Fn l D cI cN yX1_mix wsX1_mix 0 ([] : va_W) [.long x, .long y] (some (.long (31 * x + y))) ([] : va_W) := by
  refine Fn.of (cc := cX1_mix) (nL := 4) (ret := (some .long)) (lv := [(0, .long x), (2, .long y)]) (by decide +kernel) rfl (Nat.le_of_ble_eq_true rfl) rfl ?_
  intro p e s_ m args below meth c A B hr hA H locs ls hz hl
  have hx := B.1.1
  have hb := B.1.2.1
  refine ldc2z (v := 31) B (by decide +kernel) dX1_mix_0 ?_
  refine lv_lload_n hx hb dX1_mix_3 rfl (lv_at hl 0 rfl) ?_
  refine lv_lmul hx hb dX1_mix_4 ?_
  refine lv_lload_n hx hb dX1_mix_5 rfl (lv_at hl 1 rfl) ?_
  refine lv_ladd hx hb dX1_mix_6 ?_
  exact rz_l B hr hz dX1_mix_7 (by rfl) (by rfl)
theorem hd_J6_bitCount_0f7a4 : hdZ yJ6_bitCount_0f7a4 1 := by decide +kernel
set_option maxRecDepth 100000 in
set_option maxHeartbeats 4000000 in
theorem c_J6_bitCount_0f7a4 (l : Launch) (D : va_G) (cI cN : ClassId) (x : Int32) : Fn l D cI cN yJ6_bitCount_0f7a4 wsJ6_bitCount_0f7a4 0 ([] : va_W) [.int x] (some (.int (fBc x))) ([] : va_W) := by
  refine Fn.of (cc := cJ6_bitCount_0f7a4) (nL := 1) (ret := (some .int)) (lv := [(0, .int x)]) (by decide +kernel) rfl (Nat.le_of_ble_eq_true rfl) rfl ?_
  intro p e s_ m args below meth c A B hr hA H locs ls hz hl
  have hx := B.1.1
  have hb := B.1.2.1
  refine lv_iload_n hx hb dJ6_bitCount_0f7a4_0 rfl (lv_at hl 0 rfl) ?_
  refine lv_iload_n hx hb dJ6_bitCount_0f7a4_1 rfl (lv_at hl 0 rfl) ?_
  refine lv_iconst (v := (nI 1)) hx hb dJ6_bitCount_0f7a4_2 (by decide) ?_
  refine lv_iushr hx hb dJ6_bitCount_0f7a4_3 rfl ?_
  refine ldcwz (v := (nI 1431655765)) B (by decide +kernel) dJ6_bitCount_0f7a4_4 ?_
  refine lv_iand hx hb dJ6_bitCount_0f7a4_7 ?_
  refine lv_isub hx hb dJ6_bitCount_0f7a4_8 ?_
  refine lv_istore_n (lv' := [(0, .int (x - (((x.toUInt32 >>> ((nI 1).toUInt32 &&& Int32.toUInt32 31)).toInt32) &&& (nI 1431655765))))]) hx hb dJ6_bitCount_0f7a4_9 rfl hl (by decide) rfl (fun ls hl => ?_)
  refine lv_iload_n hx hb dJ6_bitCount_0f7a4_10 rfl (lv_at hl 0 rfl) ?_
  refine ldcwz (v := (nI 858993459)) B (by decide +kernel) dJ6_bitCount_0f7a4_11 ?_
  refine lv_iand hx hb dJ6_bitCount_0f7a4_14 ?_
  refine lv_iload_n hx hb dJ6_bitCount_0f7a4_15 rfl (lv_at hl 0 rfl) ?_
  refine lv_iconst (v := (nI 2)) hx hb dJ6_bitCount_0f7a4_16 (by decide) ?_
  refine lv_iushr hx hb dJ6_bitCount_0f7a4_17 rfl ?_
  refine ldcwz (v := (nI 858993459)) B (by decide +kernel) dJ6_bitCount_0f7a4_18 ?_
  refine lv_iand hx hb dJ6_bitCount_0f7a4_21 ?_
  refine lv_iadd hx hb dJ6_bitCount_0f7a4_22 ?_
  refine lv_istore_n (lv' := [(0, .int (((x - (((x.toUInt32 >>> ((nI 1).toUInt32 &&& Int32.toUInt32 31)).toInt32) &&& (nI 1431655765))) &&& (nI 858993459)) + ((((x - (((x.toUInt32 >>> ((nI 1).toUInt32 &&& Int32.toUInt32 31)).toInt32) &&& (nI 1431655765))).toUInt32 >>> ((nI 2).toUInt32 &&& Int32.toUInt32 31)).toInt32) &&& (nI 858993459))))]) hx hb dJ6_bitCount_0f7a4_23 rfl hl (by decide) rfl (fun ls hl => ?_)
  refine lv_iload_n hx hb dJ6_bitCount_0f7a4_24 rfl (lv_at hl 0 rfl) ?_
  refine lv_iload_n hx hb dJ6_bitCount_0f7a4_25 rfl (lv_at hl 0 rfl) ?_
  refine lv_iconst (v := (nI 4)) hx hb dJ6_bitCount_0f7a4_26 (by decide) ?_
  refine lv_iushr hx hb dJ6_bitCount_0f7a4_27 rfl ?_
  refine lv_iadd hx hb dJ6_bitCount_0f7a4_28 ?_
  refine ldcwz (v := (nI 252645135)) B (by decide +kernel) dJ6_bitCount_0f7a4_29 ?_
  refine lv_iand hx hb dJ6_bitCount_0f7a4_32 ?_
  refine lv_istore_n (lv' := [(0, .int (((((x - (((x.toUInt32 >>> ((nI 1).toUInt32 &&& Int32.toUInt32 31)).toInt32) &&& (nI 1431655765))) &&& (nI 858993459)) + ((((x - (((x.toUInt32 >>> ((nI 1).toUInt32 &&& Int32.toUInt32 31)).toInt32) &&& (nI 1431655765))).toUInt32 >>> ((nI 2).toUInt32 &&& Int32.toUInt32 31)).toInt32) &&& (nI 858993459))) + (((((x - (((x.toUInt32 >>> ((nI 1).toUInt32 &&& Int32.toUInt32 31)).toInt32) &&& (nI 1431655765))) &&& (nI 858993459)) + ((((x - (((x.toUInt32 >>> ((nI 1).toUInt32 &&& Int32.toUInt32 31)).toInt32) &&& (nI 1431655765))).toUInt32 >>> ((nI 2).toUInt32 &&& Int32.toUInt32 31)).toInt32) &&& (nI 858993459))).toUInt32 >>> ((nI 4).toUInt32 &&& Int32.toUInt32 31)).toInt32)) &&& (nI 252645135)))]) hx hb dJ6_bitCount_0f7a4_33 rfl hl (by decide) rfl (fun ls hl => ?_)
  refine lv_iload_n hx hb dJ6_bitCount_0f7a4_34 rfl (lv_at hl 0 rfl) ?_
  refine lv_iload_n hx hb dJ6_bitCount_0f7a4_35 rfl (lv_at hl 0 rfl) ?_
  refine lv_bipush (v := (nI 8)) hx hb dJ6_bitCount_0f7a4_36 (by decide) ?_
  refine lv_iushr hx hb dJ6_bitCount_0f7a4_38 rfl ?_
  refine lv_iadd hx hb dJ6_bitCount_0f7a4_39 ?_
  refine lv_istore_n (lv' := [(0, .int ((((((x - (((x.toUInt32 >>> ((nI 1).toUInt32 &&& Int32.toUInt32 31)).toInt32) &&& (nI 1431655765))) &&& (nI 858993459)) + ((((x - (((x.toUInt32 >>> ((nI 1).toUInt32 &&& Int32.toUInt32 31)).toInt32) &&& (nI 1431655765))).toUInt32 >>> ((nI 2).toUInt32 &&& Int32.toUInt32 31)).toInt32) &&& (nI 858993459))) + (((((x - (((x.toUInt32 >>> ((nI 1).toUInt32 &&& Int32.toUInt32 31)).toInt32) &&& (nI 1431655765))) &&& (nI 858993459)) + ((((x - (((x.toUInt32 >>> ((nI 1).toUInt32 &&& Int32.toUInt32 31)).toInt32) &&& (nI 1431655765))).toUInt32 >>> ((nI 2).toUInt32 &&& Int32.toUInt32 31)).toInt32) &&& (nI 858993459))).toUInt32 >>> ((nI 4).toUInt32 &&& Int32.toUInt32 31)).toInt32)) &&& (nI 252645135)) + (((((((x - (((x.toUInt32 >>> ((nI 1).toUInt32 &&& Int32.toUInt32 31)).toInt32) &&& (nI 1431655765))) &&& (nI 858993459)) + ((((x - (((x.toUInt32 >>> ((nI 1).toUInt32 &&& Int32.toUInt32 31)).toInt32) &&& (nI 1431655765))).toUInt32 >>> ((nI 2).toUInt32 &&& Int32.toUInt32 31)).toInt32) &&& (nI 858993459))) + (((((x - (((x.toUInt32 >>> ((nI 1).toUInt32 &&& Int32.toUInt32 31)).toInt32) &&& (nI 1431655765))) &&& (nI 858993459)) + ((((x - (((x.toUInt32 >>> ((nI 1).toUInt32 &&& Int32.toUInt32 31)).toInt32) &&& (nI 1431655765))).toUInt32 >>> ((nI 2).toUInt32 &&& Int32.toUInt32 31)).toInt32) &&& (nI 858993459))).toUInt32 >>> ((nI 4).toUInt32 &&& Int32.toUInt32 31)).toInt32)) &&& (nI 252645135)).toUInt32 >>> ((nI 8).toUInt32 &&& Int32.toUInt32 31)).toInt32)))]) hx hb dJ6_bitCount_0f7a4_40 rfl hl (by decide) rfl (fun ls hl => ?_)
  refine lv_iload_n hx hb dJ6_bitCount_0f7a4_41 rfl (lv_at hl 0 rfl) ?_
  refine lv_iload_n hx hb dJ6_bitCount_0f7a4_42 rfl (lv_at hl 0 rfl) ?_
  refine lv_bipush (v := (nI 16)) hx hb dJ6_bitCount_0f7a4_43 (by decide) ?_
  refine lv_iushr hx hb dJ6_bitCount_0f7a4_45 rfl ?_
  refine lv_iadd hx hb dJ6_bitCount_0f7a4_46 ?_
  refine lv_istore_n (lv' := [(0, .int (((((((x - (((x.toUInt32 >>> ((nI 1).toUInt32 &&& Int32.toUInt32 31)).toInt32) &&& (nI 1431655765))) &&& (nI 858993459)) + ((((x - (((x.toUInt32 >>> ((nI 1).toUInt32 &&& Int32.toUInt32 31)).toInt32) &&& (nI 1431655765))).toUInt32 >>> ((nI 2).toUInt32 &&& Int32.toUInt32 31)).toInt32) &&& (nI 858993459))) + (((((x - (((x.toUInt32 >>> ((nI 1).toUInt32 &&& Int32.toUInt32 31)).toInt32) &&& (nI 1431655765))) &&& (nI 858993459)) + ((((x - (((x.toUInt32 >>> ((nI 1).toUInt32 &&& Int32.toUInt32 31)).toInt32) &&& (nI 1431655765))).toUInt32 >>> ((nI 2).toUInt32 &&& Int32.toUInt32 31)).toInt32) &&& (nI 858993459))).toUInt32 >>> ((nI 4).toUInt32 &&& Int32.toUInt32 31)).toInt32)) &&& (nI 252645135)) + (((((((x - (((x.toUInt32 >>> ((nI 1).toUInt32 &&& Int32.toUInt32 31)).toInt32) &&& (nI 1431655765))) &&& (nI 858993459)) + ((((x - (((x.toUInt32 >>> ((nI 1).toUInt32 &&& Int32.toUInt32 31)).toInt32) &&& (nI 1431655765))).toUInt32 >>> ((nI 2).toUInt32 &&& Int32.toUInt32 31)).toInt32) &&& (nI 858993459))) + (((((x - (((x.toUInt32 >>> ((nI 1).toUInt32 &&& Int32.toUInt32 31)).toInt32) &&& (nI 1431655765))) &&& (nI 858993459)) + ((((x - (((x.toUInt32 >>> ((nI 1).toUInt32 &&& Int32.toUInt32 31)).toInt32) &&& (nI 1431655765))).toUInt32 >>> ((nI 2).toUInt32 &&& Int32.toUInt32 31)).toInt32) &&& (nI 858993459))).toUInt32 >>> ((nI 4).toUInt32 &&& Int32.toUInt32 31)).toInt32)) &&& (nI 252645135)).toUInt32 >>> ((nI 8).toUInt32 &&& Int32.toUInt32 31)).toInt32)) + ((((((((x - (((x.toUInt32 >>> ((nI 1).toUInt32 &&& Int32.toUInt32 31)).toInt32) &&& (nI 1431655765))) &&& (nI 858993459)) + ((((x - (((x.toUInt32 >>> ((nI 1).toUInt32 &&& Int32.toUInt32 31)).toInt32) &&& (nI 1431655765))).toUInt32 >>> ((nI 2).toUInt32 &&& Int32.toUInt32 31)).toInt32) &&& (nI 858993459))) + (((((x - (((x.toUInt32 >>> ((nI 1).toUInt32 &&& Int32.toUInt32 31)).toInt32) &&& (nI 1431655765))) &&& (nI 858993459)) + ((((x - (((x.toUInt32 >>> ((nI 1).toUInt32 &&& Int32.toUInt32 31)).toInt32) &&& (nI 1431655765))).toUInt32 >>> ((nI 2).toUInt32 &&& Int32.toUInt32 31)).toInt32) &&& (nI 858993459))).toUInt32 >>> ((nI 4).toUInt32 &&& Int32.toUInt32 31)).toInt32)) &&& (nI 252645135)) + (((((((x - (((x.toUInt32 >>> ((nI 1).toUInt32 &&& Int32.toUInt32 31)).toInt32) &&& (nI 1431655765))) &&& (nI 858993459)) + ((((x - (((x.toUInt32 >>> ((nI 1).toUInt32 &&& Int32.toUInt32 31)).toInt32) &&& (nI 1431655765))).toUInt32 >>> ((nI 2).toUInt32 &&& Int32.toUInt32 31)).toInt32) &&& (nI 858993459))) + (((((x - (((x.toUInt32 >>> ((nI 1).toUInt32 &&& Int32.toUInt32 31)).toInt32) &&& (nI 1431655765))) &&& (nI 858993459)) + ((((x - (((x.toUInt32 >>> ((nI 1).toUInt32 &&& Int32.toUInt32 31)).toInt32) &&& (nI 1431655765))).toUInt32 >>> ((nI 2).toUInt32 &&& Int32.toUInt32 31)).toInt32) &&& (nI 858993459))).toUInt32 >>> ((nI 4).toUInt32 &&& Int32.toUInt32 31)).toInt32)) &&& (nI 252645135)).toUInt32 >>> ((nI 8).toUInt32 &&& Int32.toUInt32 31)).toInt32)).toUInt32 >>> ((nI 16).toUInt32 &&& Int32.toUInt32 31)).toInt32)))]) hx hb dJ6_bitCount_0f7a4_47 rfl hl (by decide) rfl (fun ls hl => ?_)
  refine lv_iload_n hx hb dJ6_bitCount_0f7a4_48 rfl (lv_at hl 0 rfl) ?_
  refine lv_bipush (v := (nI 63)) hx hb dJ6_bitCount_0f7a4_49 (by decide) ?_
  refine lv_iand hx hb dJ6_bitCount_0f7a4_51 ?_
  exact rz_i B hr hz dJ6_bitCount_0f7a4_52 (by rfl) (by rfl)
