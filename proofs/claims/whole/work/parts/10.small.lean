theorem fHe_t {s : Sz} {k c : Nat} (h : fHe s k c = true) : fHas (s (9 + k)) (nI c) = true ∧ fLk s k = false := by
  simp only [fHe, Bool.and_eq_true, Bool.not_eq_true'] at h
  exact ⟨h.2, h.1⟩
theorem fAn_f {f k ch : Nat} {s : Sz} (h : fHe s k ch = false) : fAn f k ch s = (false, s) := by
  unfold fAn
  cases h1 : fHas (s (9 + k)) (nI ch)
  · simp
  · cases h2 : fLk s k
    · simp [fHe, h1, h2] at h
    · simp
theorem hd_X2_isLinked : hdZ yX2_isLinked 1 := by decide +kernel
set_option maxRecDepth 100000 in
set_option maxHeartbeats 4000000 in
theorem c_X2_isLinked (l : Launch) (D : va_G) (cI cN : ClassId) (a : Nat → Nat) (s : Sz) (pst : Sz) (np : Nat) (er : Sz) (od : Sz) (rk : Sz) (hs : Int64) (k : Nat) (hk : k < 5) : Fn l D cI cN yX2_isLinked wsX2_isLinked 0 (mW cI a s pst np er od rk hs) [.ref (a 0), .int (nI k)] (some (.int (b2i (fLk s k)))) (mW cI a s pst np er od rk hs) := by
  refine Fn.of (cc := cX2_isLinked) (nL := 2) (ret := (some .boolean)) (lv := [(0, .ref (a 0)), (1, .int (nI k))]) (by decide +kernel) rfl (Nat.le_of_ble_eq_true rfl) rfl ?_
  intro p e s_ m args below meth c A B hr hA H locs ls hz hl
  have hx := B.1.1
  have hb := B.1.2.1
  have hinX2 : ∀ w ∈ u_ws RX2 TX2 7, w ∈ wsX2_isLinked := by decide +kernel
  have lk7 : Cond.fieldLink yX2_isLinked.cls 7 RX2 (TX2 0).2.1 (TX2 0).2.2.1 ∈ wsX2_isLinked := by decide +kernel
  refine lv_aload_n hx hb dX2_isLinked_0 rfl (lv_at hl 0 rfl) ?_
  refine gz (C := RX2) (T := TX2) (N := 7) (v := .ref (a 1)) B hz hinX2 0 rfl rfl 0 (by decide) lk7 rfl rfl dX2_isLinked_1 ?_
  refine lv_bipush (v := (nI 14)) hx hb dX2_isLinked_4 (by decide) ?_
  refine lv_iload_n hx hb dX2_isLinked_6 rfl (lv_at hl 1 rfl) ?_
  refine ln_add hx hb dX2_isLinked_7 ?_
  refine ildz (n := 624) (j := (14 + k)) (v := (s (14 + k))) B hz 1 rfl (by omega) (by decide) rfl dX2_isLinked_8 ?_
  refine lv_if_eq (tgt := 16) hx hb dX2_isLinked_9 (by decide) (fun c9 => ?_) (fun c9 => ?_)
  · refine lv_iconst (v := (nI 0)) hx hb dX2_isLinked_16 (by decide) ?_
    exact rz_z0 B hr hz dX2_isLinked_17 (by simp [fLk, c9]) (by rfl)
  · refine lv_iconst (v := (nI 1)) hx hb dX2_isLinked_12 (by decide) ?_
    refine lv_goto (tgt := 17) hx hb dX2_isLinked_13 (by decide) ?_
    exact rz_z1 B hr hz dX2_isLinked_17 (by simp [fLk, c9]) (by rfl)
theorem hd_X0_isLinked : hdZ yX0_isLinked 1 := by decide +kernel
set_option maxRecDepth 100000 in
set_option maxHeartbeats 4000000 in
theorem c_X0_isLinked (l : Launch) (D : va_G) (cI cN : ClassId) (a : Nat → Nat) (s : Sz) (rk : Sz) (k : Nat) (hk : k < 5) : Fn l D cI cN yX0_isLinked wsX0_isLinked 0 (nW cI a s rk) [.ref (a 0), .int (nI k)] (some (.int (b2i (fLk s k)))) (nW cI a s rk) := by
  refine Fn.of (cc := cX0_isLinked) (nL := 2) (ret := (some .boolean)) (lv := [(0, .ref (a 0)), (1, .int (nI k))]) (by decide +kernel) rfl (Nat.le_of_ble_eq_true rfl) rfl ?_
  intro p e s_ m args below meth c A B hr hA H locs ls hz hl
  have hx := B.1.1
  have hb := B.1.2.1
  have hinX0 : ∀ w ∈ u_ws RX0 TX0 16, w ∈ wsX0_isLinked := by decide +kernel
  have lk31 : Cond.fieldLink yX0_isLinked.cls 31 RX0 (TX0 10).2.1 (TX0 10).2.2.1 ∈ wsX0_isLinked := by decide +kernel
  refine lv_aload_n hx hb dX0_isLinked_0 rfl (lv_at hl 0 rfl) ?_
  refine gz (C := RX0) (T := TX0) (N := 16) (v := .ref (a 2)) B hz hinX0 0 rfl rfl 10 (by decide) lk31 rfl rfl dX0_isLinked_1 ?_
  refine lv_iload_n hx hb dX0_isLinked_4 rfl (lv_at hl 1 rfl) ?_
  refine ildz (n := 5) (j := k) (v := (s (14 + k))) B hz 2 rfl (by omega) (by decide) (seg_at (by omega)) dX0_isLinked_5 ?_
  refine lv_if_eq (tgt := 13) hx hb dX0_isLinked_6 (by decide) (fun c6 => ?_) (fun c6 => ?_)
  · refine lv_iconst (v := (nI 0)) hx hb dX0_isLinked_13 (by decide) ?_
    exact rz_z0 B hr hz dX0_isLinked_14 (by simp [fLk, c6]) (by rfl)
  · refine lv_iconst (v := (nI 1)) hx hb dX0_isLinked_9 (by decide) ?_
    refine lv_goto (tgt := 14) hx hb dX0_isLinked_10 (by decide) ?_
    exact rz_z1 B hr hz dX0_isLinked_14 (by simp [fLk, c6]) (by rfl)
theorem hd_X2_leave : hdZ yX2_leave 1 := by decide +kernel
set_option maxRecDepth 100000 in
set_option maxHeartbeats 4000000 in
theorem c_X2_leave (l : Launch) (D : va_G) (cI cN : ClassId) (a : Nat → Nat) (s : Sz) (pst : Sz) (np : Nat) (er : Sz) (od : Sz) (rk : Sz) (hs : Int64) (k : Nat) (hk : k < 5) : Fn l D cI cN yX2_leave wsX2_leave 0 (mW cI a s pst np er od rk hs) [.ref (a 0), .int (nI k)] none (mW cI a (fLv k s) pst np er od rk hs) := by
  refine Fn.of (cc := cX2_leave) (nL := 2) (ret := none) (lv := [(0, .ref (a 0)), (1, .int (nI k))]) (by decide +kernel) rfl (Nat.le_of_ble_eq_true rfl) rfl ?_
  intro p e s_ m args below meth c A B hr hA H locs ls hz hl
  have hx := B.1.1
  have hb := B.1.2.1
  have hinX2 : ∀ w ∈ u_ws RX2 TX2 7, w ∈ wsX2_leave := by decide +kernel
  have lk7 : Cond.fieldLink yX2_leave.cls 7 RX2 (TX2 0).2.1 (TX2 0).2.2.1 ∈ wsX2_leave := by decide +kernel
  refine lv_aload_n hx hb dX2_leave_0 rfl (lv_at hl 0 rfl) ?_
  refine gz (C := RX2) (T := TX2) (N := 7) (v := .ref (a 1)) B hz hinX2 0 rfl rfl 0 (by decide) lk7 rfl rfl dX2_leave_1 ?_
  refine lv_bipush (v := (nI 14)) hx hb dX2_leave_4 (by decide) ?_
  refine lv_iload_n hx hb dX2_leave_6 rfl (lv_at hl 1 rfl) ?_
  refine ln_add hx hb dX2_leave_7 ?_
  refine lv_iconst (v := (nI 0)) hx hb dX2_leave_8 (by decide) ?_
  refine istz (n := 624) (j := (14 + k)) (ws1 := (mW cI a (upd s (14 + k) (nI 0)) pst np er od rk hs)) B hz 1 rfl (by omega) (by decide) rfl dX2_leave_9 (fun H locs hz => ?_)
  refine lv_aload_n hx hb dX2_leave_10 rfl (lv_at hl 0 rfl) ?_
  refine gz (C := RX2) (T := TX2) (N := 7) (v := .ref (a 1)) B hz hinX2 0 rfl rfl 0 (by decide) lk7 rfl rfl dX2_leave_11 ?_
  refine lv_bipush (v := (nI 19)) hx hb dX2_leave_14 (by decide) ?_
  refine lv_iload_n hx hb dX2_leave_16 rfl (lv_at hl 1 rfl) ?_
  refine ln_add hx hb dX2_leave_17 ?_
  refine lv_iconst (v := (-1)) hx hb dX2_leave_18 (by decide) ?_
  refine istz (n := 624) (j := (19 + k)) (ws1 := (mW cI a (upd (upd s (14 + k) (nI 0)) (19 + k) (-1)) pst np er od rk hs)) B hz 1 rfl (by omega) (by decide) rfl dX2_leave_19 (fun H locs hz => ?_)
  exact rz_v B hr hz dX2_leave_20 (by rfl)
theorem hd_X0_dropLink : hdZ yX0_dropLink 1 := by decide +kernel
set_option maxRecDepth 100000 in
set_option maxHeartbeats 4000000 in
theorem c_X0_dropLink (l : Launch) (D : va_G) (cI cN : ClassId) (a : Nat → Nat) (s : Sz) (rk : Sz) (k : Nat) (hk : k < 5) : Fn l D cI cN yX0_dropLink wsX0_dropLink 0 (nW cI a s rk) [.ref (a 0), .int (nI k)] none (nW cI a (fLv k s) rk) := by
  refine Fn.of (cc := cX0_dropLink) (nL := 2) (ret := none) (lv := [(0, .ref (a 0)), (1, .int (nI k))]) (by decide +kernel) rfl (Nat.le_of_ble_eq_true rfl) rfl ?_
  intro p e s_ m args below meth c A B hr hA H locs ls hz hl
  have hx := B.1.1
  have hb := B.1.2.1
  have hinX0 : ∀ w ∈ u_ws RX0 TX0 16, w ∈ wsX0_dropLink := by decide +kernel
  have lk31 : Cond.fieldLink yX0_dropLink.cls 31 RX0 (TX0 10).2.1 (TX0 10).2.2.1 ∈ wsX0_dropLink := by decide +kernel
  have lk34 : Cond.fieldLink yX0_dropLink.cls 34 RX0 (TX0 11).2.1 (TX0 11).2.2.1 ∈ wsX0_dropLink := by decide +kernel
  refine lv_aload_n hx hb dX0_dropLink_0 rfl (lv_at hl 0 rfl) ?_
  refine gz (C := RX0) (T := TX0) (N := 16) (v := .ref (a 2)) B hz hinX0 0 rfl rfl 10 (by decide) lk31 rfl rfl dX0_dropLink_1 ?_
  refine lv_iload_n hx hb dX0_dropLink_4 rfl (lv_at hl 1 rfl) ?_
  refine lv_iconst (v := (nI 0)) hx hb dX0_dropLink_5 (by decide) ?_
  refine istz (n := 5) (j := k) (ws1 := (nW cI a (upd s (14 + k) (nI 0)) rk)) B hz 2 rfl (by omega) (by decide) (nW_a2 cI a _ _ (by omega) _) dX0_dropLink_6 (fun H locs hz => ?_)
  refine lv_aload_n hx hb dX0_dropLink_7 rfl (lv_at hl 0 rfl) ?_
  refine gz (C := RX0) (T := TX0) (N := 16) (v := .ref (a 3)) B hz hinX0 0 rfl rfl 11 (by decide) lk34 rfl rfl dX0_dropLink_8 ?_
  refine lv_iload_n hx hb dX0_dropLink_11 rfl (lv_at hl 1 rfl) ?_
  refine lv_iconst (v := (-1)) hx hb dX0_dropLink_12 (by decide) ?_
  refine istz (n := 5) (j := k) (ws1 := (nW cI a (upd (upd s (14 + k) (nI 0)) (19 + k) (-1)) rk)) B hz 3 rfl (by omega) (by decide) (nW_a3 cI a _ _ (by omega) _) dX0_dropLink_13 (fun H locs hz => ?_)
  exact rz_v B hr hz dX0_dropLink_14 (by rfl)
theorem hd_X2_join : hdZ yX2_join 2 := by decide +kernel
set_option maxRecDepth 100000 in
set_option maxHeartbeats 4000000 in
theorem c_X2_join (l : Launch) (D : va_G) (cI cN : ClassId) (a : Nat → Nat) (s : Sz) (pst : Sz) (np : Nat) (er : Sz) (od : Sz) (rk : Sz) (hs : Int64) (set : Int32) (x : Int32) : Fn l D cI cN yX2_join wsX2_join 1 (mW cI a s pst np er od rk hs) [.ref (a 0), .int set, .int x] none (mW cI a (fJn set x s 5) pst np er od rk hs) := by
  refine Fn.of (cc := cX2_join) (nL := 4) (ret := none) (lv := [(0, .ref (a 0)), (1, .int set), (2, .int x)]) (by decide +kernel) rfl (Nat.le_of_ble_eq_true rfl) rfl ?_
  intro p e s_ m args below meth c A B hr hA H locs ls hz hl
  have hx := B.1.1
  have hb := B.1.2.1
  have hinX2 : ∀ w ∈ u_ws RX2 TX2 7, w ∈ wsX2_join := by decide +kernel
  have lk7 : Cond.fieldLink yX2_join.cls 7 RX2 (TX2 0).2.1 (TX2 0).2.2.1 ∈ wsX2_join := by decide +kernel
  refine lv_iconst (v := (nI 0)) hx hb dX2_join_0 (by decide) ?_
  refine lv_istore_n (lv' := [(3, .int (nI 0)), (0, .ref (a 0)), (1, .int set), (2, .int x)]) hx hb dX2_join_1 rfl hl (by decide) rfl (fun ls hl => ?_)
  have LP2 : ∀ (n_LP2 : Nat) (i : Nat), (i ≤ 5) → 5 - i < n_LP2 → ∀ (H : Heap) (locs : List Loc) (ls : Array Slot), Hz D A s_.heap H locs (mW cI a (fJn set x s i) pst np er od rk hs) → lv_has ls 4 [(0, .ref (a 0)), (1, .int set), (2, .int x), (3, .int (nI i))] → Wz p l e 1 s_ m args below meth c D A none (mW cI a (fJn set x s 5) pst np er od rk hs) H locs (F0 m 2 ls []) := by
    intro n_LP2
    induction n_LP2 with
    | zero => intro i hi hm; exact absurd hm (Nat.not_lt_zero _)
    | succ n_LP2 ih_LP2 =>
      intro i hi hm H locs ls hz hl
      refine lv_iload_n hx hb dX2_join_2 rfl (lv_at hl 3 rfl) ?_
      refine lv_iconst (v := (nI 5)) hx hb dX2_join_3 (by decide) ?_
      refine ln_icmp_ge (tgt := 41) hx hb dX2_join_4 (by decide) (by constructor <;> omega) (fun c4 => ?_) (fun c4 => ?_)
      · exact rz_v B hr hz dX2_join_41 (by obtain rfl : i = 5 := (by omega); rfl)
      · refine lv_iload_n hx hb dX2_join_7 rfl (lv_at hl 1 rfl) ?_
        refine lv_iload_n hx hb dX2_join_8 rfl (lv_at hl 3 rfl) ?_
        refine cS (k := 1) (As := [.int set, .int (nI i)]) (rest := []) (v := .int (b2i (fHas set (nI i)))) B hz hA (c_X2_has l D cI cN set (nI i) ) gX2_join_X2_has rfl hd_X2_has (by decide) rfl hl.1 rfl (Nat.le_of_ble_eq_true rfl) dX2_join_9 (fun H locs hz => ?_)
        refine lb_if_eq (tgt := 35) hx hb dX2_join_12 (by decide) (fun c12 => ?_) (fun c12 => ?_)
        · refine lv_iinc (v := nI (i + 1)) (lv' := [(3, .int (nI (i + 1))), (0, .ref (a 0)), (1, .int set), (2, .int x)]) hx hb dX2_join_35 hl (k := 3) rfl (nI_add i 1) (by decide) rfl (fun ls hl => ?_)
          refine lv_goto (tgt := 2) hx hb dX2_join_38 (by decide) ?_
          exact ih_LP2 (i + 1) (by omega) (by omega) H locs ls (hz.cast (by first | rfl | (simp [fJn, c12]; done))) (lv_cast (lv_sub hl [1, 2, 3, 0] (l' := [(0, .ref (a 0)), (1, .int set), (2, .int x), (3, .int (nI (i + 1)))]) rfl) (by rfl))
        · refine lv_aload_n hx hb dX2_join_15 rfl (lv_at hl 0 rfl) ?_
          refine gz (C := RX2) (T := TX2) (N := 7) (v := .ref (a 1)) B hz hinX2 0 rfl rfl 0 (by decide) lk7 rfl rfl dX2_join_16 ?_
          refine lv_bipush (v := (nI 14)) hx hb dX2_join_19 (by decide) ?_
          refine lv_iload_n hx hb dX2_join_21 rfl (lv_at hl 3 rfl) ?_
          refine ln_add hx hb dX2_join_22 ?_
          refine lv_iload_n hx hb dX2_join_23 rfl (lv_at hl 1 rfl) ?_
          refine istz (n := 624) (j := (14 + i)) (ws1 := (mW cI a (upd (fJn set x s i) (14 + i) set) pst np er od rk hs)) B hz 1 rfl (by omega) (by decide) rfl dX2_join_24 (fun H locs hz => ?_)
          refine lv_aload_n hx hb dX2_join_25 rfl (lv_at hl 0 rfl) ?_
          refine gz (C := RX2) (T := TX2) (N := 7) (v := .ref (a 1)) B hz hinX2 0 rfl rfl 0 (by decide) lk7 rfl rfl dX2_join_26 ?_
          refine lv_bipush (v := (nI 19)) hx hb dX2_join_29 (by decide) ?_
          refine lv_iload_n hx hb dX2_join_31 rfl (lv_at hl 3 rfl) ?_
          refine ln_add hx hb dX2_join_32 ?_
          refine lv_iload_n hx hb dX2_join_33 rfl (lv_at hl 2 rfl) ?_
          refine istz (n := 624) (j := (19 + i)) (ws1 := (mW cI a (upd (upd (fJn set x s i) (14 + i) set) (19 + i) x) pst np er od rk hs)) B hz 1 rfl (by omega) (by decide) rfl dX2_join_34 (fun H locs hz => ?_)
          refine lv_iinc (v := nI (i + 1)) (lv' := [(3, .int (nI (i + 1))), (0, .ref (a 0)), (1, .int set), (2, .int x)]) hx hb dX2_join_35 hl (k := 3) rfl (nI_add i 1) (by decide) rfl (fun ls hl => ?_)
          refine lv_goto (tgt := 2) hx hb dX2_join_38 (by decide) ?_
          exact ih_LP2 (i + 1) (by omega) (by omega) H locs ls (hz.cast (by first | rfl | (simp [fJn, c12]; done))) (lv_cast (lv_sub hl [1, 2, 3, 0] (l' := [(0, .ref (a 0)), (1, .int set), (2, .int x), (3, .int (nI (i + 1)))]) rfl) (by rfl))
  exact LP2 _ 0 (by omega) (Nat.lt_succ_self _) H locs ls (hz.cast (by rfl)) (lv_cast (lv_sub hl [1, 2, 3, 0] (l' := [(0, .ref (a 0)), (1, .int set), (2, .int x), (3, .int (nI 0))]) rfl) (by rfl))
theorem hd_X0_joinLink : hdZ yX0_joinLink 2 := by decide +kernel
set_option maxRecDepth 100000 in
set_option maxHeartbeats 4000000 in
theorem c_X0_joinLink (l : Launch) (D : va_G) (cI cN : ClassId) (a : Nat → Nat) (s : Sz) (rk : Sz) (set : Int32) (x : Int32) : Fn l D cI cN yX0_joinLink wsX0_joinLink 1 (nW cI a s rk) [.ref (a 0), .int set, .int x] none (nW cI a (fJn set x s 5) rk) := by
  refine Fn.of (cc := cX0_joinLink) (nL := 4) (ret := none) (lv := [(0, .ref (a 0)), (1, .int set), (2, .int x)]) (by decide +kernel) rfl (Nat.le_of_ble_eq_true rfl) rfl ?_
  intro p e s_ m args below meth c A B hr hA H locs ls hz hl
  have hx := B.1.1
  have hb := B.1.2.1
  have hinX0 : ∀ w ∈ u_ws RX0 TX0 16, w ∈ wsX0_joinLink := by decide +kernel
  have lk31 : Cond.fieldLink yX0_joinLink.cls 31 RX0 (TX0 10).2.1 (TX0 10).2.2.1 ∈ wsX0_joinLink := by decide +kernel
  have lk34 : Cond.fieldLink yX0_joinLink.cls 34 RX0 (TX0 11).2.1 (TX0 11).2.2.1 ∈ wsX0_joinLink := by decide +kernel
  refine lv_iconst (v := (nI 0)) hx hb dX0_joinLink_0 (by decide) ?_
  refine lv_istore_n (lv' := [(3, .int (nI 0)), (0, .ref (a 0)), (1, .int set), (2, .int x)]) hx hb dX0_joinLink_1 rfl hl (by decide) rfl (fun ls hl => ?_)
  have LP2 : ∀ (n_LP2 : Nat) (i : Nat), (i ≤ 5) → 5 - i < n_LP2 → ∀ (H : Heap) (locs : List Loc) (ls : Array Slot), Hz D A s_.heap H locs (nW cI a (fJn set x s i) rk) → lv_has ls 4 [(0, .ref (a 0)), (1, .int set), (2, .int x), (3, .int (nI i))] → Wz p l e 1 s_ m args below meth c D A none (nW cI a (fJn set x s 5) rk) H locs (F0 m 2 ls []) := by
    intro n_LP2
    induction n_LP2 with
    | zero => intro i hi hm; exact absurd hm (Nat.not_lt_zero _)
    | succ n_LP2 ih_LP2 =>
      intro i hi hm H locs ls hz hl
      refine lv_iload_n hx hb dX0_joinLink_2 rfl (lv_at hl 3 rfl) ?_
      refine lv_iconst (v := (nI 5)) hx hb dX0_joinLink_3 (by decide) ?_
      refine ln_icmp_ge (tgt := 35) hx hb dX0_joinLink_4 (by decide) (by constructor <;> omega) (fun c4 => ?_) (fun c4 => ?_)
      · exact rz_v B hr hz dX0_joinLink_35 (by obtain rfl : i = 5 := (by omega); rfl)
      · refine lv_iload_n hx hb dX0_joinLink_7 rfl (lv_at hl 1 rfl) ?_
        refine lv_iload_n hx hb dX0_joinLink_8 rfl (lv_at hl 3 rfl) ?_
        refine cNst (k := 1) (As := [.int set, .int (nI i)]) (rest := []) (v := .int (b2i (fHas set (nI i)))) B hz hA (c_X1_contains l D cI cN set (nI i) ) gX0_joinLink_X1_contains_n89 rfl (by decide +kernel) (by decide +kernel) (by decide +kernel) rfl hd_X1_contains (by decide) rfl hl.1 rfl (Nat.le_of_ble_eq_true rfl) dX0_joinLink_9 (fun H locs hz => ?_)
        refine lb_if_eq (tgt := 29) hx hb dX0_joinLink_12 (by decide) (fun c12 => ?_) (fun c12 => ?_)
        · refine lv_iinc (v := nI (i + 1)) (lv' := [(3, .int (nI (i + 1))), (0, .ref (a 0)), (1, .int set), (2, .int x)]) hx hb dX0_joinLink_29 hl (k := 3) rfl (nI_add i 1) (by decide) rfl (fun ls hl => ?_)
          refine lv_goto (tgt := 2) hx hb dX0_joinLink_32 (by decide) ?_
          exact ih_LP2 (i + 1) (by omega) (by omega) H locs ls (hz.cast (by first | rfl | (simp [fJn, c12]; done))) (lv_cast (lv_sub hl [1, 2, 3, 0] (l' := [(0, .ref (a 0)), (1, .int set), (2, .int x), (3, .int (nI (i + 1)))]) rfl) (by rfl))
        · refine lv_aload_n hx hb dX0_joinLink_15 rfl (lv_at hl 0 rfl) ?_
          refine gz (C := RX0) (T := TX0) (N := 16) (v := .ref (a 2)) B hz hinX0 0 rfl rfl 10 (by decide) lk31 rfl rfl dX0_joinLink_16 ?_
          refine lv_iload_n hx hb dX0_joinLink_19 rfl (lv_at hl 3 rfl) ?_
          refine lv_iload_n hx hb dX0_joinLink_20 rfl (lv_at hl 1 rfl) ?_
          refine istz (n := 5) (j := i) (ws1 := (nW cI a (upd (fJn set x s i) (14 + i) set) rk)) B hz 2 rfl (by omega) (by decide) (nW_a2 cI a _ _ (by omega) _) dX0_joinLink_21 (fun H locs hz => ?_)
          refine lv_aload_n hx hb dX0_joinLink_22 rfl (lv_at hl 0 rfl) ?_
          refine gz (C := RX0) (T := TX0) (N := 16) (v := .ref (a 3)) B hz hinX0 0 rfl rfl 11 (by decide) lk34 rfl rfl dX0_joinLink_23 ?_
          refine lv_iload_n hx hb dX0_joinLink_26 rfl (lv_at hl 3 rfl) ?_
          refine lv_iload_n hx hb dX0_joinLink_27 rfl (lv_at hl 2 rfl) ?_
          refine istz (n := 5) (j := i) (ws1 := (nW cI a (upd (upd (fJn set x s i) (14 + i) set) (19 + i) x) rk)) B hz 3 rfl (by omega) (by decide) (nW_a3 cI a _ _ (by omega) _) dX0_joinLink_28 (fun H locs hz => ?_)
          refine lv_iinc (v := nI (i + 1)) (lv' := [(3, .int (nI (i + 1))), (0, .ref (a 0)), (1, .int set), (2, .int x)]) hx hb dX0_joinLink_29 hl (k := 3) rfl (nI_add i 1) (by decide) rfl (fun ls hl => ?_)
          refine lv_goto (tgt := 2) hx hb dX0_joinLink_32 (by decide) ?_
          exact ih_LP2 (i + 1) (by omega) (by omega) H locs ls (hz.cast (by first | rfl | (simp [fJn, c12]; done))) (lv_cast (lv_sub hl [1, 2, 3, 0] (l' := [(0, .ref (a 0)), (1, .int set), (2, .int x), (3, .int (nI (i + 1)))]) rfl) (by rfl))
  exact LP2 _ 0 (by omega) (Nat.lt_succ_self _) H locs ls (hz.cast (by rfl)) (lv_cast (lv_sub hl [1, 2, 3, 0] (l' := [(0, .ref (a 0)), (1, .int set), (2, .int x), (3, .int (nI 0))]) rfl) (by rfl))
theorem hd_X2_effectiveOf : hdZ yX2_effectiveOf 3 := by decide +kernel
set_option maxRecDepth 100000 in
set_option maxHeartbeats 4000000 in
theorem c_X2_effectiveOf (l : Launch) (D : va_G) (cI cN : ClassId) (a : Nat → Nat) (s : Sz) (pst : Sz) (np : Nat) (er : Sz) (od : Sz) (rk : Sz) (hs : Int64) (f : Nat) (t : Nat) (ch : Nat) (hf : f < 5) (ht : t < 5) (hc : ch < 8) (hv : IvA s) : Fn l D cI cN yX2_effectiveOf wsX2_effectiveOf 1 (mW cI a s pst np er od rk hs) [.ref (a 0), .int (nI f), .int (nI t), .int (nI ch)] (some (.int (fEf f t ch s))) (mW cI a s pst np er od rk hs) := by
  refine Fn.of (cc := cX2_effectiveOf) (nL := 6) (ret := (some .int)) (lv := [(0, .ref (a 0)), (1, .int (nI f)), (2, .int (nI t)), (3, .int (nI ch))]) (by decide +kernel) rfl (Nat.le_of_ble_eq_true rfl) rfl ?_
  intro p e s_ m args below meth c A B hr hA H locs ls hz hl
  have hx := B.1.1
  have hb := B.1.2.1
  have hinX2 : ∀ w ∈ u_ws RX2 TX2 7, w ∈ wsX2_effectiveOf := by decide +kernel
  have lk7 : Cond.fieldLink yX2_effectiveOf.cls 7 RX2 (TX2 0).2.1 (TX2 0).2.2.1 ∈ wsX2_effectiveOf := by decide +kernel
  refine lv_aload_n hx hb dX2_effectiveOf_0 rfl (lv_at hl 0 rfl) ?_
  refine gz (C := RX2) (T := TX2) (N := 7) (v := .ref (a 1)) B hz hinX2 0 rfl rfl 0 (by decide) lk7 rfl rfl dX2_effectiveOf_1 ?_
  refine lv_sipush (v := (nI 224)) hx hb dX2_effectiveOf_4 (by decide) ?_
  refine lv_iload_n hx hb dX2_effectiveOf_7 rfl (lv_at hl 1 rfl) ?_
  refine lv_iload_n hx hb dX2_effectiveOf_8 rfl (lv_at hl 2 rfl) ?_
  refine lv_iload_n hx hb dX2_effectiveOf_9 rfl (lv_at hl 3 rfl) ?_
  refine cS (k := 1) (As := [.int (nI f), .int (nI t), .int (nI ch)]) (rest := [.int (nI 224), .ref (a 1)]) (v := .int (nI (fAt f t ch))) B hz hA (c_X2_at l D cI cN f t ch ) gX2_effectiveOf_X2_at rfl hd_X2_at (by decide) rfl hl.1 rfl (Nat.le_of_ble_eq_true rfl) dX2_effectiveOf_10 (fun H locs hz => ?_)
  refine ln_add hx hb dX2_effectiveOf_13 ?_
  refine ildz (n := 624) (j := (224 + (fAt f t ch))) (v := (s (224 + (fAt f t ch)))) B hz 1 rfl (by have hat := fAt_lt hf ht hc; omega) (by decide) rfl dX2_effectiveOf_14 ?_
  refine lv_istore (lv' := [(4, .int (s (224 + (fAt f t ch)))), (0, .ref (a 0)), (1, .int (nI f)), (2, .int (nI t)), (3, .int (nI ch))]) hx hb dX2_effectiveOf_15 hl (by decide) rfl (fun ls hl => ?_)
  refine lv_iload hx hb dX2_effectiveOf_17 (lv_at hl 0 rfl) ?_
  refine lv_iconst (v := (-1)) hx hb dX2_effectiveOf_19 (by decide) ?_
  refine lv_icmp_ne (tgt := 25) hx hb dX2_effectiveOf_20 (by decide) (fun c20 => ?_) (fun c20 => ?_)
  · refine lv_iload hx hb dX2_effectiveOf_25 (lv_at hl 0 rfl) ?_
    refine lv_aload_n hx hb dX2_effectiveOf_27 rfl (lv_at hl 1 rfl) ?_
    refine gz (C := RX2) (T := TX2) (N := 7) (v := .ref (a 1)) B hz hinX2 0 rfl rfl 0 (by decide) lk7 rfl rfl dX2_effectiveOf_28 ?_
    refine lv_iconst (v := (nI 0)) hx hb dX2_effectiveOf_31 (by decide) ?_
    refine ildz (n := 624) (j := 0) (v := (s 0)) B hz 1 rfl (by have hat := fAt_lt hf ht hc; omega) (by decide) rfl dX2_effectiveOf_32 ?_
    refine lv_aload_n hx hb dX2_effectiveOf_33 rfl (lv_at hl 1 rfl) ?_
    refine gz (C := RX2) (T := TX2) (N := 7) (v := .ref (a 1)) B hz hinX2 0 rfl rfl 0 (by decide) lk7 rfl rfl dX2_effectiveOf_34 ?_
    refine lv_sipush (v := (nI 424)) hx hb dX2_effectiveOf_37 (by decide) ?_
    refine lv_iload_n hx hb dX2_effectiveOf_40 rfl (lv_at hl 2 rfl) ?_
    refine lv_iload_n hx hb dX2_effectiveOf_41 rfl (lv_at hl 3 rfl) ?_
    refine lv_iload_n hx hb dX2_effectiveOf_42 rfl (lv_at hl 4 rfl) ?_
    refine cS (k := 1) (As := [.int (nI f), .int (nI t), .int (nI ch)]) (rest := [.int (nI 424), .ref (a 1), .int (s 0), .int (s (224 + (fAt f t ch)))]) (v := .int (nI (fAt f t ch))) B hz hA (c_X2_at l D cI cN f t ch ) gX2_effectiveOf_X2_at rfl hd_X2_at (by decide) rfl hl.1 rfl (Nat.le_of_ble_eq_true rfl) dX2_effectiveOf_43 (fun H locs hz => ?_)
    refine ln_add hx hb dX2_effectiveOf_46 ?_
    refine ildz (n := 624) (j := (424 + (fAt f t ch))) (v := (s (424 + (fAt f t ch)))) B hz 1 rfl (by have hat := fAt_lt hf ht hc; omega) (by decide) rfl dX2_effectiveOf_47 ?_
    refine lv_isub hx hb dX2_effectiveOf_48 ?_
    refine lv_aload_n hx hb dX2_effectiveOf_49 rfl (lv_at hl 1 rfl) ?_
    refine gz (C := RX2) (T := TX2) (N := 7) (v := .ref (a 1)) B hz hinX2 0 rfl rfl 0 (by decide) lk7 rfl rfl dX2_effectiveOf_50 ?_
    refine lv_iconst (v := (nI 2)) hx hb dX2_effectiveOf_53 (by decide) ?_
    refine ildz (n := 624) (j := 2) (v := (s 2)) B hz 1 rfl (by have hat := fAt_lt hf ht hc; omega) (by decide) rfl dX2_effectiveOf_54 ?_
    refine lv_idiv hx hb dX2_effectiveOf_55 (hv.ne) ?_
    refine lv_isub hx hb dX2_effectiveOf_56 ?_
    refine lv_istore (lv' := [(5, .int ((s (224 + (fAt f t ch))) - (((s 0) - (s (424 + (fAt f t ch)))) / (s 2)))), (4, .int (s (224 + (fAt f t ch)))), (0, .ref (a 0)), (1, .int (nI f)), (2, .int (nI t)), (3, .int (nI ch))]) hx hb dX2_effectiveOf_57 hl (by decide) rfl (fun ls hl => ?_)
    refine lv_iload hx hb dX2_effectiveOf_59 (lv_at hl 0 rfl) ?_
    refine lv_if_le (tgt := 69) hx hb dX2_effectiveOf_61 (by decide) (fun c61 => ?_) (fun c61 => ?_)
    · refine lv_iconst (v := (nI 0)) hx hb dX2_effectiveOf_69 (by decide) ?_
      exact rz_i B hr hz dX2_effectiveOf_70 (by first | exact fEf_a c20 | exact fEf_b c20 c61 | exact fEf_c c20 c61) (by rfl)
    · refine lv_iload hx hb dX2_effectiveOf_64 (lv_at hl 0 rfl) ?_
      refine lv_goto (tgt := 70) hx hb dX2_effectiveOf_66 (by decide) ?_
      exact rz_i B hr hz dX2_effectiveOf_70 (by first | exact fEf_a c20 | exact fEf_b c20 c61 | exact fEf_c c20 c61) (by rfl)
  · refine lv_iconst (v := (-1)) hx hb dX2_effectiveOf_23 (by decide) ?_
    exact rz_i B hr hz dX2_effectiveOf_24 (by first | exact fEf_a c20 | exact fEf_b c20 c61 | exact fEf_c c20 c61) (by rfl)
theorem hd_X0_agedScore : hdZ yX0_agedScore 3 := by decide +kernel
set_option maxRecDepth 100000 in
set_option maxHeartbeats 4000000 in
theorem c_X0_agedScore (l : Launch) (D : va_G) (cI cN : ClassId) (a : Nat → Nat) (s : Sz) (rk : Sz) (f : Nat) (t : Nat) (ch : Nat) (hf : f < 5) (ht : t < 5) (hc : ch < 8) (hv : IvA s) : Fn l D cI cN yX0_agedScore wsX0_agedScore 1 (nW cI a s rk) [.ref (a 0), .int (nI f), .int (nI t), .int (nI ch)] (some (.int (fEf f t ch s))) (nW cI a s rk) := by
  refine Fn.of (cc := cX0_agedScore) (nL := 6) (ret := (some .int)) (lv := [(0, .ref (a 0)), (1, .int (nI f)), (2, .int (nI t)), (3, .int (nI ch))]) (by decide +kernel) rfl (Nat.le_of_ble_eq_true rfl) rfl ?_
  intro p e s_ m args below meth c A B hr hA H locs ls hz hl
  have hx := B.1.1
  have hb := B.1.2.1
  have hinX0 : ∀ w ∈ u_ws RX0 TX0 16, w ∈ wsX0_agedScore := by decide +kernel
  have lk9 : Cond.fieldLink yX0_agedScore.cls 9 RX0 (TX0 1).2.1 (TX0 1).2.2.1 ∈ wsX0_agedScore := by decide +kernel
  have lk40 : Cond.fieldLink yX0_agedScore.cls 40 RX0 (TX0 13).2.1 (TX0 13).2.2.1 ∈ wsX0_agedScore := by decide +kernel
  have lk43 : Cond.fieldLink yX0_agedScore.cls 43 RX0 (TX0 14).2.1 (TX0 14).2.2.1 ∈ wsX0_agedScore := by decide +kernel
  have lk55 : Cond.fieldLink yX0_agedScore.cls 55 RX0 (TX0 0).2.1 (TX0 0).2.2.1 ∈ wsX0_agedScore := by decide +kernel
  refine lv_aload_n hx hb dX0_agedScore_0 rfl (lv_at hl 0 rfl) ?_
  refine gz (C := RX0) (T := TX0) (N := 16) (v := .ref (a 5)) B hz hinX0 0 rfl rfl 13 (by decide) lk40 rfl rfl dX0_agedScore_1 ?_
  refine lv_iload_n hx hb dX0_agedScore_4 rfl (lv_at hl 1 rfl) ?_
  refine lv_iload_n hx hb dX0_agedScore_5 rfl (lv_at hl 2 rfl) ?_
  refine lv_iload_n hx hb dX0_agedScore_6 rfl (lv_at hl 3 rfl) ?_
  refine cNst (k := 1) (As := [.int (nI f), .int (nI t), .int (nI ch)]) (rest := [.ref (a 5)]) (v := .int (nI (fAt f t ch))) B hz hA (c_X1_cell l D cI cN f t ch ) gX0_agedScore_X1_cell_n103 rfl (by decide +kernel) (by decide +kernel) (by decide +kernel) rfl hd_X1_cell (by decide) rfl hl.1 rfl (Nat.le_of_ble_eq_true rfl) dX0_agedScore_7 (fun H locs hz => ?_)
  refine ildz (n := 200) (j := (fAt f t ch)) (v := (s (224 + (fAt f t ch)))) B hz 5 rfl (by have hat := fAt_lt hf ht hc; omega) (by decide) (seg_at (by have hat := fAt_lt hf ht hc; omega)) dX0_agedScore_10 ?_
  refine lv_istore (lv' := [(4, .int (s (224 + (fAt f t ch)))), (0, .ref (a 0)), (1, .int (nI f)), (2, .int (nI t)), (3, .int (nI ch))]) hx hb dX0_agedScore_11 hl (by decide) rfl (fun ls hl => ?_)
  refine lv_iload hx hb dX0_agedScore_13 (lv_at hl 0 rfl) ?_
  refine lv_iconst (v := (-1)) hx hb dX0_agedScore_15 (by decide) ?_
  refine lv_icmp_eq (tgt := 27) hx hb dX0_agedScore_16 (by decide) (fun c16 => ?_) (fun c16 => ?_)
  · refine lv_iconst (v := (-1)) hx hb dX0_agedScore_27 (by decide) ?_
    exact rz_i B hr hz dX0_agedScore_28 (by first | exact fEf_a c16 | exact fEf_d c16 | exact absurd hv.ge c24) (by rfl)
  · refine lv_aload_n hx hb dX0_agedScore_19 rfl (lv_at hl 1 rfl) ?_
    refine gz (C := RX0) (T := TX0) (N := 16) (v := .int (s 2)) B hz hinX0 0 rfl rfl 1 (by decide) lk9 rfl rfl dX0_agedScore_20 ?_
    refine lv_iconst (v := (nI 1)) hx hb dX0_agedScore_23 (by decide) ?_
    refine lv_icmp_ge (tgt := 29) hx hb dX0_agedScore_24 (by decide) (fun c24 => ?_) (fun c24 => ?_)
    · refine lv_aload_n hx hb dX0_agedScore_29 rfl (lv_at hl 1 rfl) ?_
      refine gz (C := RX0) (T := TX0) (N := 16) (v := .int (s 0)) B hz hinX0 0 rfl rfl 0 (by decide) lk55 rfl rfl dX0_agedScore_30 ?_
      refine lv_aload_n hx hb dX0_agedScore_33 rfl (lv_at hl 1 rfl) ?_
      refine gz (C := RX0) (T := TX0) (N := 16) (v := .ref (a 6)) B hz hinX0 0 rfl rfl 14 (by decide) lk43 rfl rfl dX0_agedScore_34 ?_
      refine lv_iload_n hx hb dX0_agedScore_37 rfl (lv_at hl 2 rfl) ?_
      refine lv_iload_n hx hb dX0_agedScore_38 rfl (lv_at hl 3 rfl) ?_
      refine lv_iload_n hx hb dX0_agedScore_39 rfl (lv_at hl 4 rfl) ?_
      refine cNst (k := 1) (As := [.int (nI f), .int (nI t), .int (nI ch)]) (rest := [.ref (a 6), .int (s 0)]) (v := .int (nI (fAt f t ch))) B hz hA (c_X1_cell l D cI cN f t ch ) gX0_agedScore_X1_cell_n103 rfl (by decide +kernel) (by decide +kernel) (by decide +kernel) rfl hd_X1_cell (by decide) rfl hl.1 rfl (Nat.le_of_ble_eq_true rfl) dX0_agedScore_40 (fun H locs hz => ?_)
      refine ildz (n := 200) (j := (fAt f t ch)) (v := (s (424 + (fAt f t ch)))) B hz 6 rfl (by have hat := fAt_lt hf ht hc; omega) (by decide) (seg_at (by have hat := fAt_lt hf ht hc; omega)) dX0_agedScore_43 ?_
      refine lv_isub hx hb dX0_agedScore_44 ?_
      refine lv_istore (lv' := [(5, .int ((s 0) - (s (424 + (fAt f t ch))))), (4, .int (s (224 + (fAt f t ch)))), (0, .ref (a 0)), (1, .int (nI f)), (2, .int (nI t)), (3, .int (nI ch))]) hx hb dX0_agedScore_45 hl (by decide) rfl (fun ls hl => ?_)
      refine lv_iconst (v := (nI 0)) hx hb dX0_agedScore_47 (by decide) ?_
      refine lv_iload hx hb dX0_agedScore_48 (lv_at hl 1 rfl) ?_
      refine lv_iload hx hb dX0_agedScore_50 (lv_at hl 0 rfl) ?_
      refine lv_aload_n hx hb dX0_agedScore_52 rfl (lv_at hl 2 rfl) ?_
      refine gz (C := RX0) (T := TX0) (N := 16) (v := .int (s 2)) B hz hinX0 0 rfl rfl 1 (by decide) lk9 rfl rfl dX0_agedScore_53 ?_
      refine lv_idiv hx hb dX0_agedScore_56 (hv.ne) ?_
      refine lv_isub hx hb dX0_agedScore_57 ?_
      refine va_mmax hx hb (B.1.2.2.1.trans hl.1.symm) B.1.2.2.2.1 (B.1.2.2.2.2 (.methodLink yX0_agedScore.cls 93 Lib.Math.max.name) (by decide +kernel)) (B.1.2.2.2.2 (.static Lib.Math.max.name) (by decide +kernel)) (B.1.2.2.2.2 (.initialized "java/lang/Math") (by decide +kernel)) (B.1.2.2.2.2 (.code Lib.Math.max.name Lib.Math.max.code 2 (some .int)) (by decide +kernel)) (Nat.le_of_ble_eq_true rfl) (Nat.le_of_ble_eq_true rfl) (Nat.le_refl _) (Nat.le_refl _) dX0_agedScore_58 ?_
      exact rz_i B hr hz dX0_agedScore_61 (by first | exact fEf_a c16 | exact fEf_d c16 | exact absurd hv.ge c24) (by rfl)
    · refine lv_iconst (v := (-1)) hx hb dX0_agedScore_27 (by decide) ?_
      exact rz_i B hr hz dX0_agedScore_28 (by first | exact fEf_a c16 | exact fEf_d c16 | exact absurd hv.ge c24) (by rfl)
theorem hd_X2_mostOf : hdZ yX2_mostOf 1 := by decide +kernel
set_option maxRecDepth 100000 in
set_option maxHeartbeats 4000000 in
theorem c_X2_mostOf (l : Launch) (D : va_G) (cI cN : ClassId) (a : Nat → Nat) (s : Sz) (pst : Sz) (np : Nat) (er : Sz) (od : Sz) (rk : Sz) (hs : Int64) (ms : Int32) (hI : IvS s) : Fn l D cI cN yX2_mostOf wsX2_mostOf 1 (mW cI a s pst np er od rk hs) [.ref (a 0), .int ms] (some (.int (nI (fMo ms s 5)))) (mW cI a s pst np er od rk hs) := by
  refine Fn.of (cc := cX2_mostOf) (nL := 5) (ret := (some .int)) (lv := [(0, .ref (a 0)), (1, .int ms)]) (by decide +kernel) rfl (Nat.le_of_ble_eq_true rfl) rfl ?_
  intro p e s_ m args below meth c A B hr hA H locs ls hz hl
  have hx := B.1.1
  have hb := B.1.2.1
  have hinX2 : ∀ w ∈ u_ws RX2 TX2 7, w ∈ wsX2_mostOf := by decide +kernel
  have lk7 : Cond.fieldLink yX2_mostOf.cls 7 RX2 (TX2 0).2.1 (TX2 0).2.2.1 ∈ wsX2_mostOf := by decide +kernel
  refine lv_iconst (v := (nI 0)) hx hb dX2_mostOf_0 (by decide) ?_
  refine lv_istore_n (lv' := [(2, .int (nI 0)), (0, .ref (a 0)), (1, .int ms)]) hx hb dX2_mostOf_1 rfl hl (by decide) rfl (fun ls hl => ?_)
  refine lv_iconst (v := (nI 0)) hx hb dX2_mostOf_2 (by decide) ?_
  refine lv_istore_n (lv' := [(3, .int (nI 0)), (2, .int (nI 0)), (0, .ref (a 0)), (1, .int ms)]) hx hb dX2_mostOf_3 rfl hl (by decide) rfl (fun ls hl => ?_)
  have LP4 : ∀ (n_LP4 : Nat) (i : Nat), (i ≤ 5) → 5 - i < n_LP4 → ∀ (H : Heap) (locs : List Loc) (ls : Array Slot), Hz D A s_.heap H locs (mW cI a s pst np er od rk hs) → lv_has ls 5 [(0, .ref (a 0)), (1, .int ms), (2, .int (nI (fMo ms s i))), (3, .int (nI i))] → Wz p l e 1 s_ m args below meth c D A (some (.int (nI (fMo ms s 5)))) (mW cI a s pst np er od rk hs) H locs (F0 m 4 ls []) := by
    intro n_LP4
    induction n_LP4 with
    | zero => intro i hi hm; exact absurd hm (Nat.not_lt_zero _)
    | succ n_LP4 ih_LP4 =>
      intro i hi hm H locs ls hz hl
      refine lv_iload_n hx hb dX2_mostOf_4 rfl (lv_at hl 3 rfl) ?_
      refine lv_iconst (v := (nI 5)) hx hb dX2_mostOf_5 (by decide) ?_
      refine ln_icmp_ge (tgt := 54) hx hb dX2_mostOf_6 (by decide) (by constructor <;> omega) (fun c6 => ?_) (fun c6 => ?_)
      · refine lv_iload_n hx hb dX2_mostOf_54 rfl (lv_at hl 2 rfl) ?_
        exact rz_i B hr hz dX2_mostOf_55 (by rw [show i = 5 by omega]) (by rfl)
      · refine lv_iload_n hx hb dX2_mostOf_9 rfl (lv_at hl 1 rfl) ?_
        refine lv_iload_n hx hb dX2_mostOf_10 rfl (lv_at hl 3 rfl) ?_
        refine cS (k := 1) (As := [.int ms, .int (nI i)]) (rest := []) (v := .int (b2i (fHas ms (nI i)))) B hz hA (c_X2_has l D cI cN ms (nI i) ) gX2_mostOf_X2_has rfl hd_X2_has (by decide) rfl hl.1 rfl (Nat.le_of_ble_eq_true rfl) dX2_mostOf_11 (fun H locs hz => ?_)
        refine lb_if_eq (tgt := 32) hx hb dX2_mostOf_14 (by decide) (fun c14 => ?_) (fun c14 => ?_)
        · refine lv_iconst (v := (nI 0)) hx hb dX2_mostOf_32 (by decide) ?_
          refine lv_istore (lv' := [(4, .int (nI 0)), (0, .ref (a 0)), (1, .int ms), (2, .int (nI (fMo ms s i))), (3, .int (nI i))]) hx hb dX2_mostOf_33 hl (by decide) rfl (fun ls hl => ?_)
          refine lv_iload hx hb dX2_mostOf_35 (lv_at hl 0 rfl) ?_
          refine lv_iload_n hx hb dX2_mostOf_37 rfl (lv_at hl 3 rfl) ?_
          refine ln_icmp_le (tgt := 46) hx hb dX2_mostOf_38 (by decide) (by have h1 := fMo_le (ms := ms) hI i (by omega); have h2 := cnt_le _ (hI i (by omega)).2.1; constructor <;> omega) (fun c38 => ?_) (fun c38 => ?_)
          · refine lv_iload_n hx hb dX2_mostOf_46 rfl (lv_at hl 3 rfl) ?_
            refine lv_istore_n (lv' := [(2, .int (nI (fMo ms s i))), (4, .int (nI 0)), (0, .ref (a 0)), (1, .int ms), (3, .int (nI i))]) hx hb dX2_mostOf_47 rfl hl (by decide) rfl (fun ls hl => ?_)
            refine lv_iinc (v := nI (i + 1)) (lv' := [(3, .int (nI (i + 1))), (2, .int (nI (fMo ms s i))), (4, .int (nI 0)), (0, .ref (a 0)), (1, .int ms)]) hx hb dX2_mostOf_48 hl (k := 4) rfl (nI_add i 1) (by decide) rfl (fun ls hl => ?_)
            refine lv_goto (tgt := 4) hx hb dX2_mostOf_51 (by decide) ?_
            exact ih_LP4 (i + 1) (by omega) (by omega) H locs ls (hz.cast (by rfl)) (lv_cast (lv_sub hl [3, 4, 1, 0] (l' := [(0, .ref (a 0)), (1, .int ms), (2, .int (nI (fMo ms s i))), (3, .int (nI (i + 1)))]) rfl) (by first | (simp [fMo, c14]; done) | (simp [fMo, c14, Nat.max_eq_left c38]; done) | (simp [fMo, c14, Nat.max_eq_right (Nat.le_of_lt c38)]; done) | exact absurd c38 (Nat.not_lt_zero _)))
          · refine lv_iload hx hb dX2_mostOf_41 (lv_at hl 0 rfl) ?_
            refine lv_goto (tgt := 47) hx hb dX2_mostOf_43 (by decide) ?_
            refine lv_istore_n (lv' := [(2, .int (nI 0)), (4, .int (nI 0)), (0, .ref (a 0)), (1, .int ms), (3, .int (nI i))]) hx hb dX2_mostOf_47 rfl hl (by decide) rfl (fun ls hl => ?_)
            refine lv_iinc (v := nI (i + 1)) (lv' := [(3, .int (nI (i + 1))), (2, .int (nI 0)), (4, .int (nI 0)), (0, .ref (a 0)), (1, .int ms)]) hx hb dX2_mostOf_48 hl (k := 4) rfl (nI_add i 1) (by decide) rfl (fun ls hl => ?_)
            refine lv_goto (tgt := 4) hx hb dX2_mostOf_51 (by decide) ?_
            exact ih_LP4 (i + 1) (by omega) (by omega) H locs ls (hz.cast (by rfl)) (lv_cast (lv_sub hl [3, 4, 1, 0] (l' := [(0, .ref (a 0)), (1, .int ms), (2, .int (nI 0)), (3, .int (nI (i + 1)))]) rfl) (by first | (simp [fMo, c14]; done) | (simp [fMo, c14, Nat.max_eq_left c38]; done) | (simp [fMo, c14, Nat.max_eq_right (Nat.le_of_lt c38)]; done) | exact absurd c38 (Nat.not_lt_zero _)))
        · refine lv_aload_n hx hb dX2_mostOf_17 rfl (lv_at hl 0 rfl) ?_
          refine gz (C := RX2) (T := TX2) (N := 7) (v := .ref (a 1)) B hz hinX2 0 rfl rfl 0 (by decide) lk7 rfl rfl dX2_mostOf_18 ?_
          refine lv_bipush (v := (nI 9)) hx hb dX2_mostOf_21 (by decide) ?_
          refine lv_iload_n hx hb dX2_mostOf_23 rfl (lv_at hl 3 rfl) ?_
          refine ln_add hx hb dX2_mostOf_24 ?_
          refine ildz (n := 624) (j := (9 + i)) (v := (s (9 + i))) B hz 1 rfl (by omega) (by decide) rfl dX2_mostOf_25 ?_
          refine cvt (y := nI (scn s i)) ((show IvS s by assumption) i (by omega)).2.2 ?_
          refine cS (k := 1) (As := [.int (nI (scn s i))]) (rest := []) (v := .int (nI (cnt (scn s i)))) B hz hA (c_X2_count l D cI cN (scn s i) ((hI i (by omega)).2.1)) gX2_mostOf_X2_count rfl hd_X2_count (by decide) rfl hl.1 rfl (Nat.le_of_ble_eq_true rfl) dX2_mostOf_26 (fun H locs hz => ?_)
          refine lv_goto (tgt := 33) hx hb dX2_mostOf_29 (by decide) ?_
          refine lv_istore (lv' := [(4, .int (nI (cnt (scn s i)))), (0, .ref (a 0)), (1, .int ms), (2, .int (nI (fMo ms s i))), (3, .int (nI i))]) hx hb dX2_mostOf_33 hl (by decide) rfl (fun ls hl => ?_)
          refine lv_iload hx hb dX2_mostOf_35 (lv_at hl 0 rfl) ?_
          refine lv_iload_n hx hb dX2_mostOf_37 rfl (lv_at hl 3 rfl) ?_
          refine ln_icmp_le (tgt := 46) hx hb dX2_mostOf_38 (by decide) (by have h1 := fMo_le (ms := ms) hI i (by omega); have h2 := cnt_le _ (hI i (by omega)).2.1; constructor <;> omega) (fun c38 => ?_) (fun c38 => ?_)
          · refine lv_iload_n hx hb dX2_mostOf_46 rfl (lv_at hl 3 rfl) ?_
            refine lv_istore_n (lv' := [(2, .int (nI (fMo ms s i))), (4, .int (nI (cnt (scn s i)))), (0, .ref (a 0)), (1, .int ms), (3, .int (nI i))]) hx hb dX2_mostOf_47 rfl hl (by decide) rfl (fun ls hl => ?_)
            refine lv_iinc (v := nI (i + 1)) (lv' := [(3, .int (nI (i + 1))), (2, .int (nI (fMo ms s i))), (4, .int (nI (cnt (scn s i)))), (0, .ref (a 0)), (1, .int ms)]) hx hb dX2_mostOf_48 hl (k := 4) rfl (nI_add i 1) (by decide) rfl (fun ls hl => ?_)
            refine lv_goto (tgt := 4) hx hb dX2_mostOf_51 (by decide) ?_
            exact ih_LP4 (i + 1) (by omega) (by omega) H locs ls (hz.cast (by rfl)) (lv_cast (lv_sub hl [3, 4, 1, 0] (l' := [(0, .ref (a 0)), (1, .int ms), (2, .int (nI (fMo ms s i))), (3, .int (nI (i + 1)))]) rfl) (by first | (simp [fMo, c14]; done) | (simp [fMo, c14, Nat.max_eq_left c38]; done) | (simp [fMo, c14, Nat.max_eq_right (Nat.le_of_lt c38)]; done) | exact absurd c38 (Nat.not_lt_zero _)))
          · refine lv_iload hx hb dX2_mostOf_41 (lv_at hl 0 rfl) ?_
            refine lv_goto (tgt := 47) hx hb dX2_mostOf_43 (by decide) ?_
            refine lv_istore_n (lv' := [(2, .int (nI (cnt (scn s i)))), (4, .int (nI (cnt (scn s i)))), (0, .ref (a 0)), (1, .int ms), (3, .int (nI i))]) hx hb dX2_mostOf_47 rfl hl (by decide) rfl (fun ls hl => ?_)
            refine lv_iinc (v := nI (i + 1)) (lv' := [(3, .int (nI (i + 1))), (2, .int (nI (cnt (scn s i)))), (4, .int (nI (cnt (scn s i)))), (0, .ref (a 0)), (1, .int ms)]) hx hb dX2_mostOf_48 hl (k := 4) rfl (nI_add i 1) (by decide) rfl (fun ls hl => ?_)
            refine lv_goto (tgt := 4) hx hb dX2_mostOf_51 (by decide) ?_
            exact ih_LP4 (i + 1) (by omega) (by omega) H locs ls (hz.cast (by rfl)) (lv_cast (lv_sub hl [3, 4, 1, 0] (l' := [(0, .ref (a 0)), (1, .int ms), (2, .int (nI (cnt (scn s i)))), (3, .int (nI (i + 1)))]) rfl) (by first | (simp [fMo, c14]; done) | (simp [fMo, c14, Nat.max_eq_left c38]; done) | (simp [fMo, c14, Nat.max_eq_right (Nat.le_of_lt c38)]; done) | exact absurd c38 (Nat.not_lt_zero _)))
  exact LP4 _ 0 (by omega) (Nat.lt_succ_self _) H locs ls (hz.cast (by rfl)) (lv_cast (lv_sub hl [2, 3, 1, 0] (l' := [(0, .ref (a 0)), (1, .int ms), (2, .int (nI 0)), (3, .int (nI 0))]) rfl) (by rfl))
theorem hd_X0_longestScan : hdZ yX0_longestScan 1 := by decide +kernel
set_option maxRecDepth 100000 in
set_option maxHeartbeats 4000000 in
theorem c_X0_longestScan (l : Launch) (D : va_G) (cI cN : ClassId) (a : Nat → Nat) (s : Sz) (rk : Sz) (ms : Int32) (hI : IvS s) : Fn l D cI cN yX0_longestScan wsX0_longestScan 1 (nW cI a s rk) [.ref (a 0), .int ms] (some (.int (nI (fMo ms s 5)))) (nW cI a s rk) := by
  refine Fn.of (cc := cX0_longestScan) (nL := 4) (ret := (some .int)) (lv := [(0, .ref (a 0)), (1, .int ms)]) (by decide +kernel) rfl (Nat.le_of_ble_eq_true rfl) rfl ?_
  intro p e s_ m args below meth c A B hr hA H locs ls hz hl
  have hx := B.1.1
  have hb := B.1.2.1
  have hinX0 : ∀ w ∈ u_ws RX0 TX0 16, w ∈ wsX0_longestScan := by decide +kernel
  have lk27 : Cond.fieldLink yX0_longestScan.cls 27 RX0 (TX0 9).2.1 (TX0 9).2.2.1 ∈ wsX0_longestScan := by decide +kernel
  refine lv_iconst (v := (nI 0)) hx hb dX0_longestScan_0 (by decide) ?_
  refine lv_istore_n (lv' := [(2, .int (nI 0)), (0, .ref (a 0)), (1, .int ms)]) hx hb dX0_longestScan_1 rfl hl (by decide) rfl (fun ls hl => ?_)
  refine lv_iconst (v := (nI 0)) hx hb dX0_longestScan_2 (by decide) ?_
  refine lv_istore_n (lv' := [(3, .int (nI 0)), (2, .int (nI 0)), (0, .ref (a 0)), (1, .int ms)]) hx hb dX0_longestScan_3 rfl hl (by decide) rfl (fun ls hl => ?_)
  have LP4 : ∀ (n_LP4 : Nat) (i : Nat), (i ≤ 5) → 5 - i < n_LP4 → ∀ (H : Heap) (locs : List Loc) (ls : Array Slot), Hz D A s_.heap H locs (nW cI a s rk) → lv_has ls 4 [(0, .ref (a 0)), (1, .int ms), (2, .int (nI (fMo ms s i))), (3, .int (nI i))] → Wz p l e 1 s_ m args below meth c D A (some (.int (nI (fMo ms s 5)))) (nW cI a s rk) H locs (F0 m 4 ls []) := by
    intro n_LP4
    induction n_LP4 with
    | zero => intro i hi hm; exact absurd hm (Nat.not_lt_zero _)
    | succ n_LP4 ih_LP4 =>
      intro i hi hm H locs ls hz hl
      refine lv_iload_n hx hb dX0_longestScan_4 rfl (lv_at hl 3 rfl) ?_
      refine lv_iconst (v := (nI 5)) hx hb dX0_longestScan_5 (by decide) ?_
      refine ln_icmp_ge (tgt := 37) hx hb dX0_longestScan_6 (by decide) (by constructor <;> omega) (fun c6 => ?_) (fun c6 => ?_)
      · refine lv_iload_n hx hb dX0_longestScan_37 rfl (lv_at hl 2 rfl) ?_
        exact rz_i B hr hz dX0_longestScan_38 (by rw [show i = 5 by omega]) (by rfl)
      · refine lv_iload_n hx hb dX0_longestScan_9 rfl (lv_at hl 1 rfl) ?_
        refine lv_iload_n hx hb dX0_longestScan_10 rfl (lv_at hl 3 rfl) ?_
        refine cNst (k := 1) (As := [.int ms, .int (nI i)]) (rest := []) (v := .int (b2i (fHas ms (nI i)))) B hz hA (c_X1_contains l D cI cN ms (nI i) ) gX0_longestScan_X1_contains_n89 rfl (by decide +kernel) (by decide +kernel) (by decide +kernel) rfl hd_X1_contains (by decide) rfl hl.1 rfl (Nat.le_of_ble_eq_true rfl) dX0_longestScan_11 (fun H locs hz => ?_)
        refine lb_if_eq (tgt := 31) hx hb dX0_longestScan_14 (by decide) (fun c14 => ?_) (fun c14 => ?_)
        · refine lv_iinc (v := nI (i + 1)) (lv' := [(3, .int (nI (i + 1))), (0, .ref (a 0)), (1, .int ms), (2, .int (nI (fMo ms s i)))]) hx hb dX0_longestScan_31 hl (k := 3) rfl (nI_add i 1) (by decide) rfl (fun ls hl => ?_)
          refine lv_goto (tgt := 4) hx hb dX0_longestScan_34 (by decide) ?_
          exact ih_LP4 (i + 1) (by omega) (by omega) H locs ls (hz.cast (by rfl)) (lv_cast (lv_sub hl [1, 2, 3, 0] (l' := [(0, .ref (a 0)), (1, .int ms), (2, .int (nI (fMo ms s i))), (3, .int (nI (i + 1)))]) rfl) (by simp [fMo, c14]))
        · refine lv_iload_n hx hb dX0_longestScan_17 rfl (lv_at hl 2 rfl) ?_
          refine lv_aload_n hx hb dX0_longestScan_18 rfl (lv_at hl 0 rfl) ?_
          refine gz (C := RX0) (T := TX0) (N := 16) (v := .ref (a 1)) B hz hinX0 0 rfl rfl 9 (by decide) lk27 rfl rfl dX0_longestScan_19 ?_
          refine lv_iload_n hx hb dX0_longestScan_22 rfl (lv_at hl 3 rfl) ?_
          refine ildz (n := 5) (j := i) (v := (s (9 + i))) B hz 1 rfl (by omega) (by decide) (seg_at (by omega)) dX0_longestScan_23 ?_
          refine cvt (y := nI (scn s i)) ((show IvS s by assumption) i (by omega)).2.2 ?_
          refine cS (k := 1) (As := [.int (nI (scn s i))]) (rest := [.int (nI (fMo ms s i))]) (v := .int (nI (cnt (scn s i)))) B hz hA (c_bcN l D cI cN (scn s i) ((hI i (by omega)).2.1)) gX0_longestScan_J6_bitCount_0f7a4 rfl hd_J6_bitCount_0f7a4 (by decide) rfl hl.1 rfl (Nat.le_of_ble_eq_true rfl) dX0_longestScan_24 (fun H locs hz => ?_)
          refine va_mmax hx hb (B.1.2.2.1.trans hl.1.symm) B.1.2.2.2.1 (B.1.2.2.2.2 (.methodLink yX0_longestScan.cls 93 Lib.Math.max.name) (by decide +kernel)) (B.1.2.2.2.2 (.static Lib.Math.max.name) (by decide +kernel)) (B.1.2.2.2.2 (.initialized "java/lang/Math") (by decide +kernel)) (B.1.2.2.2.2 (.code Lib.Math.max.name Lib.Math.max.code 2 (some .int)) (by decide +kernel)) (Nat.le_of_ble_eq_true rfl) (Nat.le_of_ble_eq_true rfl) (Nat.le_refl _) (Nat.le_refl _) dX0_longestScan_27 ?_
          refine cvt (y := nI (max (fMo ms s i) (cnt (scn s i)))) (ln_max (by have h1 := fMo_le (ms := ms) hI i (by omega); have h2 := cnt_le _ (hI i (by omega)).2.1; constructor <;> omega)) ?_
          refine lv_istore_n (lv' := [(2, .int (nI (max (fMo ms s i) (cnt (scn s i))))), (0, .ref (a 0)), (1, .int ms), (3, .int (nI i))]) hx hb dX0_longestScan_30 rfl hl (by decide) rfl (fun ls hl => ?_)
          refine lv_iinc (v := nI (i + 1)) (lv' := [(3, .int (nI (i + 1))), (2, .int (nI (max (fMo ms s i) (cnt (scn s i))))), (0, .ref (a 0)), (1, .int ms)]) hx hb dX0_longestScan_31 hl (k := 3) rfl (nI_add i 1) (by decide) rfl (fun ls hl => ?_)
          refine lv_goto (tgt := 4) hx hb dX0_longestScan_34 (by decide) ?_
          exact ih_LP4 (i + 1) (by omega) (by omega) H locs ls (hz.cast (by rfl)) (lv_cast (lv_sub hl [2, 3, 1, 0] (l' := [(0, .ref (a 0)), (1, .int ms), (2, .int (nI (max (fMo ms s i) (cnt (scn s i))))), (3, .int (nI (i + 1)))]) rfl) (by simp [fMo, c14]))
  exact LP4 _ 0 (by omega) (Nat.lt_succ_self _) H locs ls (hz.cast (by rfl)) (lv_cast (lv_sub hl [2, 3, 1, 0] (l' := [(0, .ref (a 0)), (1, .int ms), (2, .int (nI 0)), (3, .int (nI 0))]) rfl) (by rfl))
theorem hd_X2_listens : hdZ yX2_listens 2 := by decide +kernel
set_option maxRecDepth 100000 in
set_option maxHeartbeats 4000000 in
theorem c_X2_listens (l : Launch) (D : va_G) (cI cN : ClassId) (a : Nat → Nat) (s : Sz) (pst : Sz) (np : Nat) (er : Sz) (od : Sz) (rk : Sz) (hs : Int64) (k : Nat) (mt : Nat) (hk : k < 5) (hI : IvS s) (hmt : mt < 2 ^ 31) : Fn l D cI cN yX2_listens wsX2_listens 1 (mW cI a s pst np er od rk hs) [.ref (a 0), .int (nI k), .int (nI mt)] (some (.int (nI (fLs (scn s k) mt)))) (mW cI a s pst np er od rk hs) := by
  refine Fn.of (cc := cX2_listens) (nL := 5) (ret := (some .int)) (lv := [(0, .ref (a 0)), (1, .int (nI k)), (2, .int (nI mt))]) (by decide +kernel) rfl (Nat.le_of_ble_eq_true rfl) rfl ?_
  intro p e s_ m args below meth c A B hr hA H locs ls hz hl
  have hx := B.1.1
  have hb := B.1.2.1
  have hinX2 : ∀ w ∈ u_ws RX2 TX2 7, w ∈ wsX2_listens := by decide +kernel
  have lk7 : Cond.fieldLink yX2_listens.cls 7 RX2 (TX2 0).2.1 (TX2 0).2.2.1 ∈ wsX2_listens := by decide +kernel
  have hs1 := (hI k hk).1
  have hs2 := (hI k hk).2.1
  have hcp := cnt_pos hs1 hs2
  have hcl := cnt_le _ hs2
  refine lv_iload_n hx hb dX2_listens_0 rfl (lv_at hl 2 rfl) ?_
  refine lv_aload_n hx hb dX2_listens_1 rfl (lv_at hl 0 rfl) ?_
  refine gz (C := RX2) (T := TX2) (N := 7) (v := .ref (a 1)) B hz hinX2 0 rfl rfl 0 (by decide) lk7 rfl rfl dX2_listens_2 ?_
  refine lv_bipush (v := (nI 9)) hx hb dX2_listens_5 (by decide) ?_
  refine lv_iload_n hx hb dX2_listens_7 rfl (lv_at hl 1 rfl) ?_
  refine ln_add hx hb dX2_listens_8 ?_
  refine ildz (n := 624) (j := (9 + k)) (v := (s (9 + k))) B hz 1 rfl (by omega) (by decide) rfl dX2_listens_9 ?_
  refine cvt (y := nI (scn s k)) ((show IvS s by assumption) k (by omega)).2.2 ?_
  refine cS (k := 1) (As := [.int (nI (scn s k))]) (rest := [.int (nI mt)]) (v := .int (nI (cnt (scn s k)))) B hz hA (c_X2_count l D cI cN (scn s k) (hs2)) gX2_listens_X2_count rfl hd_X2_count (by decide) rfl hl.1 rfl (Nat.le_of_ble_eq_true rfl) dX2_listens_10 (fun H locs hz => ?_)
  refine lv_irem hx hb dX2_listens_13 (nI_ne0 (hcp) (by omega)) ?_
  refine cvt (y := nI (mt % (cnt (scn s k)))) (pk_rem (hmt) (hcp) (by omega)) ?_
  refine lv_istore_n (lv' := [(3, .int (nI (mt % (cnt (scn s k))))), (0, .ref (a 0)), (1, .int (nI k)), (2, .int (nI mt))]) hx hb dX2_listens_14 rfl hl (by decide) rfl (fun ls hl => ?_)
  refine lv_iconst (v := (nI 0)) hx hb dX2_listens_15 (by decide) ?_
  refine lv_istore (lv' := [(4, .int (nI 0)), (3, .int (nI (mt % (cnt (scn s k))))), (0, .ref (a 0)), (1, .int (nI k)), (2, .int (nI mt))]) hx hb dX2_listens_16 hl (by decide) rfl (fun ls hl => ?_)
  have LP : ∀ (n_LP : Nat) (ch : Nat), (ch ≤ nth (scn s k) (mt % cnt (scn s k))) → 8 - ch < n_LP → ∀ (H : Heap) (locs : List Loc) (ls : Array Slot), Hz D A s_.heap H locs (mW cI a s pst np er od rk hs) → lv_has ls 5 [(0, .ref (a 0)), (1, .int (nI k)), (2, .int (nI mt)), (3, .int (nI ((mt % cnt (scn s k)) - rkc (scn s k) ch))), (4, .int (nI ch))] → Wz p l e 1 s_ m args below meth c D A (some (.int (nI (fLs (scn s k) mt)))) (mW cI a s pst np er od rk hs) H locs (F0 m 18 ls []) := by
    intro n_LP
    induction n_LP with
    | zero => intro ch hch hm; exact absurd hm (Nat.not_lt_zero _)
    | succ n_LP ih_LP =>
      intro ch hch hm H locs ls hz hl
      refine lv_aload_n hx hb dX2_listens_18 rfl (lv_at hl 0 rfl) ?_
      refine gz (C := RX2) (T := TX2) (N := 7) (v := .ref (a 1)) B hz hinX2 0 rfl rfl 0 (by decide) lk7 rfl rfl dX2_listens_19 ?_
      refine lv_bipush (v := (nI 9)) hx hb dX2_listens_22 (by decide) ?_
      refine lv_iload_n hx hb dX2_listens_24 rfl (lv_at hl 1 rfl) ?_
      refine ln_add hx hb dX2_listens_25 ?_
      refine ildz (n := 624) (j := (9 + k)) (v := (s (9 + k))) B hz 1 rfl (by omega) (by decide) rfl dX2_listens_26 ?_
      refine cvt (y := nI (scn s k)) ((show IvS s by assumption) k (by omega)).2.2 ?_
      refine lv_iload hx hb dX2_listens_27 (lv_at hl 4 rfl) ?_
      refine cS (k := 1) (As := [.int (nI (scn s k)), .int (nI ch)]) (rest := []) (v := .int (b2i (fHas (nI (scn s k)) (nI ch)))) B hz hA (c_X2_has l D cI cN (nI (scn s k)) (nI ch) ) gX2_listens_X2_has rfl hd_X2_has (by decide) rfl hl.1 rfl (Nat.le_of_ble_eq_true rfl) dX2_listens_29 (fun H locs hz => ?_)
      refine lb_if_eq (tgt := 39) hx hb dX2_listens_32 (by decide) (fun c32 => ?_) (fun c32 => ?_)
      · refine lv_iload_n hx hb dX2_listens_39 rfl (lv_at hl 3 rfl) ?_
        refine lv_aload_n hx hb dX2_listens_40 rfl (lv_at hl 0 rfl) ?_
        refine gz (C := RX2) (T := TX2) (N := 7) (v := .ref (a 1)) B hz hinX2 0 rfl rfl 0 (by decide) lk7 rfl rfl dX2_listens_41 ?_
        refine lv_bipush (v := (nI 9)) hx hb dX2_listens_44 (by decide) ?_
        refine lv_iload_n hx hb dX2_listens_46 rfl (lv_at hl 1 rfl) ?_
        refine ln_add hx hb dX2_listens_47 ?_
        refine ildz (n := 624) (j := (9 + k)) (v := (s (9 + k))) B hz 1 rfl (by omega) (by decide) rfl dX2_listens_48 ?_
        refine cvt (y := nI (scn s k)) ((show IvS s by assumption) k (by omega)).2.2 ?_
        refine lv_iload hx hb dX2_listens_49 (lv_at hl 4 rfl) ?_
        refine cS (k := 1) (As := [.int (nI (scn s k)), .int (nI ch)]) (rest := [.int (nI ((mt % cnt (scn s k)) - rkc (scn s k) ch))]) (v := .int (b2i (fHas (nI (scn s k)) (nI ch)))) B hz hA (c_X2_has l D cI cN (nI (scn s k)) (nI ch) ) gX2_listens_X2_has rfl hd_X2_has (by decide) rfl hl.1 rfl (Nat.le_of_ble_eq_true rfl) dX2_listens_51 (fun H locs hz => ?_)
        refine lb_if_eq (tgt := 61) hx hb dX2_listens_54 (by decide) (fun c54 => ?_) (fun c54 => ?_)
        · refine lv_iconst (v := (nI 0)) hx hb dX2_listens_61 (by decide) ?_
          refine lv_isub hx hb dX2_listens_62 ?_
          refine lv_istore_n (lv' := [(3, .int ((nI ((mt % cnt (scn s k)) - rkc (scn s k) ch)) - (nI 0))), (0, .ref (a 0)), (1, .int (nI k)), (2, .int (nI mt)), (4, .int (nI ch))]) hx hb dX2_listens_63 rfl hl (by decide) rfl (fun ls hl => ?_)
          refine lv_iinc (v := nI (ch + 1)) (lv' := [(4, .int (nI (ch + 1))), (3, .int ((nI ((mt % cnt (scn s k)) - rkc (scn s k) ch)) - (nI 0))), (0, .ref (a 0)), (1, .int (nI k)), (2, .int (nI mt))]) hx hb dX2_listens_64 hl (k := 4) rfl (nI_add ch 1) (by decide) rfl (fun ls hl => ?_)
          refine lv_goto (tgt := 18) hx hb dX2_listens_67 (by decide) ?_
          have hlt : ch < nth (scn s k) (mt % cnt (scn s k)) := by first | exact ls_lt hs2 (Nat.mod_lt mt hcp) hch (Or.inl c32) | exact ls_lt hs2 (Nat.mod_lt mt hcp) hch (Or.inr c36)
          exact ih_LP (ch + 1) (Nat.succ_le_of_lt hlt) ((by have := (nth_ok hs2 (Nat.mod_lt mt hcp)).1; omega)) H locs ls (hz.cast (by rfl)) (lv_cast (lv_sub hl [2, 3, 4, 1, 0] (l' := [(0, .ref (a 0)), (1, .int (nI k)), (2, .int (nI mt)), (3, .int ((nI ((mt % cnt (scn s k)) - rkc (scn s k) ch)) - (nI 0))), (4, .int (nI (ch + 1)))]) rfl) (by first | (rw [ls_a c54 c36]; done) | (rw [ls_b c54]; done) | (rw [c32] at c54; cases c54)))
        · refine lv_iconst (v := (nI 1)) hx hb dX2_listens_57 (by decide) ?_
          refine lv_goto (tgt := 62) hx hb dX2_listens_58 (by decide) ?_
          refine lv_isub hx hb dX2_listens_62 ?_
          refine lv_istore_n (lv' := [(3, .int ((nI ((mt % cnt (scn s k)) - rkc (scn s k) ch)) - (nI 1))), (0, .ref (a 0)), (1, .int (nI k)), (2, .int (nI mt)), (4, .int (nI ch))]) hx hb dX2_listens_63 rfl hl (by decide) rfl (fun ls hl => ?_)
          refine lv_iinc (v := nI (ch + 1)) (lv' := [(4, .int (nI (ch + 1))), (3, .int ((nI ((mt % cnt (scn s k)) - rkc (scn s k) ch)) - (nI 1))), (0, .ref (a 0)), (1, .int (nI k)), (2, .int (nI mt))]) hx hb dX2_listens_64 hl (k := 4) rfl (nI_add ch 1) (by decide) rfl (fun ls hl => ?_)
          refine lv_goto (tgt := 18) hx hb dX2_listens_67 (by decide) ?_
          have hlt : ch < nth (scn s k) (mt % cnt (scn s k)) := by first | exact ls_lt hs2 (Nat.mod_lt mt hcp) hch (Or.inl c32) | exact ls_lt hs2 (Nat.mod_lt mt hcp) hch (Or.inr c36)
          exact ih_LP (ch + 1) (Nat.succ_le_of_lt hlt) ((by have := (nth_ok hs2 (Nat.mod_lt mt hcp)).1; omega)) H locs ls (hz.cast (by rfl)) (lv_cast (lv_sub hl [2, 3, 4, 1, 0] (l' := [(0, .ref (a 0)), (1, .int (nI k)), (2, .int (nI mt)), (3, .int ((nI ((mt % cnt (scn s k)) - rkc (scn s k) ch)) - (nI 1))), (4, .int (nI (ch + 1)))]) rfl) (by first | (rw [ls_a c54 c36]; done) | (rw [ls_b c54]; done) | (rw [c32] at c54; cases c54)))
      · refine lv_iload_n hx hb dX2_listens_35 rfl (lv_at hl 3 rfl) ?_
        refine ln_if_le (tgt := 70) hx hb dX2_listens_36 (by decide) (by have := Nat.mod_lt mt hcp; omega) (fun c36 => ?_) (fun c36 => ?_)
        · refine lv_iload hx hb dX2_listens_70 (lv_at hl 4 rfl) ?_
          exact rz_i B hr hz dX2_listens_72 (by exact congrArg nI (ls_eq hs2 (Nat.mod_lt mt hcp) hch c32 c36)) (by rfl)
        · refine lv_iload_n hx hb dX2_listens_39 rfl (lv_at hl 3 rfl) ?_
          refine lv_aload_n hx hb dX2_listens_40 rfl (lv_at hl 0 rfl) ?_
          refine gz (C := RX2) (T := TX2) (N := 7) (v := .ref (a 1)) B hz hinX2 0 rfl rfl 0 (by decide) lk7 rfl rfl dX2_listens_41 ?_
          refine lv_bipush (v := (nI 9)) hx hb dX2_listens_44 (by decide) ?_
          refine lv_iload_n hx hb dX2_listens_46 rfl (lv_at hl 1 rfl) ?_
          refine ln_add hx hb dX2_listens_47 ?_
          refine ildz (n := 624) (j := (9 + k)) (v := (s (9 + k))) B hz 1 rfl (by omega) (by decide) rfl dX2_listens_48 ?_
          refine cvt (y := nI (scn s k)) ((show IvS s by assumption) k (by omega)).2.2 ?_
          refine lv_iload hx hb dX2_listens_49 (lv_at hl 4 rfl) ?_
          refine cS (k := 1) (As := [.int (nI (scn s k)), .int (nI ch)]) (rest := [.int (nI ((mt % cnt (scn s k)) - rkc (scn s k) ch))]) (v := .int (b2i (fHas (nI (scn s k)) (nI ch)))) B hz hA (c_X2_has l D cI cN (nI (scn s k)) (nI ch) ) gX2_listens_X2_has rfl hd_X2_has (by decide) rfl hl.1 rfl (Nat.le_of_ble_eq_true rfl) dX2_listens_51 (fun H locs hz => ?_)
          refine lb_if_eq (tgt := 61) hx hb dX2_listens_54 (by decide) (fun c54 => ?_) (fun c54 => ?_)
          · refine lv_iconst (v := (nI 0)) hx hb dX2_listens_61 (by decide) ?_
            refine lv_isub hx hb dX2_listens_62 ?_
            refine lv_istore_n (lv' := [(3, .int ((nI ((mt % cnt (scn s k)) - rkc (scn s k) ch)) - (nI 0))), (0, .ref (a 0)), (1, .int (nI k)), (2, .int (nI mt)), (4, .int (nI ch))]) hx hb dX2_listens_63 rfl hl (by decide) rfl (fun ls hl => ?_)
            refine lv_iinc (v := nI (ch + 1)) (lv' := [(4, .int (nI (ch + 1))), (3, .int ((nI ((mt % cnt (scn s k)) - rkc (scn s k) ch)) - (nI 0))), (0, .ref (a 0)), (1, .int (nI k)), (2, .int (nI mt))]) hx hb dX2_listens_64 hl (k := 4) rfl (nI_add ch 1) (by decide) rfl (fun ls hl => ?_)
            refine lv_goto (tgt := 18) hx hb dX2_listens_67 (by decide) ?_
            have hlt : ch < nth (scn s k) (mt % cnt (scn s k)) := by first | exact ls_lt hs2 (Nat.mod_lt mt hcp) hch (Or.inl c32) | exact ls_lt hs2 (Nat.mod_lt mt hcp) hch (Or.inr c36)
            exact ih_LP (ch + 1) (Nat.succ_le_of_lt hlt) ((by have := (nth_ok hs2 (Nat.mod_lt mt hcp)).1; omega)) H locs ls (hz.cast (by rfl)) (lv_cast (lv_sub hl [2, 3, 4, 1, 0] (l' := [(0, .ref (a 0)), (1, .int (nI k)), (2, .int (nI mt)), (3, .int ((nI ((mt % cnt (scn s k)) - rkc (scn s k) ch)) - (nI 0))), (4, .int (nI (ch + 1)))]) rfl) (by first | (rw [ls_a c54 c36]; done) | (rw [ls_b c54]; done) | (rw [c32] at c54; cases c54)))
          · refine lv_iconst (v := (nI 1)) hx hb dX2_listens_57 (by decide) ?_
            refine lv_goto (tgt := 62) hx hb dX2_listens_58 (by decide) ?_
            refine lv_isub hx hb dX2_listens_62 ?_
            refine lv_istore_n (lv' := [(3, .int ((nI ((mt % cnt (scn s k)) - rkc (scn s k) ch)) - (nI 1))), (0, .ref (a 0)), (1, .int (nI k)), (2, .int (nI mt)), (4, .int (nI ch))]) hx hb dX2_listens_63 rfl hl (by decide) rfl (fun ls hl => ?_)
            refine lv_iinc (v := nI (ch + 1)) (lv' := [(4, .int (nI (ch + 1))), (3, .int ((nI ((mt % cnt (scn s k)) - rkc (scn s k) ch)) - (nI 1))), (0, .ref (a 0)), (1, .int (nI k)), (2, .int (nI mt))]) hx hb dX2_listens_64 hl (k := 4) rfl (nI_add ch 1) (by decide) rfl (fun ls hl => ?_)
            refine lv_goto (tgt := 18) hx hb dX2_listens_67 (by decide) ?_
            have hlt : ch < nth (scn s k) (mt % cnt (scn s k)) := by first | exact ls_lt hs2 (Nat.mod_lt mt hcp) hch (Or.inl c32) | exact ls_lt hs2 (Nat.mod_lt mt hcp) hch (Or.inr c36)
            exact ih_LP (ch + 1) (Nat.succ_le_of_lt hlt) ((by have := (nth_ok hs2 (Nat.mod_lt mt hcp)).1; omega)) H locs ls (hz.cast (by rfl)) (lv_cast (lv_sub hl [2, 3, 4, 1, 0] (l' := [(0, .ref (a 0)), (1, .int (nI k)), (2, .int (nI mt)), (3, .int ((nI ((mt % cnt (scn s k)) - rkc (scn s k) ch)) - (nI 1))), (4, .int (nI (ch + 1)))]) rfl) (by first | (rw [ls_a c54 c36]; done) | (rw [ls_b c54]; done) | (rw [c32] at c54; cases c54)))
  exact LP _ 0 (Nat.zero_le _) (Nat.lt_succ_self _) H locs ls (hz.cast (by rfl)) (lv_cast (lv_sub hl [2, 3, 4, 1, 0] (l' := [(0, .ref (a 0)), (1, .int (nI k)), (2, .int (nI mt)), (3, .int (nI (mt % (cnt (scn s k))))), (4, .int (nI 0))]) rfl) (by rfl))
theorem hd_J9_floorMod_7cf53 : hdZ yJ9_floorMod_7cf53 2 := by decide +kernel
set_option maxRecDepth 100000 in
set_option maxHeartbeats 4000000 in
theorem c_J9_floorMod_7cf53 (l : Launch) (D : va_G) (cI cN : ClassId) (x : Nat) (y : Nat) (hx1 : x < 2 ^ 31) (hy0 : 0 < y) (hy1 : y < 2 ^ 31) : Fn l D cI cN yJ9_floorMod_7cf53 wsJ9_floorMod_7cf53 0 ([] : va_W) [.int (nI x), .int (nI y)] (some (.int (nI (x % y)))) ([] : va_W) := by
  refine Fn.of (cc := cJ9_floorMod_7cf53) (nL := 3) (ret := (some .int)) (lv := [(0, .int (nI x)), (1, .int (nI y))]) (by decide +kernel) rfl (Nat.le_of_ble_eq_true rfl) rfl ?_
  intro p e s_ m args below meth c A B hr hA H locs ls hz hl
  have hx := B.1.1
  have hb := B.1.2.1
  refine lv_iload_n hx hb dJ9_floorMod_7cf53_0 rfl (lv_at hl 0 rfl) ?_
  refine lv_iload_n hx hb dJ9_floorMod_7cf53_1 rfl (lv_at hl 1 rfl) ?_
  refine lv_irem hx hb dJ9_floorMod_7cf53_2 (nI_ne0 (hy0) (hy1)) ?_
  refine cvt (y := nI (x % y)) (pk_rem (hx1) (hy0) (hy1)) ?_
  refine lv_istore_n (lv' := [(2, .int (nI (x % y))), (0, .int (nI x)), (1, .int (nI y))]) hx hb dJ9_floorMod_7cf53_3 rfl hl (by decide) rfl (fun ls hl => ?_)
  refine lv_iload_n hx hb dJ9_floorMod_7cf53_4 rfl (lv_at hl 1 rfl) ?_
  refine lv_iload_n hx hb dJ9_floorMod_7cf53_5 rfl (lv_at hl 2 rfl) ?_
  refine lv_ixor hx hb dJ9_floorMod_7cf53_6 ?_
  refine lv_if_ge (tgt := 18) hx hb dJ9_floorMod_7cf53_7 (by decide) (fun c7 => ?_) (fun c7 => ?_)
  · refine lv_iload_n hx hb dJ9_floorMod_7cf53_18 rfl (lv_at hl 0 rfl) ?_
    exact rz_i B hr hz dJ9_floorMod_7cf53_19 (by rfl) (by rfl)
  · exact absurd (xor_nn hx1 hy1) c7
theorem hd_X0_scannedChannel : hdZ yX0_scannedChannel 1 := by decide +kernel
set_option maxRecDepth 100000 in
set_option maxHeartbeats 4000000 in
theorem c_X0_scannedChannel (l : Launch) (D : va_G) (cI cN : ClassId) (a : Nat → Nat) (s : Sz) (rk : Sz) (k : Nat) (hk : k < 5) (hI : IvS s) (hT : IvT s) : Fn l D cI cN yX0_scannedChannel wsX0_scannedChannel 1 (nW cI a s rk) [.ref (a 0), .int (nI k)] (some (.int (if fLk s k = true then -1 else nI (fLs (scn s k) (tmN s))))) (nW cI a s rk) := by
  refine Fn.of (cc := cX0_scannedChannel) (nL := 5) (ret := (some .int)) (lv := [(0, .ref (a 0)), (1, .int (nI k))]) (by decide +kernel) rfl (Nat.le_of_ble_eq_true rfl) rfl ?_
  intro p e s_ m args below meth c A B hr hA H locs ls hz hl
  have hx := B.1.1
  have hb := B.1.2.1
  have hinX0 : ∀ w ∈ u_ws RX0 TX0 16, w ∈ wsX0_scannedChannel := by decide +kernel
  have lk27 : Cond.fieldLink yX0_scannedChannel.cls 27 RX0 (TX0 9).2.1 (TX0 9).2.2.1 ∈ wsX0_scannedChannel := by decide +kernel
  have lk55 : Cond.fieldLink yX0_scannedChannel.cls 55 RX0 (TX0 0).2.1 (TX0 0).2.2.1 ∈ wsX0_scannedChannel := by decide +kernel
  have hs1 := (hI k hk).1
  have hs2 := (hI k hk).2.1
  have hcp := cnt_pos hs1 hs2
  have hcl := cnt_le _ hs2
  have hT2 := hT.2
  refine lv_aload_n hx hb dX0_scannedChannel_0 rfl (lv_at hl 0 rfl) ?_
  refine gz (C := RX0) (T := TX0) (N := 16) (v := .ref (a 1)) B hz hinX0 0 rfl rfl 9 (by decide) lk27 rfl rfl dX0_scannedChannel_1 ?_
  refine lv_iload_n hx hb dX0_scannedChannel_4 rfl (lv_at hl 1 rfl) ?_
  refine ildz (n := 5) (j := k) (v := (s (9 + k))) B hz 1 rfl (by omega) (by decide) (seg_at (by omega)) dX0_scannedChannel_5 ?_
  refine cvt (y := nI (scn s k)) ((show IvS s by assumption) k (by omega)).2.2 ?_
  refine cS (k := 1) (As := [.int (nI (scn s k))]) (rest := []) (v := .int (nI (cnt (scn s k)))) B hz hA (c_bcN l D cI cN (scn s k) (hs2)) gX0_scannedChannel_J6_bitCount_0f7a4 rfl hd_J6_bitCount_0f7a4 (by decide) rfl hl.1 rfl (Nat.le_of_ble_eq_true rfl) dX0_scannedChannel_6 (fun H locs hz => ?_)
  refine lv_istore_n (lv' := [(2, .int (nI (cnt (scn s k)))), (0, .ref (a 0)), (1, .int (nI k))]) hx hb dX0_scannedChannel_9 rfl hl (by decide) rfl (fun ls hl => ?_)
  refine lv_aload_n hx hb dX0_scannedChannel_10 rfl (lv_at hl 1 rfl) ?_
  refine lv_iload_n hx hb dX0_scannedChannel_11 rfl (lv_at hl 2 rfl) ?_
  refine cV (C := RX0) (T := TX0) (N := 16) (ci := 0) (q0 := 0) (k := 1) (As := [.int (nI k)]) (rest := []) (v := .int (b2i (fLk s k))) (ws1 := (nW cI a s rk)) B hz hA (c_X0_isLinked l D cI cN a s rk k (by omega)) gX0_scannedChannel_X0_isLinked rfl rfl hd_X0_isLinked (by decide) rfl rfl rfl hl.1 rfl (Nat.le_of_ble_eq_true rfl) dX0_scannedChannel_12 (fun H locs hz => ?_)
  refine lb_if_ne (tgt := 22) hx hb dX0_scannedChannel_15 (by decide) (fun c15 => ?_) (fun c15 => ?_)
  · refine lv_iconst (v := (-1)) hx hb dX0_scannedChannel_22 (by decide) ?_
    exact rz_i B hr hz dX0_scannedChannel_23 (by rw [if_pos c15]) (by rfl)
  · refine lv_iload_n hx hb dX0_scannedChannel_18 rfl (lv_at hl 0 rfl) ?_
    refine ln_if_ne (tgt := 24) hx hb dX0_scannedChannel_19 (by decide) (by omega) (fun c19 => ?_) (fun c19 => ?_)
    · refine lv_aload_n hx hb dX0_scannedChannel_24 rfl (lv_at hl 1 rfl) ?_
      refine gz (C := RX0) (T := TX0) (N := 16) (v := .int (s 0)) B hz hinX0 0 rfl rfl 0 (by decide) lk55 rfl rfl dX0_scannedChannel_25 ?_
      refine cvt (y := nI (tmN s)) (show IvT s by assumption).1 ?_
      refine lv_iload_n hx hb dX0_scannedChannel_28 rfl (lv_at hl 0 rfl) ?_
      refine cS (k := 1) (As := [.int (nI (tmN s)), .int (nI (cnt (scn s k)))]) (rest := []) (v := .int (nI ((tmN s) % (cnt (scn s k))))) B hz hA (c_J9_floorMod_7cf53 l D cI cN (tmN s) (cnt (scn s k)) (by omega) (hcp) (by omega)) gX0_scannedChannel_J9_floorMod_7cf53 rfl hd_J9_floorMod_7cf53 (by decide) rfl hl.1 rfl (Nat.le_of_ble_eq_true rfl) dX0_scannedChannel_29 (fun H locs hz => ?_)
      refine lv_istore_n (lv' := [(3, .int (nI ((tmN s) % (cnt (scn s k))))), (2, .int (nI (cnt (scn s k)))), (0, .ref (a 0)), (1, .int (nI k))]) hx hb dX0_scannedChannel_32 rfl hl (by decide) rfl (fun ls hl => ?_)
      refine lv_iconst (v := (nI 0)) hx hb dX0_scannedChannel_33 (by decide) ?_
      refine lv_istore (lv' := [(4, .int (nI 0)), (3, .int (nI ((tmN s) % (cnt (scn s k))))), (2, .int (nI (cnt (scn s k)))), (0, .ref (a 0)), (1, .int (nI k))]) hx hb dX0_scannedChannel_34 hl (by decide) rfl (fun ls hl => ?_)
      have LP : ∀ (n_LP : Nat) (ch : Nat), (ch ≤ nth (scn s k) ((tmN s) % cnt (scn s k))) → 8 - ch < n_LP → ∀ (H : Heap) (locs : List Loc) (ls : Array Slot), Hz D A s_.heap H locs (nW cI a s rk) → lv_has ls 5 [(0, .ref (a 0)), (1, .int (nI k)), (2, .int (nI (cnt (scn s k)))), (3, .int (nI (((tmN s) % cnt (scn s k)) - rkc (scn s k) ch))), (4, .int (nI ch))] → Wz p l e 1 s_ m args below meth c D A (some (.int (if fLk s k = true then -1 else nI (fLs (scn s k) (tmN s))))) (nW cI a s rk) H locs (F0 m 36 ls []) := by
        intro n_LP
        induction n_LP with
        | zero => intro ch hch hm; exact absurd hm (Nat.not_lt_zero _)
        | succ n_LP ih_LP =>
          intro ch hch hm H locs ls hz hl
          refine lv_iload hx hb dX0_scannedChannel_36 (lv_at hl 4 rfl) ?_
          refine lv_bipush (v := (nI 8)) hx hb dX0_scannedChannel_38 (by decide) ?_
          refine ln_icmp_ge (tgt := 73) hx hb dX0_scannedChannel_40 (by decide) (by have := (nth_ok hs2 (Nat.mod_lt (tmN s) hcp)).1; constructor <;> omega) (fun c40 => ?_) (fun c40 => ?_)
          · exact absurd (nth_ok hs2 (Nat.mod_lt (tmN s) hcp)).1 (by omega)
          · refine lv_aload_n hx hb dX0_scannedChannel_43 rfl (lv_at hl 0 rfl) ?_
            refine gz (C := RX0) (T := TX0) (N := 16) (v := .ref (a 1)) B hz hinX0 0 rfl rfl 9 (by decide) lk27 rfl rfl dX0_scannedChannel_44 ?_
            refine lv_iload_n hx hb dX0_scannedChannel_47 rfl (lv_at hl 1 rfl) ?_
            refine ildz (n := 5) (j := k) (v := (s (9 + k))) B hz 1 rfl (by omega) (by decide) (seg_at (by omega)) dX0_scannedChannel_48 ?_
            refine cvt (y := nI (scn s k)) ((show IvS s by assumption) k (by omega)).2.2 ?_
            refine lv_iload hx hb dX0_scannedChannel_49 (lv_at hl 4 rfl) ?_
            refine cNst (k := 1) (As := [.int (nI (scn s k)), .int (nI ch)]) (rest := []) (v := .int (b2i (fHas (nI (scn s k)) (nI ch)))) B hz hA (c_X1_contains l D cI cN (nI (scn s k)) (nI ch) ) gX0_scannedChannel_X1_contains_n89 rfl (by decide +kernel) (by decide +kernel) (by decide +kernel) rfl hd_X1_contains (by decide) rfl hl.1 rfl (Nat.le_of_ble_eq_true rfl) dX0_scannedChannel_51 (fun H locs hz => ?_)
            refine lb_if_eq (tgt := 67) hx hb dX0_scannedChannel_54 (by decide) (fun c54 => ?_) (fun c54 => ?_)
            · refine lv_iinc (v := nI (ch + 1)) (lv' := [(4, .int (nI (ch + 1))), (0, .ref (a 0)), (1, .int (nI k)), (2, .int (nI (cnt (scn s k)))), (3, .int (nI (((tmN s) % cnt (scn s k)) - rkc (scn s k) ch)))]) hx hb dX0_scannedChannel_67 hl (k := 4) rfl (nI_add ch 1) (by decide) rfl (fun ls hl => ?_)
              refine lv_goto (tgt := 36) hx hb dX0_scannedChannel_70 (by decide) ?_
              have hlt : ch < nth (scn s k) ((tmN s) % cnt (scn s k)) := by first | exact ls_lt hs2 (Nat.mod_lt _ hcp) hch (Or.inl c54) | exact ls_lt hs2 (Nat.mod_lt _ hcp) hch (Or.inr c58)
              exact ih_LP (ch + 1) (Nat.succ_le_of_lt hlt) ((by have := (nth_ok hs2 (Nat.mod_lt (tmN s) hcp)).1; omega)) H locs ls (hz.cast (by rfl)) (lv_cast (lv_sub hl [1, 2, 3, 4, 0] (l' := [(0, .ref (a 0)), (1, .int (nI k)), (2, .int (nI (cnt (scn s k)))), (3, .int (nI (((tmN s) % cnt (scn s k)) - rkc (scn s k) ch))), (4, .int (nI (ch + 1)))]) rfl) (by first | (rw [ls_c c54]; done) | (rw [← ls_d c54]; done)))
            · refine lv_iload_n hx hb dX0_scannedChannel_57 rfl (lv_at hl 3 rfl) ?_
              refine ln_if_ne (tgt := 64) hx hb dX0_scannedChannel_58 (by decide) (by have := Nat.mod_lt (tmN s) hcp; omega) (fun c58 => ?_) (fun c58 => ?_)
              · refine lv_iinc (v := nI (((tmN s) % cnt (scn s k) - rkc (scn s k) ch) - 1)) (lv' := [(3, .int (nI (((tmN s) % cnt (scn s k) - rkc (scn s k) ch) - 1))), (0, .ref (a 0)), (1, .int (nI k)), (2, .int (nI (cnt (scn s k)))), (4, .int (nI ch))]) hx hb dX0_scannedChannel_64 hl (k := 3) rfl (nI_m1 c58) (by decide) rfl (fun ls hl => ?_)
                refine lv_iinc (v := nI (ch + 1)) (lv' := [(4, .int (nI (ch + 1))), (3, .int (nI (((tmN s) % cnt (scn s k) - rkc (scn s k) ch) - 1))), (0, .ref (a 0)), (1, .int (nI k)), (2, .int (nI (cnt (scn s k))))]) hx hb dX0_scannedChannel_67 hl (k := 4) rfl (nI_add ch 1) (by decide) rfl (fun ls hl => ?_)
                refine lv_goto (tgt := 36) hx hb dX0_scannedChannel_70 (by decide) ?_
                have hlt : ch < nth (scn s k) ((tmN s) % cnt (scn s k)) := by first | exact ls_lt hs2 (Nat.mod_lt _ hcp) hch (Or.inl c54) | exact ls_lt hs2 (Nat.mod_lt _ hcp) hch (Or.inr c58)
                exact ih_LP (ch + 1) (Nat.succ_le_of_lt hlt) ((by have := (nth_ok hs2 (Nat.mod_lt (tmN s) hcp)).1; omega)) H locs ls (hz.cast (by rfl)) (lv_cast (lv_sub hl [2, 3, 4, 1, 0] (l' := [(0, .ref (a 0)), (1, .int (nI k)), (2, .int (nI (cnt (scn s k)))), (3, .int (nI (((tmN s) % cnt (scn s k) - rkc (scn s k) ch) - 1))), (4, .int (nI (ch + 1)))]) rfl) (by first | (rw [ls_c c54]; done) | (rw [← ls_d c54]; done)))
              · refine lv_iload hx hb dX0_scannedChannel_61 (lv_at hl 4 rfl) ?_
                exact rz_i B hr hz dX0_scannedChannel_63 (by rw [if_neg (by rw [c15]; decide)]; exact congrArg nI (ls_eq hs2 (Nat.mod_lt (tmN s) hcp) hch c54 c58)) (by rfl)
      exact LP _ 0 (Nat.zero_le _) (Nat.lt_succ_self _) H locs ls (hz.cast (by rfl)) (lv_cast (lv_sub hl [3, 4, 2, 1, 0] (l' := [(0, .ref (a 0)), (1, .int (nI k)), (2, .int (nI (cnt (scn s k)))), (3, .int (nI ((tmN s) % (cnt (scn s k))))), (4, .int (nI 0))]) rfl) (by rfl))
    · exact absurd c19 (by omega)
theorem hd_X0_hears : hdZ yX0_hears 2 := by decide +kernel
set_option maxRecDepth 100000 in
set_option maxHeartbeats 4000000 in
theorem c_X0_hears (l : Launch) (D : va_G) (cI cN : ClassId) (a : Nat → Nat) (s : Sz) (rk : Sz) (k : Nat) (ch : Nat) (hk : k < 5) : Fn l D cI cN yX0_hears wsX0_hears 1 (nW cI a s rk) [.ref (a 0), .int (nI k), .int (nI ch)] (some (.int (b2i (fHe s k ch)))) (nW cI a s rk) := by
  refine Fn.of (cc := cX0_hears) (nL := 3) (ret := (some .boolean)) (lv := [(0, .ref (a 0)), (1, .int (nI k)), (2, .int (nI ch))]) (by decide +kernel) rfl (Nat.le_of_ble_eq_true rfl) rfl ?_
  intro p e s_ m args below meth c A B hr hA H locs ls hz hl
  have hx := B.1.1
  have hb := B.1.2.1
  have hinX0 : ∀ w ∈ u_ws RX0 TX0 16, w ∈ wsX0_hears := by decide +kernel
  have lk27 : Cond.fieldLink yX0_hears.cls 27 RX0 (TX0 9).2.1 (TX0 9).2.2.1 ∈ wsX0_hears := by decide +kernel
  refine lv_aload_n hx hb dX0_hears_0 rfl (lv_at hl 0 rfl) ?_
  refine lv_iload_n hx hb dX0_hears_1 rfl (lv_at hl 1 rfl) ?_
  refine cV (C := RX0) (T := TX0) (N := 16) (ci := 0) (q0 := 0) (k := 1) (As := [.int (nI k)]) (rest := []) (v := .int (b2i (fLk s k))) (ws1 := (nW cI a s rk)) B hz hA (c_X0_isLinked l D cI cN a s rk k (by omega)) gX0_hears_X0_isLinked rfl rfl hd_X0_isLinked (by decide) rfl rfl rfl hl.1 rfl (Nat.le_of_ble_eq_true rfl) dX0_hears_2 (fun H locs hz => ?_)
  refine lb_if_ne (tgt := 25) hx hb dX0_hears_5 (by decide) (fun c5 => ?_) (fun c5 => ?_)
  · refine lv_iconst (v := (nI 0)) hx hb dX0_hears_25 (by decide) ?_
    exact rz_z0 B hr hz dX0_hears_26 (by first | (simp [fHe, c5]; done) | (simp [fHe, c5, c18]; done)) (by rfl)
  · refine lv_aload_n hx hb dX0_hears_8 rfl (lv_at hl 0 rfl) ?_
    refine gz (C := RX0) (T := TX0) (N := 16) (v := .ref (a 1)) B hz hinX0 0 rfl rfl 9 (by decide) lk27 rfl rfl dX0_hears_9 ?_
    refine lv_iload_n hx hb dX0_hears_12 rfl (lv_at hl 1 rfl) ?_
    refine ildz (n := 5) (j := k) (v := (s (9 + k))) B hz 1 rfl (by omega) (by decide) (seg_at (by omega)) dX0_hears_13 ?_
    refine lv_iload_n hx hb dX0_hears_14 rfl (lv_at hl 2 rfl) ?_
    refine cNst (k := 1) (As := [.int (s (9 + k)), .int (nI ch)]) (rest := []) (v := .int (b2i (fHas (s (9 + k)) (nI ch)))) B hz hA (c_X1_contains l D cI cN (s (9 + k)) (nI ch) ) gX0_hears_X1_contains_n89 rfl (by decide +kernel) (by decide +kernel) (by decide +kernel) rfl hd_X1_contains (by decide) rfl hl.1 rfl (Nat.le_of_ble_eq_true rfl) dX0_hears_15 (fun H locs hz => ?_)
    refine lb_if_eq (tgt := 25) hx hb dX0_hears_18 (by decide) (fun c18 => ?_) (fun c18 => ?_)
    · refine lv_iconst (v := (nI 0)) hx hb dX0_hears_25 (by decide) ?_
      exact rz_z0 B hr hz dX0_hears_26 (by first | (simp [fHe, c5]; done) | (simp [fHe, c5, c18]; done)) (by rfl)
    · refine lv_iconst (v := (nI 1)) hx hb dX0_hears_21 (by decide) ?_
      refine lv_goto (tgt := 26) hx hb dX0_hears_22 (by decide) ?_
      exact rz_z1 B hr hz dX0_hears_26 (by first | (simp [fHe, c5]; done) | (simp [fHe, c5, c18]; done)) (by rfl)
theorem hd_X2_netScore : hdZ yX2_netScore 3 := by decide +kernel
set_option maxRecDepth 100000 in
set_option maxHeartbeats 4000000 in
theorem c_X2_netScore (l : Launch) (D : va_G) (cI cN : ClassId) (a : Nat → Nat) (s : Sz) (pst : Sz) (np : Nat) (er : Sz) (od : Sz) (rk : Sz) (hs : Int64) (f : Nat) (ms : Int32) (ch : Nat) (hf : f < 5) (hc : ch < 8) (hv : IvA s) : Fn l D cI cN yX2_netScore wsX2_netScore 2 (mW cI a s pst np er od rk hs) [.ref (a 0), .int (nI f), .int ms, .int (nI ch)] (some (.int (fNs (nI 31) ms f ch s 5))) (mW cI a s pst np er od rk hs) := by
  refine Fn.of (cc := cX2_netScore) (nL := 7) (ret := (some .int)) (lv := [(0, .ref (a 0)), (1, .int (nI f)), (2, .int ms), (3, .int (nI ch))]) (by decide +kernel) rfl (Nat.le_of_ble_eq_true rfl) rfl ?_
  intro p e s_ m args below meth c A B hr hA H locs ls hz hl
  have hx := B.1.1
  have hb := B.1.2.1
  refine lv_bipush (v := (nI 31)) hx hb dX2_netScore_0 (by decide) ?_
  refine lv_istore (lv' := [(4, .int (nI 31)), (0, .ref (a 0)), (1, .int (nI f)), (2, .int ms), (3, .int (nI ch))]) hx hb dX2_netScore_2 hl (by decide) rfl (fun ls hl => ?_)
  refine lv_iconst (v := (nI 0)) hx hb dX2_netScore_4 (by decide) ?_
  refine lv_istore (lv' := [(5, .int (nI 0)), (4, .int (nI 31)), (0, .ref (a 0)), (1, .int (nI f)), (2, .int ms), (3, .int (nI ch))]) hx hb dX2_netScore_5 hl (by decide) rfl (fun ls hl => ?_)
  have LP7 : ∀ (n_LP7 : Nat) (i : Nat), (i ≤ 5) → 5 - i < n_LP7 → ∀ (H : Heap) (locs : List Loc) (ls : Array Slot), Hz D A s_.heap H locs (mW cI a s pst np er od rk hs) → lv_has ls 7 [(0, .ref (a 0)), (1, .int (nI f)), (2, .int ms), (3, .int (nI ch)), (4, .int (fNs (nI 31) ms f ch s i)), (5, .int (nI i))] → Wz p l e 2 s_ m args below meth c D A (some (.int (fNs (nI 31) ms f ch s 5))) (mW cI a s pst np er od rk hs) H locs (F0 m 7 ls []) := by
    intro n_LP7
    induction n_LP7 with
    | zero => intro i hi hm; exact absurd hm (Nat.not_lt_zero _)
    | succ n_LP7 ih_LP7 =>
      intro i hi hm H locs ls hz hl
      refine lv_iload hx hb dX2_netScore_7 (lv_at hl 5 rfl) ?_
      refine lv_iconst (v := (nI 5)) hx hb dX2_netScore_9 (by decide) ?_
      refine ln_icmp_ge (tgt := 59) hx hb dX2_netScore_10 (by decide) (by constructor <;> omega) (fun c10 => ?_) (fun c10 => ?_)
      · refine lv_iload hx hb dX2_netScore_59 (lv_at hl 4 rfl) ?_
        exact rz_i B hr hz dX2_netScore_61 (by rw [show i = 5 by omega]) (by rfl)
      · refine lv_iload_n hx hb dX2_netScore_13 rfl (lv_at hl 2 rfl) ?_
        refine lv_iload hx hb dX2_netScore_14 (lv_at hl 5 rfl) ?_
        refine cS (k := 2) (As := [.int ms, .int (nI i)]) (rest := []) (v := .int (b2i (fHas ms (nI i)))) B hz hA (c_X2_has l D cI cN ms (nI i) ) gX2_netScore_X2_has rfl hd_X2_has (by decide) rfl hl.1 rfl (Nat.le_of_ble_eq_true rfl) dX2_netScore_16 (fun H locs hz => ?_)
        refine lb_if_eq (tgt := 33) hx hb dX2_netScore_19 (by decide) (fun c19 => ?_) (fun c19 => ?_)
        · refine lv_bipush (v := (nI 31)) hx hb dX2_netScore_33 (by decide) ?_
          refine lv_istore (lv' := [(6, .int (nI 31)), (0, .ref (a 0)), (1, .int (nI f)), (2, .int ms), (3, .int (nI ch)), (4, .int (fNs (nI 31) ms f ch s i)), (5, .int (nI i))]) hx hb dX2_netScore_35 hl (by decide) rfl (fun ls hl => ?_)
          refine lv_iload hx hb dX2_netScore_37 (lv_at hl 0 rfl) ?_
          refine lv_iload hx hb dX2_netScore_39 (lv_at hl 5 rfl) ?_
          refine lv_icmp_ge (tgt := 49) hx hb dX2_netScore_41 (by decide) (fun c41 => ?_) (fun c41 => ?_)
          · refine lv_iload hx hb dX2_netScore_49 (lv_at hl 5 rfl) ?_
            refine lv_istore (lv' := [(4, .int (fNs (nI 31) ms f ch s i)), (6, .int (nI 31)), (0, .ref (a 0)), (1, .int (nI f)), (2, .int ms), (3, .int (nI ch)), (5, .int (nI i))]) hx hb dX2_netScore_51 hl (by decide) rfl (fun ls hl => ?_)
            refine lv_iinc (v := nI (i + 1)) (lv' := [(5, .int (nI (i + 1))), (4, .int (fNs (nI 31) ms f ch s i)), (6, .int (nI 31)), (0, .ref (a 0)), (1, .int (nI f)), (2, .int ms), (3, .int (nI ch))]) hx hb dX2_netScore_53 hl (k := 6) rfl (nI_add i 1) (by decide) rfl (fun ls hl => ?_)
            refine lv_goto (tgt := 7) hx hb dX2_netScore_56 (by decide) ?_
            exact ih_LP7 (i + 1) (by omega) (by omega) H locs ls (hz.cast (by rfl)) (lv_cast (lv_sub hl [3, 4, 5, 6, 1, 0] (l' := [(0, .ref (a 0)), (1, .int (nI f)), (2, .int ms), (3, .int (nI ch)), (4, .int (fNs (nI 31) ms f ch s i)), (5, .int (nI (i + 1)))]) rfl) (by first | (simp [fNs, c19, nsl c41]; done) | (simp [fNs, c19, nsg c41]; done) | (simp [fNs, c19]; done) | exact absurd (fNs_le (nI 31) ms f ch s i) c41))
          · refine lv_iload hx hb dX2_netScore_44 (lv_at hl 0 rfl) ?_
            refine lv_goto (tgt := 51) hx hb dX2_netScore_46 (by decide) ?_
            refine lv_istore (lv' := [(4, .int (nI 31)), (6, .int (nI 31)), (0, .ref (a 0)), (1, .int (nI f)), (2, .int ms), (3, .int (nI ch)), (5, .int (nI i))]) hx hb dX2_netScore_51 hl (by decide) rfl (fun ls hl => ?_)
            refine lv_iinc (v := nI (i + 1)) (lv' := [(5, .int (nI (i + 1))), (4, .int (nI 31)), (6, .int (nI 31)), (0, .ref (a 0)), (1, .int (nI f)), (2, .int ms), (3, .int (nI ch))]) hx hb dX2_netScore_53 hl (k := 6) rfl (nI_add i 1) (by decide) rfl (fun ls hl => ?_)
            refine lv_goto (tgt := 7) hx hb dX2_netScore_56 (by decide) ?_
            exact ih_LP7 (i + 1) (by omega) (by omega) H locs ls (hz.cast (by rfl)) (lv_cast (lv_sub hl [3, 4, 5, 6, 1, 0] (l' := [(0, .ref (a 0)), (1, .int (nI f)), (2, .int ms), (3, .int (nI ch)), (4, .int (nI 31)), (5, .int (nI (i + 1)))]) rfl) (by first | (simp [fNs, c19, nsl c41]; done) | (simp [fNs, c19, nsg c41]; done) | (simp [fNs, c19]; done) | exact absurd (fNs_le (nI 31) ms f ch s i) c41))
        · refine lv_aload_n hx hb dX2_netScore_22 rfl (lv_at hl 0 rfl) ?_
          refine lv_iload_n hx hb dX2_netScore_23 rfl (lv_at hl 1 rfl) ?_
          refine lv_iload hx hb dX2_netScore_24 (lv_at hl 5 rfl) ?_
          refine lv_iload_n hx hb dX2_netScore_26 rfl (lv_at hl 3 rfl) ?_
          refine cV (C := RX2) (T := TX2) (N := 7) (ci := 2) (q0 := 0) (k := 2) (As := [.int (nI f), .int (nI i), .int (nI ch)]) (rest := []) (v := .int (fEf f i ch s)) (ws1 := (mW cI a s pst np er od rk hs)) B hz hA (c_X2_effectiveOf l D cI cN a s pst np er od rk hs f i ch (hf) (by omega) (hc) (hv)) gX2_netScore_X2_effectiveOf rfl rfl hd_X2_effectiveOf (by decide) rfl rfl rfl hl.1 rfl (Nat.le_of_ble_eq_true rfl) dX2_netScore_27 (fun H locs hz => ?_)
          refine lv_goto (tgt := 35) hx hb dX2_netScore_30 (by decide) ?_
          refine lv_istore (lv' := [(6, .int (fEf f i ch s)), (0, .ref (a 0)), (1, .int (nI f)), (2, .int ms), (3, .int (nI ch)), (4, .int (fNs (nI 31) ms f ch s i)), (5, .int (nI i))]) hx hb dX2_netScore_35 hl (by decide) rfl (fun ls hl => ?_)
          refine lv_iload hx hb dX2_netScore_37 (lv_at hl 0 rfl) ?_
          refine lv_iload hx hb dX2_netScore_39 (lv_at hl 5 rfl) ?_
          refine lv_icmp_ge (tgt := 49) hx hb dX2_netScore_41 (by decide) (fun c41 => ?_) (fun c41 => ?_)
          · refine lv_iload hx hb dX2_netScore_49 (lv_at hl 5 rfl) ?_
            refine lv_istore (lv' := [(4, .int (fNs (nI 31) ms f ch s i)), (6, .int (fEf f i ch s)), (0, .ref (a 0)), (1, .int (nI f)), (2, .int ms), (3, .int (nI ch)), (5, .int (nI i))]) hx hb dX2_netScore_51 hl (by decide) rfl (fun ls hl => ?_)
            refine lv_iinc (v := nI (i + 1)) (lv' := [(5, .int (nI (i + 1))), (4, .int (fNs (nI 31) ms f ch s i)), (6, .int (fEf f i ch s)), (0, .ref (a 0)), (1, .int (nI f)), (2, .int ms), (3, .int (nI ch))]) hx hb dX2_netScore_53 hl (k := 6) rfl (nI_add i 1) (by decide) rfl (fun ls hl => ?_)
            refine lv_goto (tgt := 7) hx hb dX2_netScore_56 (by decide) ?_
            exact ih_LP7 (i + 1) (by omega) (by omega) H locs ls (hz.cast (by rfl)) (lv_cast (lv_sub hl [3, 4, 5, 6, 1, 0] (l' := [(0, .ref (a 0)), (1, .int (nI f)), (2, .int ms), (3, .int (nI ch)), (4, .int (fNs (nI 31) ms f ch s i)), (5, .int (nI (i + 1)))]) rfl) (by first | (simp [fNs, c19, nsl c41]; done) | (simp [fNs, c19, nsg c41]; done) | (simp [fNs, c19]; done) | exact absurd (fNs_le (nI 31) ms f ch s i) c41))
          · refine lv_iload hx hb dX2_netScore_44 (lv_at hl 0 rfl) ?_
            refine lv_goto (tgt := 51) hx hb dX2_netScore_46 (by decide) ?_
            refine lv_istore (lv' := [(4, .int (fEf f i ch s)), (6, .int (fEf f i ch s)), (0, .ref (a 0)), (1, .int (nI f)), (2, .int ms), (3, .int (nI ch)), (5, .int (nI i))]) hx hb dX2_netScore_51 hl (by decide) rfl (fun ls hl => ?_)
            refine lv_iinc (v := nI (i + 1)) (lv' := [(5, .int (nI (i + 1))), (4, .int (fEf f i ch s)), (6, .int (fEf f i ch s)), (0, .ref (a 0)), (1, .int (nI f)), (2, .int ms), (3, .int (nI ch))]) hx hb dX2_netScore_53 hl (k := 6) rfl (nI_add i 1) (by decide) rfl (fun ls hl => ?_)
            refine lv_goto (tgt := 7) hx hb dX2_netScore_56 (by decide) ?_
            exact ih_LP7 (i + 1) (by omega) (by omega) H locs ls (hz.cast (by rfl)) (lv_cast (lv_sub hl [3, 4, 5, 6, 1, 0] (l' := [(0, .ref (a 0)), (1, .int (nI f)), (2, .int ms), (3, .int (nI ch)), (4, .int (fEf f i ch s)), (5, .int (nI (i + 1)))]) rfl) (by first | (simp [fNs, c19, nsl c41]; done) | (simp [fNs, c19, nsg c41]; done) | (simp [fNs, c19]; done) | exact absurd (fNs_le (nI 31) ms f ch s i) c41))
  exact LP7 _ 0 (by omega) (Nat.lt_succ_self _) H locs ls (hz.cast (by rfl)) (lv_cast (lv_sub hl [2, 3, 4, 5, 1, 0] (l' := [(0, .ref (a 0)), (1, .int (nI f)), (2, .int ms), (3, .int (nI ch)), (4, .int (nI 31)), (5, .int (nI 0))]) rfl) (by rfl))
theorem hd_X0_netScore : hdZ yX0_netScore 3 := by decide +kernel
set_option maxRecDepth 100000 in
set_option maxHeartbeats 4000000 in
theorem c_X0_netScore (l : Launch) (D : va_G) (cI cN : ClassId) (a : Nat → Nat) (s : Sz) (rk : Sz) (f : Nat) (ms : Int32) (ch : Nat) (hf : f < 5) (hc : ch < 8) (hv : IvA s) : Fn l D cI cN yX0_netScore wsX0_netScore 2 (nW cI a s rk) [.ref (a 0), .int (nI f), .int ms, .int (nI ch)] (some (.int (fNs (nI 30) ms f ch s 5))) (nW cI a s rk) := by
  refine Fn.of (cc := cX0_netScore) (nL := 6) (ret := (some .int)) (lv := [(0, .ref (a 0)), (1, .int (nI f)), (2, .int ms), (3, .int (nI ch))]) (by decide +kernel) rfl (Nat.le_of_ble_eq_true rfl) rfl ?_
  intro p e s_ m args below meth c A B hr hA H locs ls hz hl
  have hx := B.1.1
  have hb := B.1.2.1
  refine lv_bipush (v := (nI 30)) hx hb dX0_netScore_0 (by decide) ?_
  refine lv_istore (lv' := [(4, .int (nI 30)), (0, .ref (a 0)), (1, .int (nI f)), (2, .int ms), (3, .int (nI ch))]) hx hb dX0_netScore_2 hl (by decide) rfl (fun ls hl => ?_)
  refine lv_iconst (v := (nI 0)) hx hb dX0_netScore_4 (by decide) ?_
  refine lv_istore (lv' := [(5, .int (nI 0)), (4, .int (nI 30)), (0, .ref (a 0)), (1, .int (nI f)), (2, .int ms), (3, .int (nI ch))]) hx hb dX0_netScore_5 hl (by decide) rfl (fun ls hl => ?_)
  have LP7 : ∀ (n_LP7 : Nat) (i : Nat), (i ≤ 5) → 5 - i < n_LP7 → ∀ (H : Heap) (locs : List Loc) (ls : Array Slot), Hz D A s_.heap H locs (nW cI a s rk) → lv_has ls 6 [(0, .ref (a 0)), (1, .int (nI f)), (2, .int ms), (3, .int (nI ch)), (4, .int (fNs (nI 30) ms f ch s i)), (5, .int (nI i))] → Wz p l e 2 s_ m args below meth c D A (some (.int (fNs (nI 30) ms f ch s 5))) (nW cI a s rk) H locs (F0 m 7 ls []) := by
    intro n_LP7
    induction n_LP7 with
    | zero => intro i hi hm; exact absurd hm (Nat.not_lt_zero _)
    | succ n_LP7 ih_LP7 =>
      intro i hi hm H locs ls hz hl
      refine lv_iload hx hb dX0_netScore_7 (lv_at hl 5 rfl) ?_
      refine lv_iconst (v := (nI 5)) hx hb dX0_netScore_9 (by decide) ?_
      refine ln_icmp_ge (tgt := 43) hx hb dX0_netScore_10 (by decide) (by constructor <;> omega) (fun c10 => ?_) (fun c10 => ?_)
      · refine lv_iload hx hb dX0_netScore_43 (lv_at hl 4 rfl) ?_
        exact rz_i B hr hz dX0_netScore_45 (by rw [show i = 5 by omega]) (by rfl)
      · refine lv_iload_n hx hb dX0_netScore_13 rfl (lv_at hl 2 rfl) ?_
        refine lv_iload hx hb dX0_netScore_14 (lv_at hl 5 rfl) ?_
        refine cNst (k := 2) (As := [.int ms, .int (nI i)]) (rest := []) (v := .int (b2i (fHas ms (nI i)))) B hz hA (c_X1_contains l D cI cN ms (nI i) ) gX0_netScore_X1_contains_n89 rfl (by decide +kernel) (by decide +kernel) (by decide +kernel) rfl hd_X1_contains (by decide) rfl hl.1 rfl (Nat.le_of_ble_eq_true rfl) dX0_netScore_16 (fun H locs hz => ?_)
        refine lb_if_eq (tgt := 37) hx hb dX0_netScore_19 (by decide) (fun c19 => ?_) (fun c19 => ?_)
        · refine lv_iinc (v := nI (i + 1)) (lv' := [(5, .int (nI (i + 1))), (0, .ref (a 0)), (1, .int (nI f)), (2, .int ms), (3, .int (nI ch)), (4, .int (fNs (nI 30) ms f ch s i))]) hx hb dX0_netScore_37 hl (k := 5) rfl (nI_add i 1) (by decide) rfl (fun ls hl => ?_)
          refine lv_goto (tgt := 7) hx hb dX0_netScore_40 (by decide) ?_
          exact ih_LP7 (i + 1) (by omega) (by omega) H locs ls (hz.cast (by rfl)) (lv_cast (lv_sub hl [1, 2, 3, 4, 5, 0] (l' := [(0, .ref (a 0)), (1, .int (nI f)), (2, .int ms), (3, .int (nI ch)), (4, .int (fNs (nI 30) ms f ch s i)), (5, .int (nI (i + 1)))]) rfl) (by simp [fNs, c19]))
        · refine lv_iload hx hb dX0_netScore_22 (lv_at hl 4 rfl) ?_
          refine lv_aload_n hx hb dX0_netScore_24 rfl (lv_at hl 0 rfl) ?_
          refine lv_iload_n hx hb dX0_netScore_25 rfl (lv_at hl 1 rfl) ?_
          refine lv_iload hx hb dX0_netScore_26 (lv_at hl 5 rfl) ?_
          refine lv_iload_n hx hb dX0_netScore_28 rfl (lv_at hl 3 rfl) ?_
          refine cV (C := RX0) (T := TX0) (N := 16) (ci := 0) (q0 := 0) (k := 2) (As := [.int (nI f), .int (nI i), .int (nI ch)]) (rest := [.int (fNs (nI 30) ms f ch s i)]) (v := .int (fEf f i ch s)) (ws1 := (nW cI a s rk)) B hz hA (c_X0_agedScore l D cI cN a s rk f i ch (hf) (by omega) (hc) (hv)) gX0_netScore_X0_agedScore rfl rfl hd_X0_agedScore (by decide) rfl rfl rfl hl.1 rfl (Nat.le_of_ble_eq_true rfl) dX0_netScore_29 (fun H locs hz => ?_)
          refine va_mmin hx hb (B.1.2.2.1.trans hl.1.symm) B.1.2.2.2.1 (B.1.2.2.2.2 (.methodLink yX0_netScore.cls 116 Lib.Math.min.name) (by decide +kernel)) (B.1.2.2.2.2 (.static Lib.Math.min.name) (by decide +kernel)) (B.1.2.2.2.2 (.initialized "java/lang/Math") (by decide +kernel)) (B.1.2.2.2.2 (.code Lib.Math.min.name Lib.Math.min.code 2 (some .int)) (by decide +kernel)) (Nat.le_of_ble_eq_true rfl) (Nat.le_of_ble_eq_true rfl) (Nat.le_refl _) (Nat.le_refl _) dX0_netScore_32 ?_
          refine lv_istore (lv' := [(4, .int (if (fEf f i ch s) < (fNs (nI 30) ms f ch s i) then (fEf f i ch s) else (fNs (nI 30) ms f ch s i))), (0, .ref (a 0)), (1, .int (nI f)), (2, .int ms), (3, .int (nI ch)), (5, .int (nI i))]) hx hb dX0_netScore_35 hl (by decide) rfl (fun ls hl => ?_)
          refine lv_iinc (v := nI (i + 1)) (lv' := [(5, .int (nI (i + 1))), (4, .int (if (fEf f i ch s) < (fNs (nI 30) ms f ch s i) then (fEf f i ch s) else (fNs (nI 30) ms f ch s i))), (0, .ref (a 0)), (1, .int (nI f)), (2, .int ms), (3, .int (nI ch))]) hx hb dX0_netScore_37 hl (k := 5) rfl (nI_add i 1) (by decide) rfl (fun ls hl => ?_)
          refine lv_goto (tgt := 7) hx hb dX0_netScore_40 (by decide) ?_
          exact ih_LP7 (i + 1) (by omega) (by omega) H locs ls (hz.cast (by rfl)) (lv_cast (lv_sub hl [2, 3, 4, 5, 1, 0] (l' := [(0, .ref (a 0)), (1, .int (nI f)), (2, .int ms), (3, .int (nI ch)), (4, .int (if (fEf f i ch s) < (fNs (nI 30) ms f ch s i) then (fEf f i ch s) else (fNs (nI 30) ms f ch s i))), (5, .int (nI (i + 1)))]) rfl) (by simp [fNs, c19]))
  exact LP7 _ 0 (by omega) (Nat.lt_succ_self _) H locs ls (hz.cast (by rfl)) (lv_cast (lv_sub hl [2, 3, 4, 5, 1, 0] (l' := [(0, .ref (a 0)), (1, .int (nI f)), (2, .int ms), (3, .int (nI ch)), (4, .int (nI 30)), (5, .int (nI 0))]) rfl) (by rfl))
theorem hd_X0_rankChannels : hdZ yX0_rankChannels 2 := by decide +kernel
set_option maxRecDepth 100000 in
set_option maxHeartbeats 4000000 in
theorem c_X0_rankChannels (l : Launch) (D : va_G) (cI cN : ClassId) (a : Nat → Nat) (s : Sz) (rk : Sz) (f : Nat) (ms : Int32) (hf : f < 5) (hv : IvA s) : Fn l D cI cN yX0_rankChannels wsX0_rankChannels 3 (nW cI a s rk) [.ref (a 0), .int (nI f), .int ms] none (nW cI a s (fRk ms f s rk 8)) := by
  refine Fn.of (cc := cX0_rankChannels) (nL := 4) (ret := none) (lv := [(0, .ref (a 0)), (1, .int (nI f)), (2, .int ms)]) (by decide +kernel) rfl (Nat.le_of_ble_eq_true rfl) rfl ?_
  intro p e s_ m args below meth c A B hr hA H locs ls hz hl
  have hx := B.1.1
  have hb := B.1.2.1
  have hinX0 : ∀ w ∈ u_ws RX0 TX0 16, w ∈ wsX0_rankChannels := by decide +kernel
  have lk46 : Cond.fieldLink yX0_rankChannels.cls 46 RX0 (TX0 15).2.1 (TX0 15).2.2.1 ∈ wsX0_rankChannels := by decide +kernel
  refine lv_iconst (v := (nI 0)) hx hb dX0_rankChannels_0 (by decide) ?_
  refine lv_istore_n (lv' := [(3, .int (nI 0)), (0, .ref (a 0)), (1, .int (nI f)), (2, .int ms)]) hx hb dX0_rankChannels_1 rfl hl (by decide) rfl (fun ls hl => ?_)
  have LP2 : ∀ (n_LP2 : Nat) (i : Nat), (i ≤ 8) → 8 - i < n_LP2 → ∀ (H : Heap) (locs : List Loc) (ls : Array Slot), Hz D A s_.heap H locs (nW cI a s (fRk ms f s rk i)) → lv_has ls 4 [(0, .ref (a 0)), (1, .int (nI f)), (2, .int ms), (3, .int (nI i))] → Wz p l e 3 s_ m args below meth c D A none (nW cI a s (fRk ms f s rk 8)) H locs (F0 m 2 ls []) := by
    intro n_LP2
    induction n_LP2 with
    | zero => intro i hi hm; exact absurd hm (Nat.not_lt_zero _)
    | succ n_LP2 ih_LP2 =>
      intro i hi hm H locs ls hz hl
      refine lv_iload_n hx hb dX0_rankChannels_2 rfl (lv_at hl 3 rfl) ?_
      refine lv_bipush (v := (nI 8)) hx hb dX0_rankChannels_3 (by decide) ?_
      refine ln_icmp_ge (tgt := 27) hx hb dX0_rankChannels_5 (by decide) (by constructor <;> omega) (fun c5 => ?_) (fun c5 => ?_)
      · exact rz_v B hr hz dX0_rankChannels_27 (by rw [show i = 8 by omega])
      · refine lv_aload_n hx hb dX0_rankChannels_8 rfl (lv_at hl 0 rfl) ?_
        refine gz (C := RX0) (T := TX0) (N := 16) (v := .ref (a 7)) B hz hinX0 0 rfl rfl 15 (by decide) lk46 rfl rfl dX0_rankChannels_9 ?_
        refine lv_iload_n hx hb dX0_rankChannels_12 rfl (lv_at hl 3 rfl) ?_
        refine lv_aload_n hx hb dX0_rankChannels_13 rfl (lv_at hl 0 rfl) ?_
        refine lv_iload_n hx hb dX0_rankChannels_14 rfl (lv_at hl 1 rfl) ?_
        refine lv_iload_n hx hb dX0_rankChannels_15 rfl (lv_at hl 2 rfl) ?_
        refine lv_iload_n hx hb dX0_rankChannels_16 rfl (lv_at hl 3 rfl) ?_
        refine cV (C := RX0) (T := TX0) (N := 16) (ci := 0) (q0 := 0) (k := 3) (As := [.int (nI f), .int ms, .int (nI i)]) (rest := [.int (nI i), .ref (a 7)]) (v := .int (fNs (nI 30) ms f i s 5)) (ws1 := (nW cI a s (fRk ms f s rk i))) B hz hA (c_X0_netScore l D cI cN a s (fRk ms f s rk i) f ms i (hf) (by omega) (hv)) gX0_rankChannels_X0_netScore rfl rfl hd_X0_netScore (by decide) rfl rfl rfl hl.1 rfl (Nat.le_of_ble_eq_true rfl) dX0_rankChannels_17 (fun H locs hz => ?_)
        refine istz (n := 8) (j := i) (ws1 := (nW cI a s (upd (fRk ms f s rk i) i (fNs (nI 30) ms f i s 5)))) B hz 7 rfl (by omega) (by decide) rfl dX0_rankChannels_20 (fun H locs hz => ?_)
        refine lv_iinc (v := nI (i + 1)) (lv' := [(3, .int (nI (i + 1))), (0, .ref (a 0)), (1, .int (nI f)), (2, .int ms)]) hx hb dX0_rankChannels_21 hl (k := 3) rfl (nI_add i 1) (by decide) rfl (fun ls hl => ?_)
        refine lv_goto (tgt := 2) hx hb dX0_rankChannels_24 (by decide) ?_
        exact ih_LP2 (i + 1) (by omega) (by omega) H locs ls (hz.cast (by rfl)) (lv_cast (lv_sub hl [1, 2, 3, 0] (l' := [(0, .ref (a 0)), (1, .int (nI f)), (2, .int ms), (3, .int (nI (i + 1)))]) rfl) (by rfl))
  exact LP2 _ 0 (by omega) (Nat.lt_succ_self _) H locs ls (hz.cast (by rfl)) (lv_cast (lv_sub hl [1, 2, 3, 0] (l' := [(0, .ref (a 0)), (1, .int (nI f)), (2, .int ms), (3, .int (nI 0))]) rfl) (by rfl))
theorem hd_X0_firstRanked : hdZ yX0_firstRanked 1 := by decide +kernel
set_option maxRecDepth 100000 in
set_option maxHeartbeats 4000000 in
theorem c_X0_firstRanked (l : Launch) (D : va_G) (cI cN : ClassId) (a : Nat → Nat) (s : Sz) (rk : Sz) (u : Int32) : Fn l D cI cN yX0_firstRanked wsX0_firstRanked 1 (nW cI a s rk) [.ref (a 0), .int u] (some (.int (oI (fFr rk u 8)))) (nW cI a s rk) := by
  refine Fn.of (cc := cX0_firstRanked) (nL := 4) (ret := (some .int)) (lv := [(0, .ref (a 0)), (1, .int u)]) (by decide +kernel) rfl (Nat.le_of_ble_eq_true rfl) rfl ?_
  intro p e s_ m args below meth c A B hr hA H locs ls hz hl
  have hx := B.1.1
  have hb := B.1.2.1
  have hinX0 : ∀ w ∈ u_ws RX0 TX0 16, w ∈ wsX0_firstRanked := by decide +kernel
  have lk46 : Cond.fieldLink yX0_firstRanked.cls 46 RX0 (TX0 15).2.1 (TX0 15).2.2.1 ∈ wsX0_firstRanked := by decide +kernel
  refine lv_iconst (v := (-1)) hx hb dX0_firstRanked_0 (by decide) ?_
  refine lv_istore_n (lv' := [(2, .int (-1)), (0, .ref (a 0)), (1, .int u)]) hx hb dX0_firstRanked_1 rfl hl (by decide) rfl (fun ls hl => ?_)
  refine lv_iconst (v := (nI 0)) hx hb dX0_firstRanked_2 (by decide) ?_
  refine lv_istore_n (lv' := [(3, .int (nI 0)), (2, .int (-1)), (0, .ref (a 0)), (1, .int u)]) hx hb dX0_firstRanked_3 rfl hl (by decide) rfl (fun ls hl => ?_)
  have LP : ∀ (n_LP : Nat) (i : Nat) (bo : Option Nat), (i ≤ 8) → (bo = fFr rk u i) → 8 - i < n_LP → ∀ (H : Heap) (locs : List Loc) (ls : Array Slot), Hz D A s_.heap H locs (nW cI a s rk) → lv_has ls 4 [(0, .ref (a 0)), (1, .int u), (2, .int (oI bo)), (3, .int (nI i))] → Wz p l e 1 s_ m args below meth c D A (some (.int (oI (fFr rk u 8)))) (nW cI a s rk) H locs (F0 m 4 ls []) := by
    intro n_LP
    induction n_LP with
    | zero => intro i bo hi hbo hm; exact absurd hm (Nat.not_lt_zero _)
    | succ n_LP ih_LP =>
      intro i bo hi hbo hm H locs ls hz hl
      refine lv_iload_n hx hb dX0_firstRanked_4 rfl (lv_at hl 3 rfl) ?_
      refine lv_bipush (v := (nI 8)) hx hb dX0_firstRanked_5 (by decide) ?_
      refine ln_icmp_ge (tgt := 46) hx hb dX0_firstRanked_7 (by decide) (by constructor <;> omega) (fun c7 => ?_) (fun c7 => ?_)
      · refine lv_iload_n hx hb dX0_firstRanked_46 rfl (lv_at hl 2 rfl) ?_
        exact rz_i B hr hz dX0_firstRanked_47 (by rw [hbo, show i = 8 by omega]) (by rfl)
      · refine lv_iload_n hx hb dX0_firstRanked_10 rfl (lv_at hl 1 rfl) ?_
        refine lv_iload_n hx hb dX0_firstRanked_11 rfl (lv_at hl 3 rfl) ?_
        refine cNst (k := 1) (As := [.int u, .int (nI i)]) (rest := []) (v := .int (b2i (fHas u (nI i)))) B hz hA (c_X1_contains l D cI cN u (nI i) ) gX0_firstRanked_X1_contains_n89 rfl (by decide +kernel) (by decide +kernel) (by decide +kernel) rfl hd_X1_contains (by decide) rfl hl.1 rfl (Nat.le_of_ble_eq_true rfl) dX0_firstRanked_12 (fun H locs hz => ?_)
        refine lb_if_eq (tgt := 40) hx hb dX0_firstRanked_15 (by decide) (fun c15 => ?_) (fun c15 => ?_)
        · refine lv_iinc (v := nI (i + 1)) (lv' := [(3, .int (nI (i + 1))), (0, .ref (a 0)), (1, .int u), (2, .int (oI bo))]) hx hb dX0_firstRanked_40 hl (k := 3) rfl (nI_add i 1) (by decide) rfl (fun ls hl => ?_)
          refine lv_goto (tgt := 4) hx hb dX0_firstRanked_43 (by decide) ?_
          exact ih_LP (i + 1) bo (by omega) (by first | exact fFr_0 c15 hbo | exact fFr_n c15 hbo | exact fFr_k c15 hbo c35 | exact fFr_s c15 hbo c35) (by omega) H locs ls (hz.cast (by rfl)) (lv_cast (lv_sub hl [1, 2, 3, 0] (l' := [(0, .ref (a 0)), (1, .int u), (2, .int (oI bo)), (3, .int (nI (i + 1)))]) rfl) (by rfl))
        · cases bo with
          | none =>
            refine lv_iload_n hx hb dX0_firstRanked_18 rfl (lv_at hl 2 rfl) ?_
            refine lv_iconst (v := (-1)) hx hb dX0_firstRanked_19 (by decide) ?_
            refine lv_icmp_eq (tgt := 38) hx hb dX0_firstRanked_20 (by decide) (fun c20 => ?_) (fun c20 => ?_)
            · refine lv_iload_n hx hb dX0_firstRanked_38 rfl (lv_at hl 3 rfl) ?_
              refine lv_istore_n (lv' := [(2, .int (nI i)), (0, .ref (a 0)), (1, .int u), (3, .int (nI i))]) hx hb dX0_firstRanked_39 rfl hl (by decide) rfl (fun ls hl => ?_)
              refine lv_iinc (v := nI (i + 1)) (lv' := [(3, .int (nI (i + 1))), (2, .int (nI i)), (0, .ref (a 0)), (1, .int u)]) hx hb dX0_firstRanked_40 hl (k := 3) rfl (nI_add i 1) (by decide) rfl (fun ls hl => ?_)
              refine lv_goto (tgt := 4) hx hb dX0_firstRanked_43 (by decide) ?_
              exact ih_LP (i + 1) (some i) (by omega) (by first | exact fFr_0 c15 hbo | exact fFr_n c15 hbo | exact fFr_k c15 hbo c35 | exact fFr_s c15 hbo c35) (by omega) H locs ls (hz.cast (by rfl)) (lv_cast (lv_sub hl [2, 3, 1, 0] (l' := [(0, .ref (a 0)), (1, .int u), (2, .int (nI i)), (3, .int (nI (i + 1)))]) rfl) (by rfl))
            · exact absurd rfl c20
          | some b =>
            have hb8 := (fFr_lt hbo.symm).1
            refine lv_iload_n hx hb dX0_firstRanked_18 rfl (lv_at hl 2 rfl) ?_
            refine lv_iconst (v := (-1)) hx hb dX0_firstRanked_19 (by decide) ?_
            refine lv_icmp_eq (tgt := 38) hx hb dX0_firstRanked_20 (by decide) (fun c20 => ?_) (fun c20 => ?_)
            · exact absurd c20 (nI_nm1 (by omega))
            · refine lv_aload_n hx hb dX0_firstRanked_23 rfl (lv_at hl 0 rfl) ?_
              refine gz (C := RX0) (T := TX0) (N := 16) (v := .ref (a 7)) B hz hinX0 0 rfl rfl 15 (by decide) lk46 rfl rfl dX0_firstRanked_24 ?_
              refine lv_iload_n hx hb dX0_firstRanked_27 rfl (lv_at hl 3 rfl) ?_
              refine ildz (n := 8) (j := i) (v := (rk i)) B hz 7 rfl (by omega) (by decide) rfl dX0_firstRanked_28 ?_
              refine lv_aload_n hx hb dX0_firstRanked_29 rfl (lv_at hl 0 rfl) ?_
              refine gz (C := RX0) (T := TX0) (N := 16) (v := .ref (a 7)) B hz hinX0 0 rfl rfl 15 (by decide) lk46 rfl rfl dX0_firstRanked_30 ?_
              refine lv_iload_n hx hb dX0_firstRanked_33 rfl (lv_at hl 2 rfl) ?_
              refine ildz (n := 8) (j := b) (v := (rk b)) B hz 7 rfl (by omega) (by decide) rfl dX0_firstRanked_34 ?_
              refine lv_icmp_le (tgt := 40) hx hb dX0_firstRanked_35 (by decide) (fun c35 => ?_) (fun c35 => ?_)
              · refine lv_iinc (v := nI (i + 1)) (lv' := [(3, .int (nI (i + 1))), (0, .ref (a 0)), (1, .int u), (2, .int (nI b))]) hx hb dX0_firstRanked_40 hl (k := 3) rfl (nI_add i 1) (by decide) rfl (fun ls hl => ?_)
                refine lv_goto (tgt := 4) hx hb dX0_firstRanked_43 (by decide) ?_
                exact ih_LP (i + 1) (some b) (by omega) (by first | exact fFr_0 c15 hbo | exact fFr_n c15 hbo | exact fFr_k c15 hbo c35 | exact fFr_s c15 hbo c35) (by omega) H locs ls (hz.cast (by rfl)) (lv_cast (lv_sub hl [1, 2, 3, 0] (l' := [(0, .ref (a 0)), (1, .int u), (2, .int (nI b)), (3, .int (nI (i + 1)))]) rfl) (by rfl))
              · refine lv_iload_n hx hb dX0_firstRanked_38 rfl (lv_at hl 3 rfl) ?_
                refine lv_istore_n (lv' := [(2, .int (nI i)), (0, .ref (a 0)), (1, .int u), (3, .int (nI i))]) hx hb dX0_firstRanked_39 rfl hl (by decide) rfl (fun ls hl => ?_)
                refine lv_iinc (v := nI (i + 1)) (lv' := [(3, .int (nI (i + 1))), (2, .int (nI i)), (0, .ref (a 0)), (1, .int u)]) hx hb dX0_firstRanked_40 hl (k := 3) rfl (nI_add i 1) (by decide) rfl (fun ls hl => ?_)
                refine lv_goto (tgt := 4) hx hb dX0_firstRanked_43 (by decide) ?_
                exact ih_LP (i + 1) (some i) (by omega) (by first | exact fFr_0 c15 hbo | exact fFr_n c15 hbo | exact fFr_k c15 hbo c35 | exact fFr_s c15 hbo c35) (by omega) H locs ls (hz.cast (by rfl)) (lv_cast (lv_sub hl [2, 3, 1, 0] (l' := [(0, .ref (a 0)), (1, .int u), (2, .int (nI i)), (3, .int (nI (i + 1)))]) rfl) (by rfl))
  exact LP _ 0 none (by omega) (rfl) (Nat.lt_succ_self _) H locs ls (hz.cast (by rfl)) (lv_cast (lv_sub hl [2, 3, 1, 0] (l' := [(0, .ref (a 0)), (1, .int u), (2, .int (-1)), (3, .int (nI 0))]) rfl) (by rfl))
theorem hd_X0_preferredChannel : hdZ yX0_preferredChannel 2 := by decide +kernel
set_option maxRecDepth 100000 in
set_option maxHeartbeats 4000000 in
theorem c_X0_preferredChannel (l : Launch) (D : va_G) (cI cN : ClassId) (a : Nat → Nat) (s : Sz) (rk : Sz) (f : Nat) (ms : Int32) (hf : f < 5) (hv : IvA s) : Fn l D cI cN yX0_preferredChannel wsX0_preferredChannel 4 (nW cI a s rk) [.ref (a 0), .int (nI f), .int ms] (some (.int (oI (fFr (fRk ms f s rk 8) (s (9 + f)) 8)))) (nW cI a s (fRk ms f s rk 8)) := by
  refine Fn.of (cc := cX0_preferredChannel) (nL := 3) (ret := (some .int)) (lv := [(0, .ref (a 0)), (1, .int (nI f)), (2, .int ms)]) (by decide +kernel) rfl (Nat.le_of_ble_eq_true rfl) rfl ?_
  intro p e s_ m args below meth c A B hr hA H locs ls hz hl
  have hx := B.1.1
  have hb := B.1.2.1
  have hinX0 : ∀ w ∈ u_ws RX0 TX0 16, w ∈ wsX0_preferredChannel := by decide +kernel
  have lk27 : Cond.fieldLink yX0_preferredChannel.cls 27 RX0 (TX0 9).2.1 (TX0 9).2.2.1 ∈ wsX0_preferredChannel := by decide +kernel
  refine lv_aload_n hx hb dX0_preferredChannel_0 rfl (lv_at hl 0 rfl) ?_
  refine lv_iload_n hx hb dX0_preferredChannel_1 rfl (lv_at hl 1 rfl) ?_
  refine lv_iload_n hx hb dX0_preferredChannel_2 rfl (lv_at hl 2 rfl) ?_
  refine cVv (C := RX0) (T := TX0) (N := 16) (ci := 0) (q0 := 0) (k := 4) (As := [.int (nI f), .int ms]) (rest := []) (ws1 := (nW cI a s (fRk ms f s rk 8))) B hz hA (c_X0_rankChannels l D cI cN a s rk f ms (hf) (hv)) gX0_preferredChannel_X0_rankChannels rfl rfl hd_X0_rankChannels (by decide) rfl rfl rfl hl.1 rfl (Nat.le_of_ble_eq_true rfl) dX0_preferredChannel_3 (fun H locs hz => ?_)
  refine lv_aload_n hx hb dX0_preferredChannel_6 rfl (lv_at hl 0 rfl) ?_
  refine lv_aload_n hx hb dX0_preferredChannel_7 rfl (lv_at hl 0 rfl) ?_
  refine gz (C := RX0) (T := TX0) (N := 16) (v := .ref (a 1)) B hz hinX0 0 rfl rfl 9 (by decide) lk27 rfl rfl dX0_preferredChannel_8 ?_
  refine lv_iload_n hx hb dX0_preferredChannel_11 rfl (lv_at hl 1 rfl) ?_
  refine ildz (n := 5) (j := f) (v := (s (9 + f))) B hz 1 rfl (by omega) (by decide) (seg_at (by omega)) dX0_preferredChannel_12 ?_
  refine cV (C := RX0) (T := TX0) (N := 16) (ci := 0) (q0 := 0) (k := 4) (As := [.int (s (9 + f))]) (rest := []) (v := .int (oI (fFr (fRk ms f s rk 8) (s (9 + f)) 8))) (ws1 := (nW cI a s (fRk ms f s rk 8))) B hz hA (c_X0_firstRanked l D cI cN a s (fRk ms f s rk 8) (s (9 + f)) ) gX0_preferredChannel_X0_firstRanked rfl rfl hd_X0_firstRanked (by decide) rfl rfl rfl hl.1 rfl (Nat.le_of_ble_eq_true rfl) dX0_preferredChannel_13 (fun H locs hz => ?_)
  exact rz_i B hr hz dX0_preferredChannel_16 (by rfl) (by rfl)
theorem hd_X2_attempt : hdZ yX2_attempt 3 := by decide +kernel
set_option maxRecDepth 100000 in
set_option maxHeartbeats 4000000 in
theorem c_X2_attempt (l : Launch) (D : va_G) (cI cN : ClassId) (a : Nat → Nat) (s : Sz) (pst : Sz) (np : Nat) (er : Sz) (od : Sz) (rk : Sz) (hs : Int64) (f : Nat) (t : Nat) (ch : Nat) (hf : f < 5) (ht : t < 5) (hc : ch < 8) (hI : IvS s) (hn : fNn s) : Fn l D cI cN yX2_attempt wsX2_attempt 3 (mW cI a s pst np er od rk hs) [.ref (a 0), .int (nI f), .int (nI t), .int (nI ch)] (some (.int (b2i ((fAm f t ch s).1)))) (mW cI a ((fAm f t ch s).2) pst np er od rk hs) := by
  refine Fn.of (cc := cX2_attempt) (nL := 4) (ret := (some .boolean)) (lv := [(0, .ref (a 0)), (1, .int (nI f)), (2, .int (nI t)), (3, .int (nI ch))]) (by decide +kernel) rfl (Nat.le_of_ble_eq_true rfl) rfl ?_
  intro p e s_ m args below meth c A B hr hA H locs ls hz hl
  have hx := B.1.1
  have hb := B.1.2.1
  have hinX2 : ∀ w ∈ u_ws RX2 TX2 7, w ∈ wsX2_attempt := by decide +kernel
  have lk7 : Cond.fieldLink yX2_attempt.cls 7 RX2 (TX2 0).2.1 (TX2 0).2.2.1 ∈ wsX2_attempt := by decide +kernel
  refine lv_aload_n hx hb dX2_attempt_0 rfl (lv_at hl 0 rfl) ?_
  refine gz (C := RX2) (T := TX2) (N := 7) (v := .ref (a 1)) B hz hinX2 0 rfl rfl 0 (by decide) lk7 rfl rfl dX2_attempt_1 ?_
  refine lv_iconst (v := (nI 0)) hx hb dX2_attempt_4 (by decide) ?_
  refine lv_dup2_11 hx hb dX2_attempt_5 rfl rfl ?_
  refine ildz (n := 624) (j := 0) (v := (s 0)) B hz 1 rfl (by omega) (by decide) rfl dX2_attempt_6 ?_
  refine lv_aload_n hx hb dX2_attempt_7 rfl (lv_at hl 0 rfl) ?_
  refine gz (C := RX2) (T := TX2) (N := 7) (v := .ref (a 1)) B hz hinX2 0 rfl rfl 0 (by decide) lk7 rfl rfl dX2_attempt_8 ?_
  refine lv_bipush (v := (nI 9)) hx hb dX2_attempt_11 (by decide) ?_
  refine lv_iload_n hx hb dX2_attempt_13 rfl (lv_at hl 2 rfl) ?_
  refine ln_add hx hb dX2_attempt_14 ?_
  refine ildz (n := 624) (j := (9 + t)) (v := (s (9 + t))) B hz 1 rfl (by omega) (by decide) rfl dX2_attempt_15 ?_
  refine cvt (y := nI (scn s t)) ((show IvS s by assumption) t (by omega)).2.2 ?_
  refine cS (k := 3) (As := [.int (nI (scn s t))]) (rest := [.int (s 0), .int (nI 0), .ref (a 1)]) (v := .int (nI (cnt (scn s t)))) B hz hA (c_X2_count l D cI cN (scn s t) ((hI t ht).2.1)) gX2_attempt_X2_count rfl hd_X2_count (by decide) rfl hl.1 rfl (Nat.le_of_ble_eq_true rfl) dX2_attempt_16 (fun H locs hz => ?_)
  refine lv_iadd hx hb dX2_attempt_19 ?_
  refine istz (n := 624) (j := 0) (ws1 := (mW cI a (upd s 0 ((s 0) + (nI (cnt (scn s t))))) pst np er od rk hs)) B hz 1 rfl (by omega) (by decide) rfl dX2_attempt_20 (fun H locs hz => ?_)
  refine lv_aload_n hx hb dX2_attempt_21 rfl (lv_at hl 0 rfl) ?_
  refine gz (C := RX2) (T := TX2) (N := 7) (v := .ref (a 1)) B hz hinX2 0 rfl rfl 0 (by decide) lk7 rfl rfl dX2_attempt_22 ?_
  refine lv_bipush (v := (nI 9)) hx hb dX2_attempt_25 (by decide) ?_
  refine lv_iload_n hx hb dX2_attempt_27 rfl (lv_at hl 2 rfl) ?_
  refine ln_add hx hb dX2_attempt_28 ?_
  refine ildz (n := 624) (j := (9 + t)) (v := ((upd s 0 ((s 0) + (nI (cnt (scn s t))))) (9 + t))) B hz 1 rfl (by omega) (by decide) rfl dX2_attempt_29 ?_
  refine cvt (y := (s (9 + t))) (pk_un (by omega)) ?_
  refine lv_iload_n hx hb dX2_attempt_30 rfl (lv_at hl 3 rfl) ?_
  refine cS (k := 3) (As := [.int (s (9 + t)), .int (nI ch)]) (rest := []) (v := .int (b2i (fHas (s (9 + t)) (nI ch)))) B hz hA (c_X2_has l D cI cN (s (9 + t)) (nI ch) ) gX2_attempt_X2_has rfl hd_X2_has (by decide) rfl hl.1 rfl (Nat.le_of_ble_eq_true rfl) dX2_attempt_31 (fun H locs hz => ?_)
  refine lb_if_eq (tgt := 49) hx hb dX2_attempt_34 (by decide) (fun c34 => ?_) (fun c34 => ?_)
  · refine lv_iconst (v := (nI 0)) hx hb dX2_attempt_49 (by decide) ?_
    exact rz_z0 B hr hz dX2_attempt_50 (by first | (simp [fAm, c34]; done) | (simp [fAm, c34, c46]; done) | (simp [fAm, c34, c46, c70]; done)) (by first | (simp [fAm, c34]; done) | (simp [fAm, c34, c46]; done) | (simp [fAm, c34, c46, c70]; done))
  · refine lv_aload_n hx hb dX2_attempt_37 rfl (lv_at hl 0 rfl) ?_
    refine lv_iconst (v := (nI 2)) hx hb dX2_attempt_38 (by decide) ?_
    refine lv_iload_n hx hb dX2_attempt_39 rfl (lv_at hl 1 rfl) ?_
    refine lv_iload_n hx hb dX2_attempt_40 rfl (lv_at hl 2 rfl) ?_
    refine lv_iload_n hx hb dX2_attempt_41 rfl (lv_at hl 2 rfl) ?_
    refine lv_iload_n hx hb dX2_attempt_42 rfl (lv_at hl 3 rfl) ?_
    refine cV (C := RX2) (T := TX2) (N := 7) (ci := 2) (q0 := 0) (k := 3) (As := [.int (nI 2), .int (nI f), .int (nI t), .int (nI t), .int (nI ch)]) (rest := []) (v := .int (b2i ((fTr 2 f t t ch (upd s 0 ((s 0) + (nI (cnt (scn s t)))))).1))) (ws1 := (mW cI a ((fTr 2 f t t ch (upd s 0 ((s 0) + (nI (cnt (scn s t)))))).2) pst np er od rk hs)) B hz hA (c_X2_transmit l D cI cN a (upd s 0 ((s 0) + (nI (cnt (scn s t))))) pst np er od rk hs 2 f t t ch (hf) (ht) (hc) (nn_upd hn (by decide))) gX2_attempt_X2_transmit rfl rfl hd_X2_transmit (by decide) rfl rfl rfl hl.1 rfl (Nat.le_of_ble_eq_true rfl) dX2_attempt_43 (fun H locs hz => ?_)
    refine lb_if_ne (tgt := 51) hx hb dX2_attempt_46 (by decide) (fun c46 => ?_) (fun c46 => ?_)
    · refine lv_aload_n hx hb dX2_attempt_51 rfl (lv_at hl 0 rfl) ?_
      refine gz (C := RX2) (T := TX2) (N := 7) (v := .ref (a 1)) B hz hinX2 0 rfl rfl 0 (by decide) lk7 rfl rfl dX2_attempt_52 ?_
      refine lv_iconst (v := (nI 0)) hx hb dX2_attempt_55 (by decide) ?_
      refine lv_dup2_11 hx hb dX2_attempt_56 rfl rfl ?_
      refine ildz (n := 624) (j := 0) (v := (((fTr 2 f t t ch (upd s 0 ((s 0) + (nI (cnt (scn s t)))))).2) 0)) B hz 1 rfl (by omega) (by decide) rfl dX2_attempt_57 ?_
      refine cvt (y := ((s 0) + (nI (cnt (scn s t))))) ((fTr_out (by omega)).trans pk_us) ?_
      refine lv_iconst (v := (nI 1)) hx hb dX2_attempt_58 (by decide) ?_
      refine lv_iadd hx hb dX2_attempt_59 ?_
      refine istz (n := 624) (j := 0) (ws1 := (mW cI a (upd ((fTr 2 f t t ch (upd s 0 ((s 0) + (nI (cnt (scn s t)))))).2) 0 (((s 0) + (nI (cnt (scn s t)))) + (nI 1))) pst np er od rk hs)) B hz 1 rfl (by omega) (by decide) rfl dX2_attempt_60 (fun H locs hz => ?_)
      refine lv_aload_n hx hb dX2_attempt_61 rfl (lv_at hl 0 rfl) ?_
      refine lv_iconst (v := (nI 3)) hx hb dX2_attempt_62 (by decide) ?_
      refine lv_iload_n hx hb dX2_attempt_63 rfl (lv_at hl 2 rfl) ?_
      refine lv_iload_n hx hb dX2_attempt_64 rfl (lv_at hl 1 rfl) ?_
      refine lv_iload_n hx hb dX2_attempt_65 rfl (lv_at hl 1 rfl) ?_
      refine lv_iload_n hx hb dX2_attempt_66 rfl (lv_at hl 3 rfl) ?_
      refine cV (C := RX2) (T := TX2) (N := 7) (ci := 2) (q0 := 0) (k := 3) (As := [.int (nI 3), .int (nI t), .int (nI f), .int (nI f), .int (nI ch)]) (rest := []) (v := .int (b2i ((fTr 3 t f f ch (upd ((fTr 2 f t t ch (upd s 0 ((s 0) + (nI (cnt (scn s t)))))).2) 0 (((s 0) + (nI (cnt (scn s t)))) + (nI 1)))).1))) (ws1 := (mW cI a ((fTr 3 t f f ch (upd ((fTr 2 f t t ch (upd s 0 ((s 0) + (nI (cnt (scn s t)))))).2) 0 (((s 0) + (nI (cnt (scn s t)))) + (nI 1)))).2) pst np er od rk hs)) B hz hA (c_X2_transmit l D cI cN a (upd ((fTr 2 f t t ch (upd s 0 ((s 0) + (nI (cnt (scn s t)))))).2) 0 (((s 0) + (nI (cnt (scn s t)))) + (nI 1))) pst np er od rk hs 3 t f f ch (ht) (hf) (hc) (nn_upd (fTr_nn (nn_upd hn (by decide))) (by decide))) gX2_attempt_X2_transmit rfl rfl hd_X2_transmit (by decide) rfl rfl rfl hl.1 rfl (Nat.le_of_ble_eq_true rfl) dX2_attempt_67 (fun H locs hz => ?_)
      refine lb_if_ne (tgt := 75) hx hb dX2_attempt_70 (by decide) (fun c70 => ?_) (fun c70 => ?_)
      · refine lv_aload_n hx hb dX2_attempt_75 rfl (lv_at hl 0 rfl) ?_
        refine gz (C := RX2) (T := TX2) (N := 7) (v := .ref (a 1)) B hz hinX2 0 rfl rfl 0 (by decide) lk7 rfl rfl dX2_attempt_76 ?_
        refine lv_iconst (v := (nI 0)) hx hb dX2_attempt_79 (by decide) ?_
        refine lv_dup2_11 hx hb dX2_attempt_80 rfl rfl ?_
        refine ildz (n := 624) (j := 0) (v := (((fTr 3 t f f ch (upd ((fTr 2 f t t ch (upd s 0 ((s 0) + (nI (cnt (scn s t)))))).2) 0 (((s 0) + (nI (cnt (scn s t)))) + (nI 1)))).2) 0)) B hz 1 rfl (by omega) (by decide) rfl dX2_attempt_81 ?_
        refine cvt (y := (((s 0) + (nI (cnt (scn s t)))) + (nI 1))) ((fTr_out (by omega)).trans pk_us) ?_
        refine lv_iconst (v := (nI 1)) hx hb dX2_attempt_82 (by decide) ?_
        refine lv_iadd hx hb dX2_attempt_83 ?_
        refine istz (n := 624) (j := 0) (ws1 := (mW cI a (upd ((fTr 3 t f f ch (upd ((fTr 2 f t t ch (upd s 0 ((s 0) + (nI (cnt (scn s t)))))).2) 0 (((s 0) + (nI (cnt (scn s t)))) + (nI 1)))).2) 0 ((((s 0) + (nI (cnt (scn s t)))) + (nI 1)) + (nI 1))) pst np er od rk hs)) B hz 1 rfl (by omega) (by decide) rfl dX2_attempt_84 (fun H locs hz => ?_)
        refine lv_aload_n hx hb dX2_attempt_85 rfl (lv_at hl 0 rfl) ?_
        refine lv_iconst (v := (nI 4)) hx hb dX2_attempt_86 (by decide) ?_
        refine lv_iload_n hx hb dX2_attempt_87 rfl (lv_at hl 1 rfl) ?_
        refine lv_iload_n hx hb dX2_attempt_88 rfl (lv_at hl 2 rfl) ?_
        refine lv_iload_n hx hb dX2_attempt_89 rfl (lv_at hl 2 rfl) ?_
        refine lv_iload_n hx hb dX2_attempt_90 rfl (lv_at hl 3 rfl) ?_
        refine cV (C := RX2) (T := TX2) (N := 7) (ci := 2) (q0 := 0) (k := 3) (As := [.int (nI 4), .int (nI f), .int (nI t), .int (nI t), .int (nI ch)]) (rest := []) (v := .int (b2i ((fTr 4 f t t ch (upd ((fTr 3 t f f ch (upd ((fTr 2 f t t ch (upd s 0 ((s 0) + (nI (cnt (scn s t)))))).2) 0 (((s 0) + (nI (cnt (scn s t)))) + (nI 1)))).2) 0 ((((s 0) + (nI (cnt (scn s t)))) + (nI 1)) + (nI 1)))).1))) (ws1 := (mW cI a ((fTr 4 f t t ch (upd ((fTr 3 t f f ch (upd ((fTr 2 f t t ch (upd s 0 ((s 0) + (nI (cnt (scn s t)))))).2) 0 (((s 0) + (nI (cnt (scn s t)))) + (nI 1)))).2) 0 ((((s 0) + (nI (cnt (scn s t)))) + (nI 1)) + (nI 1)))).2) pst np er od rk hs)) B hz hA (c_X2_transmit l D cI cN a (upd ((fTr 3 t f f ch (upd ((fTr 2 f t t ch (upd s 0 ((s 0) + (nI (cnt (scn s t)))))).2) 0 (((s 0) + (nI (cnt (scn s t)))) + (nI 1)))).2) 0 ((((s 0) + (nI (cnt (scn s t)))) + (nI 1)) + (nI 1))) pst np er od rk hs 4 f t t ch (hf) (ht) (hc) (nn_upd (fTr_nn (nn_upd (fTr_nn (nn_upd hn (by decide))) (by decide))) (by decide))) gX2_attempt_X2_transmit rfl rfl hd_X2_transmit (by decide) rfl rfl rfl hl.1 rfl (Nat.le_of_ble_eq_true rfl) dX2_attempt_91 (fun H locs hz => ?_)
        exact rz_z B hr hz dX2_attempt_94 (by first | (simp [fAm, c34]; done) | (simp [fAm, c34, c46]; done) | (simp [fAm, c34, c46, c70]; done)) (by first | (simp [fAm, c34]; done) | (simp [fAm, c34, c46]; done) | (simp [fAm, c34, c46, c70]; done))
      · refine lv_iconst (v := (nI 0)) hx hb dX2_attempt_73 (by decide) ?_
        exact rz_z0 B hr hz dX2_attempt_74 (by first | (simp [fAm, c34]; done) | (simp [fAm, c34, c46]; done) | (simp [fAm, c34, c46, c70]; done)) (by first | (simp [fAm, c34]; done) | (simp [fAm, c34, c46]; done) | (simp [fAm, c34, c46, c70]; done))
    · refine lv_iconst (v := (nI 0)) hx hb dX2_attempt_49 (by decide) ?_
      exact rz_z0 B hr hz dX2_attempt_50 (by first | (simp [fAm, c34]; done) | (simp [fAm, c34, c46]; done) | (simp [fAm, c34, c46, c70]; done)) (by first | (simp [fAm, c34]; done) | (simp [fAm, c34, c46]; done) | (simp [fAm, c34, c46, c70]; done))
theorem hd_X0_shakeHands : hdZ yX0_shakeHands 3 := by decide +kernel
set_option maxRecDepth 100000 in
set_option maxHeartbeats 4000000 in
theorem c_X0_shakeHands (l : Launch) (D : va_G) (cI cN : ClassId) (a : Nat → Nat) (s : Sz) (rk : Sz) (f : Nat) (t : Nat) (ch : Nat) (hf : f < 5) (ht : t < 5) (hc : ch < 8) (hI : IvS s) (hlk : fLk s t = false) : Fn l D cI cN yX0_shakeHands wsX0_shakeHands 3 (nW cI a s rk) [.ref (a 0), .int (nI f), .int (nI t), .int (nI ch)] (some (.int (b2i ((fAm f t ch s).1)))) (nW cI a ((fAm f t ch s).2) rk) := by
  refine Fn.of (cc := cX0_shakeHands) (nL := 4) (ret := (some .boolean)) (lv := [(0, .ref (a 0)), (1, .int (nI f)), (2, .int (nI t)), (3, .int (nI ch))]) (by decide +kernel) rfl (Nat.le_of_ble_eq_true rfl) rfl ?_
  intro p e s_ m args below meth c A B hr hA H locs ls hz hl
  have hx := B.1.1
  have hb := B.1.2.1
  have hinX0 : ∀ w ∈ u_ws RX0 TX0 16, w ∈ wsX0_shakeHands := by decide +kernel
  have lk27 : Cond.fieldLink yX0_shakeHands.cls 27 RX0 (TX0 9).2.1 (TX0 9).2.2.1 ∈ wsX0_shakeHands := by decide +kernel
  have lk55 : Cond.fieldLink yX0_shakeHands.cls 55 RX0 (TX0 0).2.1 (TX0 0).2.2.1 ∈ wsX0_shakeHands := by decide +kernel
  have hHe : ∀ x, fHe (upd s 0 x) t ch = fHas (s (9 + t)) (nI ch) := fun x => by unfold fHe fLk; rw [pk_un (by omega), pk_un (by omega)]; unfold fLk at hlk; rw [hlk]; rfl
  refine lv_aload_n hx hb dX0_shakeHands_0 rfl (lv_at hl 0 rfl) ?_
  refine lv_dup hx hb dX0_shakeHands_1 rfl ?_
  refine gz (C := RX0) (T := TX0) (N := 16) (v := .int (s 0)) B hz hinX0 0 rfl rfl 0 (by decide) lk55 rfl rfl dX0_shakeHands_2 ?_
  refine lv_aload_n hx hb dX0_shakeHands_5 rfl (lv_at hl 0 rfl) ?_
  refine gz (C := RX0) (T := TX0) (N := 16) (v := .ref (a 1)) B hz hinX0 0 rfl rfl 9 (by decide) lk27 rfl rfl dX0_shakeHands_6 ?_
  refine lv_iload_n hx hb dX0_shakeHands_9 rfl (lv_at hl 2 rfl) ?_
  refine ildz (n := 5) (j := t) (v := (s (9 + t))) B hz 1 rfl (by omega) (by decide) (seg_at (by omega)) dX0_shakeHands_10 ?_
  refine cvt (y := nI (scn s t)) ((show IvS s by assumption) t (by omega)).2.2 ?_
  refine cS (k := 3) (As := [.int (nI (scn s t))]) (rest := [.int (s 0), .ref (a 0)]) (v := .int (nI (cnt (scn s t)))) B hz hA (c_bcN l D cI cN (scn s t) ((hI t ht).2.1)) gX0_shakeHands_J6_bitCount_0f7a4 rfl hd_J6_bitCount_0f7a4 (by decide) rfl hl.1 rfl (Nat.le_of_ble_eq_true rfl) dX0_shakeHands_11 (fun H locs hz => ?_)
  refine lv_iadd hx hb dX0_shakeHands_14 ?_
  refine pz (C := RX0) (T := TX0) (N := 16) (ty := .int) (ws1 := (nW cI a (upd s 0 ((s 0) + (nI (cnt (scn s t))))) rk)) B hz hinX0 tyX0_ok nmX0 0 rfl rfl 0 (by decide) lk55 rfl rfl (by decide +kernel) rfl rfl (Nat.le_of_ble_eq_true rfl) (nW_f0 cI a _ _ _) dX0_shakeHands_15 (fun H locs hz => ?_)
  refine lv_aload_n hx hb dX0_shakeHands_18 rfl (lv_at hl 0 rfl) ?_
  refine lv_iload_n hx hb dX0_shakeHands_19 rfl (lv_at hl 2 rfl) ?_
  refine lv_iload_n hx hb dX0_shakeHands_20 rfl (lv_at hl 3 rfl) ?_
  refine cV (C := RX0) (T := TX0) (N := 16) (ci := 0) (q0 := 0) (k := 3) (As := [.int (nI t), .int (nI ch)]) (rest := []) (v := .int (b2i (fHe (upd s 0 ((s 0) + (nI (cnt (scn s t))))) t ch))) (ws1 := (nW cI a (upd s 0 ((s 0) + (nI (cnt (scn s t))))) rk)) B hz hA (c_X0_hears l D cI cN a (upd s 0 ((s 0) + (nI (cnt (scn s t))))) rk t ch (by omega)) gX0_shakeHands_X0_hears rfl rfl hd_X0_hears (by decide) rfl rfl rfl hl.1 rfl (Nat.le_of_ble_eq_true rfl) dX0_shakeHands_21 (fun H locs hz => ?_)
  refine lb_if_eq (tgt := 39) hx hb dX0_shakeHands_24 (by decide) (fun c24 => ?_) (fun c24 => ?_)
  · refine lv_iconst (v := (nI 0)) hx hb dX0_shakeHands_39 (by decide) ?_
    exact rz_z0 B hr hz dX0_shakeHands_40 (by rw [hHe] at c24; first | (simp [fAm, c24]; done) | (simp [fAm, c24, c36]; done) | (simp [fAm, c24, c36, c60]; done)) (by rw [hHe] at c24; first | (simp [fAm, c24]; done) | (simp [fAm, c24, c36]; done) | (simp [fAm, c24, c36, c60]; done))
  · refine lv_aload_n hx hb dX0_shakeHands_27 rfl (lv_at hl 0 rfl) ?_
    refine lv_iconst (v := (nI 2)) hx hb dX0_shakeHands_28 (by decide) ?_
    refine lv_iload_n hx hb dX0_shakeHands_29 rfl (lv_at hl 1 rfl) ?_
    refine lv_iload_n hx hb dX0_shakeHands_30 rfl (lv_at hl 2 rfl) ?_
    refine lv_iload_n hx hb dX0_shakeHands_31 rfl (lv_at hl 2 rfl) ?_
    refine lv_iload_n hx hb dX0_shakeHands_32 rfl (lv_at hl 3 rfl) ?_
    refine cV (C := RX0) (T := TX0) (N := 16) (ci := 0) (q0 := 0) (k := 3) (As := [.int (nI 2), .int (nI f), .int (nI t), .int (nI t), .int (nI ch)]) (rest := []) (v := .int (b2i ((fTr 2 f t t ch (upd s 0 ((s 0) + (nI (cnt (scn s t)))))).1))) (ws1 := (nW cI a ((fTr 2 f t t ch (upd s 0 ((s 0) + (nI (cnt (scn s t)))))).2) rk)) B hz hA (c_X0_transmit l D cI cN a (upd s 0 ((s 0) + (nI (cnt (scn s t))))) rk 2 f t t ch (hf) (ht) (hc)) gX0_shakeHands_X0_transmit rfl rfl hd_X0_transmit (by decide) rfl rfl rfl hl.1 rfl (Nat.le_of_ble_eq_true rfl) dX0_shakeHands_33 (fun H locs hz => ?_)
    refine lb_if_ne (tgt := 41) hx hb dX0_shakeHands_36 (by decide) (fun c36 => ?_) (fun c36 => ?_)
    · refine lv_aload_n hx hb dX0_shakeHands_41 rfl (lv_at hl 0 rfl) ?_
      refine lv_dup hx hb dX0_shakeHands_42 rfl ?_
      refine gz (C := RX0) (T := TX0) (N := 16) (v := .int (((fTr 2 f t t ch (upd s 0 ((s 0) + (nI (cnt (scn s t)))))).2) 0)) B hz hinX0 0 rfl rfl 0 (by decide) lk55 rfl rfl dX0_shakeHands_43 ?_
      refine cvt (y := ((s 0) + (nI (cnt (scn s t))))) ((fTr_out (by omega)).trans pk_us) ?_
      refine lv_iconst (v := (nI 1)) hx hb dX0_shakeHands_46 (by decide) ?_
      refine lv_iadd hx hb dX0_shakeHands_47 ?_
      refine pz (C := RX0) (T := TX0) (N := 16) (ty := .int) (ws1 := (nW cI a (upd ((fTr 2 f t t ch (upd s 0 ((s 0) + (nI (cnt (scn s t)))))).2) 0 (((s 0) + (nI (cnt (scn s t)))) + (nI 1))) rk)) B hz hinX0 tyX0_ok nmX0 0 rfl rfl 0 (by decide) lk55 rfl rfl (by decide +kernel) rfl rfl (Nat.le_of_ble_eq_true rfl) (nW_f0 cI a _ _ _) dX0_shakeHands_48 (fun H locs hz => ?_)
      refine lv_aload_n hx hb dX0_shakeHands_51 rfl (lv_at hl 0 rfl) ?_
      refine lv_iconst (v := (nI 3)) hx hb dX0_shakeHands_52 (by decide) ?_
      refine lv_iload_n hx hb dX0_shakeHands_53 rfl (lv_at hl 2 rfl) ?_
      refine lv_iload_n hx hb dX0_shakeHands_54 rfl (lv_at hl 1 rfl) ?_
      refine lv_iload_n hx hb dX0_shakeHands_55 rfl (lv_at hl 1 rfl) ?_
      refine lv_iload_n hx hb dX0_shakeHands_56 rfl (lv_at hl 3 rfl) ?_
      refine cV (C := RX0) (T := TX0) (N := 16) (ci := 0) (q0 := 0) (k := 3) (As := [.int (nI 3), .int (nI t), .int (nI f), .int (nI f), .int (nI ch)]) (rest := []) (v := .int (b2i ((fTr 3 t f f ch (upd ((fTr 2 f t t ch (upd s 0 ((s 0) + (nI (cnt (scn s t)))))).2) 0 (((s 0) + (nI (cnt (scn s t)))) + (nI 1)))).1))) (ws1 := (nW cI a ((fTr 3 t f f ch (upd ((fTr 2 f t t ch (upd s 0 ((s 0) + (nI (cnt (scn s t)))))).2) 0 (((s 0) + (nI (cnt (scn s t)))) + (nI 1)))).2) rk)) B hz hA (c_X0_transmit l D cI cN a (upd ((fTr 2 f t t ch (upd s 0 ((s 0) + (nI (cnt (scn s t)))))).2) 0 (((s 0) + (nI (cnt (scn s t)))) + (nI 1))) rk 3 t f f ch (ht) (hf) (hc)) gX0_shakeHands_X0_transmit rfl rfl hd_X0_transmit (by decide) rfl rfl rfl hl.1 rfl (Nat.le_of_ble_eq_true rfl) dX0_shakeHands_57 (fun H locs hz => ?_)
      refine lb_if_ne (tgt := 65) hx hb dX0_shakeHands_60 (by decide) (fun c60 => ?_) (fun c60 => ?_)
      · refine lv_aload_n hx hb dX0_shakeHands_65 rfl (lv_at hl 0 rfl) ?_
        refine lv_dup hx hb dX0_shakeHands_66 rfl ?_
        refine gz (C := RX0) (T := TX0) (N := 16) (v := .int (((fTr 3 t f f ch (upd ((fTr 2 f t t ch (upd s 0 ((s 0) + (nI (cnt (scn s t)))))).2) 0 (((s 0) + (nI (cnt (scn s t)))) + (nI 1)))).2) 0)) B hz hinX0 0 rfl rfl 0 (by decide) lk55 rfl rfl dX0_shakeHands_67 ?_
        refine cvt (y := (((s 0) + (nI (cnt (scn s t)))) + (nI 1))) ((fTr_out (by omega)).trans pk_us) ?_
        refine lv_iconst (v := (nI 1)) hx hb dX0_shakeHands_70 (by decide) ?_
        refine lv_iadd hx hb dX0_shakeHands_71 ?_
        refine pz (C := RX0) (T := TX0) (N := 16) (ty := .int) (ws1 := (nW cI a (upd ((fTr 3 t f f ch (upd ((fTr 2 f t t ch (upd s 0 ((s 0) + (nI (cnt (scn s t)))))).2) 0 (((s 0) + (nI (cnt (scn s t)))) + (nI 1)))).2) 0 ((((s 0) + (nI (cnt (scn s t)))) + (nI 1)) + (nI 1))) rk)) B hz hinX0 tyX0_ok nmX0 0 rfl rfl 0 (by decide) lk55 rfl rfl (by decide +kernel) rfl rfl (Nat.le_of_ble_eq_true rfl) (nW_f0 cI a _ _ _) dX0_shakeHands_72 (fun H locs hz => ?_)
        refine lv_aload_n hx hb dX0_shakeHands_75 rfl (lv_at hl 0 rfl) ?_
        refine lv_iconst (v := (nI 4)) hx hb dX0_shakeHands_76 (by decide) ?_
        refine lv_iload_n hx hb dX0_shakeHands_77 rfl (lv_at hl 1 rfl) ?_
        refine lv_iload_n hx hb dX0_shakeHands_78 rfl (lv_at hl 2 rfl) ?_
        refine lv_iload_n hx hb dX0_shakeHands_79 rfl (lv_at hl 2 rfl) ?_
        refine lv_iload_n hx hb dX0_shakeHands_80 rfl (lv_at hl 3 rfl) ?_
        refine cV (C := RX0) (T := TX0) (N := 16) (ci := 0) (q0 := 0) (k := 3) (As := [.int (nI 4), .int (nI f), .int (nI t), .int (nI t), .int (nI ch)]) (rest := []) (v := .int (b2i ((fTr 4 f t t ch (upd ((fTr 3 t f f ch (upd ((fTr 2 f t t ch (upd s 0 ((s 0) + (nI (cnt (scn s t)))))).2) 0 (((s 0) + (nI (cnt (scn s t)))) + (nI 1)))).2) 0 ((((s 0) + (nI (cnt (scn s t)))) + (nI 1)) + (nI 1)))).1))) (ws1 := (nW cI a ((fTr 4 f t t ch (upd ((fTr 3 t f f ch (upd ((fTr 2 f t t ch (upd s 0 ((s 0) + (nI (cnt (scn s t)))))).2) 0 (((s 0) + (nI (cnt (scn s t)))) + (nI 1)))).2) 0 ((((s 0) + (nI (cnt (scn s t)))) + (nI 1)) + (nI 1)))).2) rk)) B hz hA (c_X0_transmit l D cI cN a (upd ((fTr 3 t f f ch (upd ((fTr 2 f t t ch (upd s 0 ((s 0) + (nI (cnt (scn s t)))))).2) 0 (((s 0) + (nI (cnt (scn s t)))) + (nI 1)))).2) 0 ((((s 0) + (nI (cnt (scn s t)))) + (nI 1)) + (nI 1))) rk 4 f t t ch (hf) (ht) (hc)) gX0_shakeHands_X0_transmit rfl rfl hd_X0_transmit (by decide) rfl rfl rfl hl.1 rfl (Nat.le_of_ble_eq_true rfl) dX0_shakeHands_81 (fun H locs hz => ?_)
        exact rz_z B hr hz dX0_shakeHands_84 (by rw [hHe] at c24; first | (simp [fAm, c24]; done) | (simp [fAm, c24, c36]; done) | (simp [fAm, c24, c36, c60]; done)) (by rw [hHe] at c24; first | (simp [fAm, c24]; done) | (simp [fAm, c24, c36]; done) | (simp [fAm, c24, c36, c60]; done))
      · refine lv_iconst (v := (nI 0)) hx hb dX0_shakeHands_63 (by decide) ?_
        exact rz_z0 B hr hz dX0_shakeHands_64 (by rw [hHe] at c24; first | (simp [fAm, c24]; done) | (simp [fAm, c24, c36]; done) | (simp [fAm, c24, c36, c60]; done)) (by rw [hHe] at c24; first | (simp [fAm, c24]; done) | (simp [fAm, c24, c36]; done) | (simp [fAm, c24, c36, c60]; done))
    · refine lv_iconst (v := (nI 0)) hx hb dX0_shakeHands_39 (by decide) ?_
      exact rz_z0 B hr hz dX0_shakeHands_40 (by rw [hHe] at c24; first | (simp [fAm, c24]; done) | (simp [fAm, c24, c36]; done) | (simp [fAm, c24, c36, c60]; done)) (by rw [hHe] at c24; first | (simp [fAm, c24]; done) | (simp [fAm, c24, c36]; done) | (simp [fAm, c24, c36, c60]; done))
theorem hd_X2_answers : hdZ yX2_answers 3 := by decide +kernel
set_option maxRecDepth 100000 in
set_option maxHeartbeats 4000000 in
theorem c_X2_answers (l : Launch) (D : va_G) (cI cN : ClassId) (a : Nat → Nat) (s : Sz) (pst : Sz) (np : Nat) (er : Sz) (od : Sz) (rk : Sz) (hs : Int64) (f : Nat) (k : Nat) (ch : Nat) (hf : f < 5) (hk : k < 5) (hc : ch < 8) (hn : fNn s) : Fn l D cI cN yX2_answers wsX2_answers 3 (mW cI a s pst np er od rk hs) [.ref (a 0), .int (nI f), .int (nI k), .int (nI ch)] (some (.int (b2i ((fAn f k ch s).1)))) (mW cI a ((fAn f k ch s).2) pst np er od rk hs) := by
  refine Fn.of (cc := cX2_answers) (nL := 4) (ret := (some .boolean)) (lv := [(0, .ref (a 0)), (1, .int (nI f)), (2, .int (nI k)), (3, .int (nI ch))]) (by decide +kernel) rfl (Nat.le_of_ble_eq_true rfl) rfl ?_
  intro p e s_ m args below meth c A B hr hA H locs ls hz hl
  have hx := B.1.1
  have hb := B.1.2.1
  have hinX2 : ∀ w ∈ u_ws RX2 TX2 7, w ∈ wsX2_answers := by decide +kernel
  have lk7 : Cond.fieldLink yX2_answers.cls 7 RX2 (TX2 0).2.1 (TX2 0).2.2.1 ∈ wsX2_answers := by decide +kernel
  refine lv_aload_n hx hb dX2_answers_0 rfl (lv_at hl 0 rfl) ?_
  refine gz (C := RX2) (T := TX2) (N := 7) (v := .ref (a 1)) B hz hinX2 0 rfl rfl 0 (by decide) lk7 rfl rfl dX2_answers_1 ?_
  refine lv_bipush (v := (nI 9)) hx hb dX2_answers_4 (by decide) ?_
  refine lv_iload_n hx hb dX2_answers_6 rfl (lv_at hl 2 rfl) ?_
  refine ln_add hx hb dX2_answers_7 ?_
  refine ildz (n := 624) (j := (9 + k)) (v := (s (9 + k))) B hz 1 rfl (by omega) (by decide) rfl dX2_answers_8 ?_
  refine lv_iload_n hx hb dX2_answers_9 rfl (lv_at hl 3 rfl) ?_
  refine cS (k := 3) (As := [.int (s (9 + k)), .int (nI ch)]) (rest := []) (v := .int (b2i (fHas (s (9 + k)) (nI ch)))) B hz hA (c_X2_has l D cI cN (s (9 + k)) (nI ch) ) gX2_answers_X2_has rfl hd_X2_has (by decide) rfl hl.1 rfl (Nat.le_of_ble_eq_true rfl) dX2_answers_10 (fun H locs hz => ?_)
  refine lb_if_eq (tgt := 38) hx hb dX2_answers_13 (by decide) (fun c13 => ?_) (fun c13 => ?_)
  · refine lv_iconst (v := (nI 0)) hx hb dX2_answers_38 (by decide) ?_
    exact rz_z0 B hr hz dX2_answers_39 (by first | (simp [fAn, c13]; done) | (simp [fAn, c13, c21]; done) | (simp [fAn, c13, c21, c35]; done)) (by first | (simp [fAn, c13]; done) | (simp [fAn, c13, c21]; done) | (simp [fAn, c13, c21, c35]; done))
  · refine lv_aload_n hx hb dX2_answers_16 rfl (lv_at hl 0 rfl) ?_
    refine lv_iload_n hx hb dX2_answers_17 rfl (lv_at hl 2 rfl) ?_
    refine cV (C := RX2) (T := TX2) (N := 7) (ci := 2) (q0 := 0) (k := 3) (As := [.int (nI k)]) (rest := []) (v := .int (b2i (fLk s k))) (ws1 := (mW cI a s pst np er od rk hs)) B hz hA (c_X2_isLinked l D cI cN a s pst np er od rk hs k (by omega)) gX2_answers_X2_isLinked rfl rfl hd_X2_isLinked (by decide) rfl rfl rfl hl.1 rfl (Nat.le_of_ble_eq_true rfl) dX2_answers_18 (fun H locs hz => ?_)
    refine lb_if_ne (tgt := 38) hx hb dX2_answers_21 (by decide) (fun c21 => ?_) (fun c21 => ?_)
    · refine lv_iconst (v := (nI 0)) hx hb dX2_answers_38 (by decide) ?_
      exact rz_z0 B hr hz dX2_answers_39 (by first | (simp [fAn, c13]; done) | (simp [fAn, c13, c21]; done) | (simp [fAn, c13, c21, c35]; done)) (by first | (simp [fAn, c13]; done) | (simp [fAn, c13, c21]; done) | (simp [fAn, c13, c21, c35]; done))
    · refine lv_aload_n hx hb dX2_answers_24 rfl (lv_at hl 0 rfl) ?_
      refine lv_iconst (v := (nI 2)) hx hb dX2_answers_25 (by decide) ?_
      refine lv_iload_n hx hb dX2_answers_26 rfl (lv_at hl 1 rfl) ?_
      refine lv_iload_n hx hb dX2_answers_27 rfl (lv_at hl 2 rfl) ?_
      refine lv_sipush (v := (nI 255)) hx hb dX2_answers_28 (by decide) ?_
      refine lv_iload_n hx hb dX2_answers_31 rfl (lv_at hl 3 rfl) ?_
      refine cV (C := RX2) (T := TX2) (N := 7) (ci := 2) (q0 := 0) (k := 3) (As := [.int (nI 2), .int (nI f), .int (nI k), .int (nI 255), .int (nI ch)]) (rest := []) (v := .int (b2i ((fTr 2 f k 255 ch s).1))) (ws1 := (mW cI a ((fTr 2 f k 255 ch s).2) pst np er od rk hs)) B hz hA (c_X2_transmit l D cI cN a s pst np er od rk hs 2 f k 255 ch (hf) (hk) (hc) (hn)) gX2_answers_X2_transmit rfl rfl hd_X2_transmit (by decide) rfl rfl rfl hl.1 rfl (Nat.le_of_ble_eq_true rfl) dX2_answers_32 (fun H locs hz => ?_)
      refine lb_if_ne (tgt := 40) hx hb dX2_answers_35 (by decide) (fun c35 => ?_) (fun c35 => ?_)
      · refine lv_aload_n hx hb dX2_answers_40 rfl (lv_at hl 0 rfl) ?_
        refine gz (C := RX2) (T := TX2) (N := 7) (v := .ref (a 1)) B hz hinX2 0 rfl rfl 0 (by decide) lk7 rfl rfl dX2_answers_41 ?_
        refine lv_iconst (v := (nI 0)) hx hb dX2_answers_44 (by decide) ?_
        refine lv_dup2_11 hx hb dX2_answers_45 rfl rfl ?_
        refine ildz (n := 624) (j := 0) (v := (((fTr 2 f k 255 ch s).2) 0)) B hz 1 rfl (by omega) (by decide) rfl dX2_answers_46 ?_
        refine cvt (y := (s 0)) (fTr_out (by omega)) ?_
        refine lv_iconst (v := (nI 1)) hx hb dX2_answers_47 (by decide) ?_
        refine lv_iadd hx hb dX2_answers_48 ?_
        refine istz (n := 624) (j := 0) (ws1 := (mW cI a (upd ((fTr 2 f k 255 ch s).2) 0 ((s 0) + (nI 1))) pst np er od rk hs)) B hz 1 rfl (by omega) (by decide) rfl dX2_answers_49 (fun H locs hz => ?_)
        refine lv_aload_n hx hb dX2_answers_50 rfl (lv_at hl 0 rfl) ?_
        refine lv_iconst (v := (nI 3)) hx hb dX2_answers_51 (by decide) ?_
        refine lv_iload_n hx hb dX2_answers_52 rfl (lv_at hl 2 rfl) ?_
        refine lv_iload_n hx hb dX2_answers_53 rfl (lv_at hl 1 rfl) ?_
        refine lv_iload_n hx hb dX2_answers_54 rfl (lv_at hl 1 rfl) ?_
        refine lv_iload_n hx hb dX2_answers_55 rfl (lv_at hl 3 rfl) ?_
        refine cV (C := RX2) (T := TX2) (N := 7) (ci := 2) (q0 := 0) (k := 3) (As := [.int (nI 3), .int (nI k), .int (nI f), .int (nI f), .int (nI ch)]) (rest := []) (v := .int (b2i ((fTr 3 k f f ch (upd ((fTr 2 f k 255 ch s).2) 0 ((s 0) + (nI 1)))).1))) (ws1 := (mW cI a ((fTr 3 k f f ch (upd ((fTr 2 f k 255 ch s).2) 0 ((s 0) + (nI 1)))).2) pst np er od rk hs)) B hz hA (c_X2_transmit l D cI cN a (upd ((fTr 2 f k 255 ch s).2) 0 ((s 0) + (nI 1))) pst np er od rk hs 3 k f f ch (hk) (hf) (hc) (nn_upd (fTr_nn hn) (by decide))) gX2_answers_X2_transmit rfl rfl hd_X2_transmit (by decide) rfl rfl rfl hl.1 rfl (Nat.le_of_ble_eq_true rfl) dX2_answers_56 (fun H locs hz => ?_)
        exact rz_z B hr hz dX2_answers_59 (by first | (simp [fAn, c13]; done) | (simp [fAn, c13, c21]; done) | (simp [fAn, c13, c21, c35]; done)) (by first | (simp [fAn, c13]; done) | (simp [fAn, c13, c21]; done) | (simp [fAn, c13, c21, c35]; done))
      · refine lv_iconst (v := (nI 0)) hx hb dX2_answers_38 (by decide) ?_
        exact rz_z0 B hr hz dX2_answers_39 (by first | (simp [fAn, c13]; done) | (simp [fAn, c13, c21]; done) | (simp [fAn, c13, c21, c35]; done)) (by first | (simp [fAn, c13]; done) | (simp [fAn, c13, c21]; done) | (simp [fAn, c13, c21, c35]; done))
theorem hd_X0_answersNetCall : hdZ yX0_answersNetCall 3 := by decide +kernel
set_option maxRecDepth 100000 in
set_option maxHeartbeats 4000000 in
theorem c_X0_answersNetCall (l : Launch) (D : va_G) (cI cN : ClassId) (a : Nat → Nat) (s : Sz) (rk : Sz) (f : Nat) (k : Nat) (ch : Nat) (hf : f < 5) (hk : k < 5) (hc : ch < 8) : Fn l D cI cN yX0_answersNetCall wsX0_answersNetCall 3 (nW cI a s rk) [.ref (a 0), .int (nI f), .int (nI k), .int (nI ch)] (some (.int (b2i ((fAn f k ch s).1)))) (nW cI a ((fAn f k ch s).2) rk) := by
  refine Fn.of (cc := cX0_answersNetCall) (nL := 4) (ret := (some .boolean)) (lv := [(0, .ref (a 0)), (1, .int (nI f)), (2, .int (nI k)), (3, .int (nI ch))]) (by decide +kernel) rfl (Nat.le_of_ble_eq_true rfl) rfl ?_
  intro p e s_ m args below meth c A B hr hA H locs ls hz hl
  have hx := B.1.1
  have hb := B.1.2.1
  have hinX0 : ∀ w ∈ u_ws RX0 TX0 16, w ∈ wsX0_answersNetCall := by decide +kernel
  have lk55 : Cond.fieldLink yX0_answersNetCall.cls 55 RX0 (TX0 0).2.1 (TX0 0).2.2.1 ∈ wsX0_answersNetCall := by decide +kernel
  refine lv_aload_n hx hb dX0_answersNetCall_0 rfl (lv_at hl 0 rfl) ?_
  refine lv_iload_n hx hb dX0_answersNetCall_1 rfl (lv_at hl 2 rfl) ?_
  refine lv_iload_n hx hb dX0_answersNetCall_2 rfl (lv_at hl 3 rfl) ?_
  refine cV (C := RX0) (T := TX0) (N := 16) (ci := 0) (q0 := 0) (k := 3) (As := [.int (nI k), .int (nI ch)]) (rest := []) (v := .int (b2i (fHe s k ch))) (ws1 := (nW cI a s rk)) B hz hA (c_X0_hears l D cI cN a s rk k ch (by omega)) gX0_answersNetCall_X0_hears rfl rfl hd_X0_hears (by decide) rfl rfl rfl hl.1 rfl (Nat.le_of_ble_eq_true rfl) dX0_answersNetCall_3 (fun H locs hz => ?_)
  refine lb_if_eq (tgt := 23) hx hb dX0_answersNetCall_6 (by decide) (fun c6 => ?_) (fun c6 => ?_)
  · refine lv_iconst (v := (nI 0)) hx hb dX0_answersNetCall_23 (by decide) ?_
    exact rz_z0 B hr hz dX0_answersNetCall_24 (by first | (simp [fAn, fHe_f c6]; done) | (simp [fAn, (fHe_t c6).1, (fHe_t c6).2, c20]; done) | (rw [fAn_f c6]; done)) (by first | (rw [fAn_f c6]; done) | (simp [fAn, (fHe_t c6).1, (fHe_t c6).2, c20]; done))
  · refine lv_aload_n hx hb dX0_answersNetCall_9 rfl (lv_at hl 0 rfl) ?_
    refine lv_iconst (v := (nI 2)) hx hb dX0_answersNetCall_10 (by decide) ?_
    refine lv_iload_n hx hb dX0_answersNetCall_11 rfl (lv_at hl 1 rfl) ?_
    refine lv_iload_n hx hb dX0_answersNetCall_12 rfl (lv_at hl 2 rfl) ?_
    refine lv_sipush (v := (nI 255)) hx hb dX0_answersNetCall_13 (by decide) ?_
    refine lv_iload_n hx hb dX0_answersNetCall_16 rfl (lv_at hl 3 rfl) ?_
    refine cV (C := RX0) (T := TX0) (N := 16) (ci := 0) (q0 := 0) (k := 3) (As := [.int (nI 2), .int (nI f), .int (nI k), .int (nI 255), .int (nI ch)]) (rest := []) (v := .int (b2i ((fTr 2 f k 255 ch s).1))) (ws1 := (nW cI a ((fTr 2 f k 255 ch s).2) rk)) B hz hA (c_X0_transmit l D cI cN a s rk 2 f k 255 ch (hf) (hk) (hc)) gX0_answersNetCall_X0_transmit rfl rfl hd_X0_transmit (by decide) rfl rfl rfl hl.1 rfl (Nat.le_of_ble_eq_true rfl) dX0_answersNetCall_17 (fun H locs hz => ?_)
    refine lb_if_ne (tgt := 25) hx hb dX0_answersNetCall_20 (by decide) (fun c20 => ?_) (fun c20 => ?_)
    · refine lv_aload_n hx hb dX0_answersNetCall_25 rfl (lv_at hl 0 rfl) ?_
      refine lv_dup hx hb dX0_answersNetCall_26 rfl ?_
      refine gz (C := RX0) (T := TX0) (N := 16) (v := .int (((fTr 2 f k 255 ch s).2) 0)) B hz hinX0 0 rfl rfl 0 (by decide) lk55 rfl rfl dX0_answersNetCall_27 ?_
      refine cvt (y := (s 0)) (fTr_out (by omega)) ?_
      refine lv_iconst (v := (nI 1)) hx hb dX0_answersNetCall_30 (by decide) ?_
      refine lv_iadd hx hb dX0_answersNetCall_31 ?_
      refine pz (C := RX0) (T := TX0) (N := 16) (ty := .int) (ws1 := (nW cI a (upd ((fTr 2 f k 255 ch s).2) 0 ((s 0) + (nI 1))) rk)) B hz hinX0 tyX0_ok nmX0 0 rfl rfl 0 (by decide) lk55 rfl rfl (by decide +kernel) rfl rfl (Nat.le_of_ble_eq_true rfl) (nW_f0 cI a _ _ _) dX0_answersNetCall_32 (fun H locs hz => ?_)
      refine lv_aload_n hx hb dX0_answersNetCall_35 rfl (lv_at hl 0 rfl) ?_
      refine lv_iconst (v := (nI 3)) hx hb dX0_answersNetCall_36 (by decide) ?_
      refine lv_iload_n hx hb dX0_answersNetCall_37 rfl (lv_at hl 2 rfl) ?_
      refine lv_iload_n hx hb dX0_answersNetCall_38 rfl (lv_at hl 1 rfl) ?_
      refine lv_iload_n hx hb dX0_answersNetCall_39 rfl (lv_at hl 1 rfl) ?_
      refine lv_iload_n hx hb dX0_answersNetCall_40 rfl (lv_at hl 3 rfl) ?_
      refine cV (C := RX0) (T := TX0) (N := 16) (ci := 0) (q0 := 0) (k := 3) (As := [.int (nI 3), .int (nI k), .int (nI f), .int (nI f), .int (nI ch)]) (rest := []) (v := .int (b2i ((fTr 3 k f f ch (upd ((fTr 2 f k 255 ch s).2) 0 ((s 0) + (nI 1)))).1))) (ws1 := (nW cI a ((fTr 3 k f f ch (upd ((fTr 2 f k 255 ch s).2) 0 ((s 0) + (nI 1)))).2) rk)) B hz hA (c_X0_transmit l D cI cN a (upd ((fTr 2 f k 255 ch s).2) 0 ((s 0) + (nI 1))) rk 3 k f f ch (hk) (hf) (hc)) gX0_answersNetCall_X0_transmit rfl rfl hd_X0_transmit (by decide) rfl rfl rfl hl.1 rfl (Nat.le_of_ble_eq_true rfl) dX0_answersNetCall_41 (fun H locs hz => ?_)
      exact rz_z B hr hz dX0_answersNetCall_44 (by first | (simp [fAn, fHe_f c6]; done) | (simp [fAn, (fHe_t c6).1, (fHe_t c6).2, c20]; done) | (rw [fAn_f c6]; done)) (by first | (rw [fAn_f c6]; done) | (simp [fAn, (fHe_t c6).1, (fHe_t c6).2, c20]; done))
    · refine lv_iconst (v := (nI 0)) hx hb dX0_answersNetCall_23 (by decide) ?_
      exact rz_z0 B hr hz dX0_answersNetCall_24 (by first | (simp [fAn, fHe_f c6]; done) | (simp [fAn, (fHe_t c6).1, (fHe_t c6).2, c20]; done) | (rw [fAn_f c6]; done)) (by first | (rw [fAn_f c6]; done) | (simp [fAn, (fHe_t c6).1, (fHe_t c6).2, c20]; done))
theorem hd_X2_fail : hdZ yX2_fail 1 := by decide +kernel
set_option maxRecDepth 100000 in
set_option maxHeartbeats 4000000 in
theorem c_X2_fail (l : Launch) (D : va_G) (cI cN : ClassId) (a : Nat → Nat) (s : Sz) (pst : Sz) (np : Nat) (er : Sz) (od : Sz) (rk : Sz) (hs : Int64) (cd : Int32) (hcd : cd = -2 ∨ cd = -3) : Fn l D cI cN yX2_fail wsX2_fail 0 (mW cI a s pst np er od rk hs) [.ref (a 0), .int cd] (some (.int cd)) (mW cI a s pst np (upd er (fIx cd) (er (fIx cd) + nI 1)) od rk hs) := by
  refine Fn.of (cc := cX2_fail) (nL := 2) (ret := (some .int)) (lv := [(0, .ref (a 0)), (1, .int cd)]) (by decide +kernel) rfl (Nat.le_of_ble_eq_true rfl) rfl ?_
  intro p e s_ m args below meth c A B hr hA H locs ls hz hl
  have hx := B.1.1
  have hb := B.1.2.1
  have hinX2 : ∀ w ∈ u_ws RX2 TX2 7, w ∈ wsX2_fail := by decide +kernel
  have lk16 : Cond.fieldLink yX2_fail.cls 16 RX2 (TX2 3).2.1 (TX2 3).2.2.1 ∈ wsX2_fail := by decide +kernel
  refine lv_aload_n hx hb dX2_fail_0 rfl (lv_at hl 0 rfl) ?_
  refine gz (C := RX2) (T := TX2) (N := 7) (v := .ref (a 3)) B hz hinX2 0 rfl rfl 3 (by decide) lk16 rfl rfl dX2_fail_1 ?_
  refine lv_bipush (v := (-2)) hx hb dX2_fail_4 (by decide) ?_
  refine lv_iload_n hx hb dX2_fail_6 rfl (lv_at hl 1 rfl) ?_
  refine lv_isub hx hb dX2_fail_7 ?_
  refine cvt (y := nI (fIx cd)) (fIx_e hcd).1 ?_
  refine lv_dup2_11 hx hb dX2_fail_8 rfl rfl ?_
  refine ildz (n := 2) (j := (fIx cd)) (v := (er (fIx cd))) B hz 3 rfl (by have := (fIx_e hcd).2; omega) (by decide) rfl dX2_fail_9 ?_
  refine lv_iconst (v := (nI 1)) hx hb dX2_fail_10 (by decide) ?_
  refine lv_iadd hx hb dX2_fail_11 ?_
  refine istz (n := 2) (j := (fIx cd)) (ws1 := (mW cI a s pst np (upd er (fIx cd) ((er (fIx cd)) + (nI 1))) od rk hs)) B hz 3 rfl (by have := (fIx_e hcd).2; omega) (by decide) rfl dX2_fail_12 (fun H locs hz => ?_)
  refine lv_iload_n hx hb dX2_fail_13 rfl (lv_at hl 1 rfl) ?_
  exact rz_i B hr hz dX2_fail_14 (by rfl) (by rfl)
theorem hd_X2_add : hdZ yX2_add 1 := by decide +kernel
set_option maxRecDepth 100000 in
set_option maxHeartbeats 4000000 in
theorem c_X2_add (l : Launch) (D : va_G) (cI cN : ClassId) (a : Nat → Nat) (s : Sz) (pst : Sz) (np : Nat) (er : Sz) (od : Sz) (rk : Sz) (hs : Int64) (x : Int32) : Fn l D cI cN yX2_add wsX2_add 0 (mW cI a s pst np er od rk hs) [.ref (a 0), .int x] none (mW cI a s pst np er od rk (31 * hs + x.toInt64)) := by
  refine Fn.of (cc := cX2_add) (nL := 2) (ret := none) (lv := [(0, .ref (a 0)), (1, .int x)]) (by decide +kernel) rfl (Nat.le_of_ble_eq_true rfl) rfl ?_
  intro p e s_ m args below meth c A B hr hA H locs ls hz hl
  have hx := B.1.1
  have hb := B.1.2.1
  have hinX2 : ∀ w ∈ u_ws RX2 TX2 7, w ∈ wsX2_add := by decide +kernel
  have lk130 : Cond.fieldLink yX2_add.cls 130 RX2 (TX2 6).2.1 (TX2 6).2.2.1 ∈ wsX2_add := by decide +kernel
  refine lv_aload_n hx hb dX2_add_0 rfl (lv_at hl 0 rfl) ?_
  refine ldc2z (v := 31) B (by decide +kernel) dX2_add_1 ?_
  refine lv_aload_n hx hb dX2_add_4 rfl (lv_at hl 0 rfl) ?_
  refine gz (C := RX2) (T := TX2) (N := 7) (v := .long hs) B hz hinX2 0 rfl rfl 6 (by decide) lk130 rfl rfl dX2_add_5 ?_
  refine lv_lmul hx hb dX2_add_8 ?_
  refine lv_iload_n hx hb dX2_add_9 rfl (lv_at hl 1 rfl) ?_
  refine lv_i2l hx hb dX2_add_10 rfl ?_
  refine lv_ladd hx hb dX2_add_11 ?_
  refine pz (C := RX2) (T := TX2) (N := 7) (ty := .long) (ws1 := (mW cI a s pst np er od rk ((31 * hs) + x.toInt64))) B hz hinX2 tyX2_ok nmX2 0 rfl rfl 6 (by decide) lk130 rfl rfl (by decide +kernel) rfl rfl (Nat.le_of_ble_eq_true rfl) rfl dX2_add_12 (fun H locs hz => ?_)
  exact rz_v B hr hz dX2_add_15 (by rfl)
