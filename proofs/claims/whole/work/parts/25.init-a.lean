
def fZero : Sz := fun _ => 0
def fInit : Sz := fun k => if k = 1 then nI 1 else if k = 2 then nI 10 else if 6 ≤ k ∧ k < 9 then -1 else if 9 ≤ k ∧ k < 14 then nI 255 else if 19 ≤ k ∧ k < 24 then -1 else if 24 ≤ k ∧ k < 224 then nI 15 else if 224 ≤ k ∧ k < 424 then -1 else 0
def fil (f : Sz) (v : Int32) (_n i : Nat) : Sz := fun k => if k < i then v else f k
theorem fil_s {f : Sz} {v : Int32} {n i : Nat} : upd (fil f v n i) i v = fil f v n (i + 1) := by
  funext k
  unfold fil
  by_cases h : k = i
  · subst h; rw [pk_us, if_pos (by omega)]
  · rw [pk_un h]
    by_cases h1 : k < i
    · rw [if_pos h1, if_pos (by omega)]
    · rw [if_neg h1, if_neg (by omega)]
theorem fil_0 {f : Sz} {v : Int32} {n : Nat} : fil f v n 0 = f := by funext k; simp [fil]
theorem seg_fil {s : Sz} {o n : Nat} {v : Int32} (h : ∀ k, k < n → s (o + k) = v) : fil (fun _ => 0) v n n = seg s o n := by
  funext k
  unfold fil seg
  by_cases hk : k < n
  · rw [if_pos hk, if_pos hk, h k hk]
  · rw [if_neg hk, if_neg hk]
theorem seg_0 {s : Sz} {o n : Nat} (h : ∀ k, k < n → s (o + k) = 0) : (fun _ => 0) = seg s o n := by
  funext k
  unfold seg
  by_cases hk : k < n
  · rw [if_pos hk, h k hk]
  · rw [if_neg hk]
theorem fi_scan : ∀ k, k < 5 → fInit (9 + k) = nI 255 := by decide +kernel
theorem fi_link : ∀ k, k < 5 → fInit (14 + k) = 0 := by decide +kernel
theorem fi_on : ∀ k, k < 5 → fInit (19 + k) = -1 := by decide +kernel
theorem fi_q : ∀ k, k < 200 → fInit (24 + k) = nI 15 := by decide +kernel
theorem fi_sc : ∀ k, k < 200 → fInit (224 + k) = -1 := by decide +kernel
theorem fi_st : ∀ k, k < 200 → fInit (424 + k) = 0 := by decide +kernel
theorem hd_J7_fill_53178 : hdZ yJ7_fill_53178 2 := by decide +kernel
set_option maxRecDepth 100000 in
set_option maxHeartbeats 4000000 in
theorem c_J7_fill_53178 (l : Launch) (D : va_G) (cI cN : ClassId) (q n : Nat) (f : Sz) (v : Int32) (hn : n < 2 ^ 31) : Fn l D cI cN yJ7_fill_53178 wsJ7_fill_53178 0 [(q, .inl (cI, n, .inl f))] [.ref q, .int v] none [(q, .inl (cI, n, .inl (fil f v n n)))] := by
  refine Fn.of (cc := cJ7_fill_53178) (nL := 4) (ret := none) (lv := [(0, .ref q), (1, .int v)]) (by decide +kernel) rfl (Nat.le_of_ble_eq_true rfl) rfl ?_
  intro p e s_ m args below meth c A B hr hA H locs ls hz hl
  have hx := B.1.1
  have hb := B.1.2.1
  refine lv_iconst (v := nI 0) hx hb dJ7_fill_53178_0 (by decide) ?_
  refine lv_istore_n (lv' := [(2, .int (nI 0)), (0, .ref q), (1, .int v)]) hx hb dJ7_fill_53178_1 rfl hl (by decide) rfl (fun ls hl => ?_)
  refine lv_aload_n hx hb dJ7_fill_53178_2 rfl (lv_at hl 1 rfl) ?_
  refine va_alen (v := nI n) hx hb B.2.1 hz.1 0 0 rfl rfl rfl dJ7_fill_53178_3 ?_
  refine lv_istore_n (lv' := [(3, .int (nI n)), (2, .int (nI 0)), (0, .ref q), (1, .int v)]) hx hb dJ7_fill_53178_4 rfl hl (by decide) rfl (fun ls hl => ?_)
  have LP : ∀ (k i : Nat), i ≤ n → n - i < k → ∀ (H : Heap) (locs : List Loc) (ls : Array Slot), Hz D A s_.heap H locs [(q, .inl (cI, n, .inl (fil f v n i)))] → lv_has ls 4 [(0, .ref q), (1, .int v), (2, .int (nI i)), (3, .int (nI n))] → Wz p l e 0 s_ m args below meth c D A none [(q, .inl (cI, n, .inl (fil f v n n)))] H locs (F0 m 5 ls []) := by
    intro k
    induction k with
    | zero => intro i _ hm; exact absurd hm (Nat.not_lt_zero _)
    | succ k ih =>
      intro i hi hm H locs ls hz hl
      refine lv_iload_n hx hb dJ7_fill_53178_5 rfl (lv_at hl 2 rfl) ?_
      refine lv_iload_n hx hb dJ7_fill_53178_6 rfl (lv_at hl 3 rfl) ?_
      refine ln_icmp_ge (tgt := 20) hx hb dJ7_fill_53178_7 (by decide) (by constructor <;> omega) (fun c7 => ?_) (fun c7 => ?_)
      · obtain rfl : i = n := by omega
        exact rz_v B hr hz dJ7_fill_53178_20 rfl
      · refine lv_aload_n hx hb dJ7_fill_53178_10 rfl (lv_at hl 0 rfl) ?_
        refine lv_iload_n hx hb dJ7_fill_53178_11 rfl (lv_at hl 2 rfl) ?_
        refine lv_iload_n hx hb dJ7_fill_53178_12 rfl (lv_at hl 1 rfl) ?_
        refine istz (n := n) (j := i) (ws1 := [(q, .inl (cI, n, .inl (upd (fil f v n i) i v)))]) B hz 0 rfl c7 hn rfl dJ7_fill_53178_13 (fun H locs hz => ?_)
        refine lv_iinc (v := nI (i + 1)) (lv' := [(2, .int (nI (i + 1))), (0, .ref q), (1, .int v), (3, .int (nI n))]) hx hb dJ7_fill_53178_14 hl (k := 2) rfl (nI_add i 1) (by decide) rfl (fun ls hl => ?_)
        refine lv_goto (tgt := 5) hx hb dJ7_fill_53178_17 (by decide) ?_
        exact ih (i + 1) (by omega) (by omega) H locs ls (hz.cast (by rw [fil_s])) (lv_sub hl [1, 2, 0, 3] rfl)
  exact LP _ 0 (Nat.zero_le _) (Nat.lt_succ_self _) H locs ls (hz.cast (by rw [fil_0])) (lv_sub hl [2, 3, 1, 0] rfl)
theorem hd_X0_init : hdZ yX0_init 0 := by decide +kernel
set_option maxRecDepth 100000 in
set_option maxHeartbeats 4000000 in
theorem c_X0_init (l : Launch) (D : va_G) (cI cN : ClassId) (h : Nat) : FnI l D cI cN yX0_init wsX0_init ({ frames := 1, cells := 7, slots := 623, locals := 60 } : Room) 7 623 ([(h, .inr (0, [.int 0, .int 0, .int 0, .int 0, .int 0, .int 0, .int 0, .int 0, .int 0, .null, .null, .null, .null, .null, .null, .null]))] : va_W) [.ref h] (fun w => ∃ a : Nat → Nat, a 0 = h ∧ w = nW cI a fInit fZero) := by
  refine FnI.of (cc := cX0_init) (nL := 1) (lv := [(0, .ref h)]) (by decide +kernel) rfl rfl (Nat.le_of_ble_eq_true rfl) rfl ?_
  intro p e s_ m args below meth c A B hO hin2 hr hA H locs ls hz hl
  have hx := B.1.1
  have hb := B.1.2.1
  have hinX0 : ∀ w ∈ u_ws RX0 TX0 16, w ∈ wsX0_init := by decide +kernel
  have lk9 : Cond.fieldLink yX0_init.cls 9 RX0 (TX0 1).2.1 (TX0 1).2.2.1 ∈ wsX0_init := by decide +kernel
  have lk15 : Cond.fieldLink yX0_init.cls 15 RX0 (TX0 2).2.1 (TX0 2).2.2.1 ∈ wsX0_init := by decide +kernel
  have lk18 : Cond.fieldLink yX0_init.cls 18 RX0 (TX0 6).2.1 (TX0 6).2.2.1 ∈ wsX0_init := by decide +kernel
  have lk21 : Cond.fieldLink yX0_init.cls 21 RX0 (TX0 7).2.1 (TX0 7).2.2.1 ∈ wsX0_init := by decide +kernel
  have lk24 : Cond.fieldLink yX0_init.cls 24 RX0 (TX0 8).2.1 (TX0 8).2.2.1 ∈ wsX0_init := by decide +kernel
  have lk27 : Cond.fieldLink yX0_init.cls 27 RX0 (TX0 9).2.1 (TX0 9).2.2.1 ∈ wsX0_init := by decide +kernel
  have lk31 : Cond.fieldLink yX0_init.cls 31 RX0 (TX0 10).2.1 (TX0 10).2.2.1 ∈ wsX0_init := by decide +kernel
  have lk34 : Cond.fieldLink yX0_init.cls 34 RX0 (TX0 11).2.1 (TX0 11).2.2.1 ∈ wsX0_init := by decide +kernel
  have lk37 : Cond.fieldLink yX0_init.cls 37 RX0 (TX0 12).2.1 (TX0 12).2.2.1 ∈ wsX0_init := by decide +kernel
  have lk40 : Cond.fieldLink yX0_init.cls 40 RX0 (TX0 13).2.1 (TX0 13).2.2.1 ∈ wsX0_init := by decide +kernel
  have lk43 : Cond.fieldLink yX0_init.cls 43 RX0 (TX0 14).2.1 (TX0 14).2.2.1 ∈ wsX0_init := by decide +kernel
  have lk46 : Cond.fieldLink yX0_init.cls 46 RX0 (TX0 15).2.1 (TX0 15).2.2.1 ∈ wsX0_init := by decide +kernel
  refine lv_aload_n hx hb dX0_init_0 rfl (lv_at hl 0 rfl) ?_
  refine oIz (index := 3) (b := h) B (by decide +kernel) (by decide +kernel) (by decide +kernel) hl.1 (Nat.le_of_ble_eq_true rfl) (Nat.le_of_ble_eq_true rfl) dX0_init_1 ?_
  refine lv_aload_n hx hb dX0_init_4 rfl (lv_at hl 0 rfl) ?_
  refine lv_bipush (v := (nI 10)) hx hb dX0_init_5 (by decide) ?_
  refine pzG (C := RX0) (T := TX0) (N := 16) (ty := .int) (ws1 := ([(h, .inr (0, [.int 0, .int (nI 10), .int 0, .int 0, .int 0, .int 0, .int 0, .int 0, .int 0, .null, .null, .null, .null, .null, .null, .null]))] : va_W)) B hz hinX0 tyX0_ok nmX0 0 rfl rfl 1 (by decide) lk9 rfl rfl (by decide +kernel) rfl rfl (Nat.le_of_ble_eq_true rfl) rfl dX0_init_7 (fun H locs hz => ?_)
  refine lv_aload_n hx hb dX0_init_10 rfl (lv_at hl 0 rfl) ?_
  refine lv_iconst (v := (nI 1)) hx hb dX0_init_11 (by decide) ?_
  refine pzG (C := RX0) (T := TX0) (N := 16) (ty := .int) (ws1 := ([(h, .inr (0, [.int 0, .int (nI 10), .int (nI 1), .int 0, .int 0, .int 0, .int 0, .int 0, .int 0, .null, .null, .null, .null, .null, .null, .null]))] : va_W)) B hz hinX0 tyX0_ok nmX0 0 rfl rfl 2 (by decide) lk15 rfl rfl (by decide +kernel) rfl rfl (Nat.le_of_ble_eq_true rfl) rfl dX0_init_12 (fun H locs hz => ?_)
  refine lv_aload_n hx hb dX0_init_15 rfl (lv_at hl 0 rfl) ?_
  refine lv_iconst (v := (-1)) hx hb dX0_init_16 (by decide) ?_
  refine pzG (C := RX0) (T := TX0) (N := 16) (ty := .int) (ws1 := ([(h, .inr (0, [.int 0, .int (nI 10), .int (nI 1), .int 0, .int 0, .int 0, .int (-1), .int 0, .int 0, .null, .null, .null, .null, .null, .null, .null]))] : va_W)) B hz hinX0 tyX0_ok nmX0 0 rfl rfl 6 (by decide) lk18 rfl rfl (by decide +kernel) rfl rfl (Nat.le_of_ble_eq_true rfl) rfl dX0_init_17 (fun H locs hz => ?_)
  refine lv_aload_n hx hb dX0_init_20 rfl (lv_at hl 0 rfl) ?_
  refine lv_iconst (v := (-1)) hx hb dX0_init_21 (by decide) ?_
  refine pzG (C := RX0) (T := TX0) (N := 16) (ty := .int) (ws1 := ([(h, .inr (0, [.int 0, .int (nI 10), .int (nI 1), .int 0, .int 0, .int 0, .int (-1), .int (-1), .int 0, .null, .null, .null, .null, .null, .null, .null]))] : va_W)) B hz hinX0 tyX0_ok nmX0 0 rfl rfl 7 (by decide) lk21 rfl rfl (by decide +kernel) rfl rfl (Nat.le_of_ble_eq_true rfl) rfl dX0_init_22 (fun H locs hz => ?_)
  refine lv_aload_n hx hb dX0_init_25 rfl (lv_at hl 0 rfl) ?_
  refine lv_iconst (v := (-1)) hx hb dX0_init_26 (by decide) ?_
  refine pzG (C := RX0) (T := TX0) (N := 16) (ty := .int) (ws1 := ([(h, .inr (0, [.int 0, .int (nI 10), .int (nI 1), .int 0, .int 0, .int 0, .int (-1), .int (-1), .int (-1), .null, .null, .null, .null, .null, .null, .null]))] : va_W)) B hz hinX0 tyX0_ok nmX0 0 rfl rfl 8 (by decide) lk24 rfl rfl (by decide +kernel) rfl rfl (Nat.le_of_ble_eq_true rfl) rfl dX0_init_27 (fun H locs hz => ?_)
  refine lv_aload_n hx hb dX0_init_30 rfl (lv_at hl 0 rfl) ?_
  refine lv_iconst (v := (nI 5)) hx hb dX0_init_31 (by decide) ?_
  refine nzI B hz hA (by decide +kernel) (by decide) (Nat.le_of_ble_eq_true rfl) (Nat.le_of_ble_eq_true rfl) dX0_init_32 (fun q1 H hz => ?_)
  replace hz := hz.cast (w' := ([(h, .inr (0, [.int 0, .int (nI 10), .int (nI 1), .int 0, .int 0, .int 0, .int (-1), .int (-1), .int (-1), .null, .null, .null, .null, .null, .null, .null])), (q1, .inl (cI, 5, .inl (fun _ => 0)))] : va_W)) rfl
  refine W.widen (k := 1) (n := 5) (Nat.le_of_ble_eq_true rfl) (Nat.le_of_ble_eq_true rfl) ?_
  refine pzF (C := RX0) (T := TX0) (N := 16) (ty := .array .int) (ws1 := ([(h, .inr (0, [.int 0, .int (nI 10), .int (nI 1), .int 0, .int 0, .int 0, .int (-1), .int (-1), .int (-1), .ref q1, .null, .null, .null, .null, .null, .null])), (q1, .inl (cI, 5, .inl (fun _ => 0)))] : va_W)) B hin2 hz hinX0 tyX0_ok nmX0 0 rfl rfl 9 (by decide) lk27 rfl rfl rfl (by decide +kernel) rfl rfl (Nat.le_of_ble_eq_true rfl) rfl dX0_init_34 (fun H locs hz => ?_)
  refine lv_aload_n hx hb dX0_init_37 rfl (lv_at hl 0 rfl) ?_
  refine lv_iconst (v := (nI 5)) hx hb dX0_init_38 (by decide) ?_
  refine nzI B hz hA (by decide +kernel) (by decide) (Nat.le_of_ble_eq_true rfl) (Nat.le_of_ble_eq_true rfl) dX0_init_39 (fun q2 H hz => ?_)
  replace hz := hz.cast (w' := ([(h, .inr (0, [.int 0, .int (nI 10), .int (nI 1), .int 0, .int 0, .int 0, .int (-1), .int (-1), .int (-1), .ref q1, .null, .null, .null, .null, .null, .null])), (q1, .inl (cI, 5, .inl (fun _ => 0))), (q2, .inl (cI, 5, .inl (fun _ => 0)))] : va_W)) rfl
  refine W.widen (k := 2) (n := 10) (Nat.le_of_ble_eq_true rfl) (Nat.le_of_ble_eq_true rfl) ?_
  refine pzF (C := RX0) (T := TX0) (N := 16) (ty := .array .int) (ws1 := ([(h, .inr (0, [.int 0, .int (nI 10), .int (nI 1), .int 0, .int 0, .int 0, .int (-1), .int (-1), .int (-1), .ref q1, .ref q2, .null, .null, .null, .null, .null])), (q1, .inl (cI, 5, .inl (fun _ => 0))), (q2, .inl (cI, 5, .inl (fun _ => 0)))] : va_W)) B hin2 hz hinX0 tyX0_ok nmX0 0 rfl rfl 10 (by decide) lk31 rfl rfl rfl (by decide +kernel) rfl rfl (Nat.le_of_ble_eq_true rfl) rfl dX0_init_41 (fun H locs hz => ?_)
  refine lv_aload_n hx hb dX0_init_44 rfl (lv_at hl 0 rfl) ?_
  refine lv_iconst (v := (nI 5)) hx hb dX0_init_45 (by decide) ?_
  refine nzI B hz hA (by decide +kernel) (by decide) (Nat.le_of_ble_eq_true rfl) (Nat.le_of_ble_eq_true rfl) dX0_init_46 (fun q3 H hz => ?_)
  replace hz := hz.cast (w' := ([(h, .inr (0, [.int 0, .int (nI 10), .int (nI 1), .int 0, .int 0, .int 0, .int (-1), .int (-1), .int (-1), .ref q1, .ref q2, .null, .null, .null, .null, .null])), (q1, .inl (cI, 5, .inl (fun _ => 0))), (q2, .inl (cI, 5, .inl (fun _ => 0))), (q3, .inl (cI, 5, .inl (fun _ => 0)))] : va_W)) rfl
  refine W.widen (k := 3) (n := 15) (Nat.le_of_ble_eq_true rfl) (Nat.le_of_ble_eq_true rfl) ?_
  refine pzF (C := RX0) (T := TX0) (N := 16) (ty := .array .int) (ws1 := ([(h, .inr (0, [.int 0, .int (nI 10), .int (nI 1), .int 0, .int 0, .int 0, .int (-1), .int (-1), .int (-1), .ref q1, .ref q2, .ref q3, .null, .null, .null, .null])), (q1, .inl (cI, 5, .inl (fun _ => 0))), (q2, .inl (cI, 5, .inl (fun _ => 0))), (q3, .inl (cI, 5, .inl (fun _ => 0)))] : va_W)) B hin2 hz hinX0 tyX0_ok nmX0 0 rfl rfl 11 (by decide) lk34 rfl rfl rfl (by decide +kernel) rfl rfl (Nat.le_of_ble_eq_true rfl) rfl dX0_init_48 (fun H locs hz => ?_)
  refine lv_aload_n hx hb dX0_init_51 rfl (lv_at hl 0 rfl) ?_
  refine lv_sipush (v := (nI 200)) hx hb dX0_init_52 (by decide) ?_
  refine nzI B hz hA (by decide +kernel) (by decide) (Nat.le_of_ble_eq_true rfl) (Nat.le_of_ble_eq_true rfl) dX0_init_55 (fun q4 H hz => ?_)
  replace hz := hz.cast (w' := ([(h, .inr (0, [.int 0, .int (nI 10), .int (nI 1), .int 0, .int 0, .int 0, .int (-1), .int (-1), .int (-1), .ref q1, .ref q2, .ref q3, .null, .null, .null, .null])), (q1, .inl (cI, 5, .inl (fun _ => 0))), (q2, .inl (cI, 5, .inl (fun _ => 0))), (q3, .inl (cI, 5, .inl (fun _ => 0))), (q4, .inl (cI, 200, .inl (fun _ => 0)))] : va_W)) rfl
  refine W.widen (k := 4) (n := 215) (Nat.le_of_ble_eq_true rfl) (Nat.le_of_ble_eq_true rfl) ?_
  refine pzF (C := RX0) (T := TX0) (N := 16) (ty := .array .int) (ws1 := ([(h, .inr (0, [.int 0, .int (nI 10), .int (nI 1), .int 0, .int 0, .int 0, .int (-1), .int (-1), .int (-1), .ref q1, .ref q2, .ref q3, .ref q4, .null, .null, .null])), (q1, .inl (cI, 5, .inl (fun _ => 0))), (q2, .inl (cI, 5, .inl (fun _ => 0))), (q3, .inl (cI, 5, .inl (fun _ => 0))), (q4, .inl (cI, 200, .inl (fun _ => 0)))] : va_W)) B hin2 hz hinX0 tyX0_ok nmX0 0 rfl rfl 12 (by decide) lk37 rfl rfl rfl (by decide +kernel) rfl rfl (Nat.le_of_ble_eq_true rfl) rfl dX0_init_57 (fun H locs hz => ?_)
  refine lv_aload_n hx hb dX0_init_60 rfl (lv_at hl 0 rfl) ?_
  refine lv_sipush (v := (nI 200)) hx hb dX0_init_61 (by decide) ?_
  refine nzI B hz hA (by decide +kernel) (by decide) (Nat.le_of_ble_eq_true rfl) (Nat.le_of_ble_eq_true rfl) dX0_init_64 (fun q5 H hz => ?_)
  replace hz := hz.cast (w' := ([(h, .inr (0, [.int 0, .int (nI 10), .int (nI 1), .int 0, .int 0, .int 0, .int (-1), .int (-1), .int (-1), .ref q1, .ref q2, .ref q3, .ref q4, .null, .null, .null])), (q1, .inl (cI, 5, .inl (fun _ => 0))), (q2, .inl (cI, 5, .inl (fun _ => 0))), (q3, .inl (cI, 5, .inl (fun _ => 0))), (q4, .inl (cI, 200, .inl (fun _ => 0))), (q5, .inl (cI, 200, .inl (fun _ => 0)))] : va_W)) rfl
  refine W.widen (k := 5) (n := 415) (Nat.le_of_ble_eq_true rfl) (Nat.le_of_ble_eq_true rfl) ?_
  refine pzF (C := RX0) (T := TX0) (N := 16) (ty := .array .int) (ws1 := ([(h, .inr (0, [.int 0, .int (nI 10), .int (nI 1), .int 0, .int 0, .int 0, .int (-1), .int (-1), .int (-1), .ref q1, .ref q2, .ref q3, .ref q4, .ref q5, .null, .null])), (q1, .inl (cI, 5, .inl (fun _ => 0))), (q2, .inl (cI, 5, .inl (fun _ => 0))), (q3, .inl (cI, 5, .inl (fun _ => 0))), (q4, .inl (cI, 200, .inl (fun _ => 0))), (q5, .inl (cI, 200, .inl (fun _ => 0)))] : va_W)) B hin2 hz hinX0 tyX0_ok nmX0 0 rfl rfl 13 (by decide) lk40 rfl rfl rfl (by decide +kernel) rfl rfl (Nat.le_of_ble_eq_true rfl) rfl dX0_init_66 (fun H locs hz => ?_)
  refine lv_aload_n hx hb dX0_init_69 rfl (lv_at hl 0 rfl) ?_
  refine lv_sipush (v := (nI 200)) hx hb dX0_init_70 (by decide) ?_
  refine nzI B hz hA (by decide +kernel) (by decide) (Nat.le_of_ble_eq_true rfl) (Nat.le_of_ble_eq_true rfl) dX0_init_73 (fun q6 H hz => ?_)
  replace hz := hz.cast (w' := ([(h, .inr (0, [.int 0, .int (nI 10), .int (nI 1), .int 0, .int 0, .int 0, .int (-1), .int (-1), .int (-1), .ref q1, .ref q2, .ref q3, .ref q4, .ref q5, .null, .null])), (q1, .inl (cI, 5, .inl (fun _ => 0))), (q2, .inl (cI, 5, .inl (fun _ => 0))), (q3, .inl (cI, 5, .inl (fun _ => 0))), (q4, .inl (cI, 200, .inl (fun _ => 0))), (q5, .inl (cI, 200, .inl (fun _ => 0))), (q6, .inl (cI, 200, .inl (fun _ => 0)))] : va_W)) rfl
  refine W.widen (k := 6) (n := 615) (Nat.le_of_ble_eq_true rfl) (Nat.le_of_ble_eq_true rfl) ?_
  refine pzF (C := RX0) (T := TX0) (N := 16) (ty := .array .int) (ws1 := ([(h, .inr (0, [.int 0, .int (nI 10), .int (nI 1), .int 0, .int 0, .int 0, .int (-1), .int (-1), .int (-1), .ref q1, .ref q2, .ref q3, .ref q4, .ref q5, .ref q6, .null])), (q1, .inl (cI, 5, .inl (fun _ => 0))), (q2, .inl (cI, 5, .inl (fun _ => 0))), (q3, .inl (cI, 5, .inl (fun _ => 0))), (q4, .inl (cI, 200, .inl (fun _ => 0))), (q5, .inl (cI, 200, .inl (fun _ => 0))), (q6, .inl (cI, 200, .inl (fun _ => 0)))] : va_W)) B hin2 hz hinX0 tyX0_ok nmX0 0 rfl rfl 14 (by decide) lk43 rfl rfl rfl (by decide +kernel) rfl rfl (Nat.le_of_ble_eq_true rfl) rfl dX0_init_75 (fun H locs hz => ?_)
  refine lv_aload_n hx hb dX0_init_78 rfl (lv_at hl 0 rfl) ?_
  refine lv_bipush (v := (nI 8)) hx hb dX0_init_79 (by decide) ?_
  refine nzI B hz hA (by decide +kernel) (by decide) (Nat.le_of_ble_eq_true rfl) (Nat.le_of_ble_eq_true rfl) dX0_init_81 (fun q7 H hz => ?_)
  replace hz := hz.cast (w' := ([(h, .inr (0, [.int 0, .int (nI 10), .int (nI 1), .int 0, .int 0, .int 0, .int (-1), .int (-1), .int (-1), .ref q1, .ref q2, .ref q3, .ref q4, .ref q5, .ref q6, .null])), (q1, .inl (cI, 5, .inl (fun _ => 0))), (q2, .inl (cI, 5, .inl (fun _ => 0))), (q3, .inl (cI, 5, .inl (fun _ => 0))), (q4, .inl (cI, 200, .inl (fun _ => 0))), (q5, .inl (cI, 200, .inl (fun _ => 0))), (q6, .inl (cI, 200, .inl (fun _ => 0))), (q7, .inl (cI, 8, .inl (fun _ => 0)))] : va_W)) rfl
  refine W.widen (k := 7) (n := 623) (Nat.le_of_ble_eq_true rfl) (Nat.le_of_ble_eq_true rfl) ?_
  refine pzF (C := RX0) (T := TX0) (N := 16) (ty := .array .int) (ws1 := ([(h, .inr (0, [.int 0, .int (nI 10), .int (nI 1), .int 0, .int 0, .int 0, .int (-1), .int (-1), .int (-1), .ref q1, .ref q2, .ref q3, .ref q4, .ref q5, .ref q6, .ref q7])), (q1, .inl (cI, 5, .inl (fun _ => 0))), (q2, .inl (cI, 5, .inl (fun _ => 0))), (q3, .inl (cI, 5, .inl (fun _ => 0))), (q4, .inl (cI, 200, .inl (fun _ => 0))), (q5, .inl (cI, 200, .inl (fun _ => 0))), (q6, .inl (cI, 200, .inl (fun _ => 0))), (q7, .inl (cI, 8, .inl (fun _ => 0)))] : va_W)) B hin2 hz hinX0 tyX0_ok nmX0 0 rfl rfl 15 (by decide) lk46 rfl rfl rfl (by decide +kernel) rfl rfl (Nat.le_of_ble_eq_true rfl) rfl dX0_init_83 (fun H locs hz => ?_)
  refine lv_aload_n hx hb dX0_init_86 rfl (lv_at hl 0 rfl) ?_
  refine gzG (C := RX0) (T := TX0) (N := 16) (v := .ref q1) B hz hinX0 0 rfl rfl 9 (by decide) lk27 rfl rfl dX0_init_87 ?_
  refine lv_sipush (v := (nI 255)) hx hb dX0_init_90 (by decide) ?_
  refine cz_runG (o := none) (wr := ([(h, .inr (0, [.int 0, .int (nI 10), .int (nI 1), .int 0, .int 0, .int 0, .int (-1), .int (-1), .int (-1), .ref q1, .ref q2, .ref q3, .ref q4, .ref q5, .ref q6, .ref q7])), (q2, .inl (cI, 5, .inl (fun _ => 0))), (q3, .inl (cI, 5, .inl (fun _ => 0))), (q4, .inl (cI, 200, .inl (fun _ => 0))), (q5, .inl (cI, 200, .inl (fun _ => 0))), (q6, .inl (cI, 200, .inl (fun _ => 0))), (q7, .inl (cI, 8, .inl (fun _ => 0)))] : va_W)) (ws1 := ([(h, .inr (0, [.int 0, .int (nI 10), .int (nI 1), .int 0, .int 0, .int 0, .int (-1), .int (-1), .int (-1), .ref q1, .ref q2, .ref q3, .ref q4, .ref q5, .ref q6, .ref q7])), (q1, .inl (cI, 5, .inl (fil (fun _ => 0) (nI 255) 5 5))), (q2, .inl (cI, 5, .inl (fun _ => 0))), (q3, .inl (cI, 5, .inl (fun _ => 0))), (q4, .inl (cI, 200, .inl (fun _ => 0))), (q5, .inl (cI, 200, .inl (fun _ => 0))), (q6, .inl (cI, 200, .inl (fun _ => 0))), (q7, .inl (cI, 8, .inl (fun _ => 0)))] : va_W)) (run_SG (A := A) (As := [.ref q1, .int (nI 255)]) (rest := []) (n := 2) B (c_J7_fill_53178 l D cI cN q1 5 (fun _ => 0) (nI 255) (by decide)) gX0_init_J7_fill_53178 rfl hd_J7_fill_53178 (by decide) ⟨Nat.le_of_ble_eq_true rfl, Nat.le_of_ble_eq_true rfl⟩ (hz.1.sub [1] rfl) (hz.2.1.sub [1] (by decide) rfl) rfl hl.1 rfl (Nat.le_of_ble_eq_true rfl) dX0_init_93) hz hA [1] [0, 2, 3, 4, 5, 6, 7] [0, 7, 1, 2, 3, 4, 5, 6] rfl rfl (by decide) (by decide) (by decide) rfl (fun H locs hz => ?_)
  refine lv_aload_n hx hb dX0_init_96 rfl (lv_at hl 0 rfl) ?_
  refine gzG (C := RX0) (T := TX0) (N := 16) (v := .ref q3) B hz hinX0 0 rfl rfl 11 (by decide) lk34 rfl rfl dX0_init_97 ?_
  refine lv_iconst (v := (-1)) hx hb dX0_init_100 (by decide) ?_
  refine cz_runG (o := none) (wr := ([(h, .inr (0, [.int 0, .int (nI 10), .int (nI 1), .int 0, .int 0, .int 0, .int (-1), .int (-1), .int (-1), .ref q1, .ref q2, .ref q3, .ref q4, .ref q5, .ref q6, .ref q7])), (q1, .inl (cI, 5, .inl (fil (fun _ => 0) (nI 255) 5 5))), (q2, .inl (cI, 5, .inl (fun _ => 0))), (q4, .inl (cI, 200, .inl (fun _ => 0))), (q5, .inl (cI, 200, .inl (fun _ => 0))), (q6, .inl (cI, 200, .inl (fun _ => 0))), (q7, .inl (cI, 8, .inl (fun _ => 0)))] : va_W)) (ws1 := ([(h, .inr (0, [.int 0, .int (nI 10), .int (nI 1), .int 0, .int 0, .int 0, .int (-1), .int (-1), .int (-1), .ref q1, .ref q2, .ref q3, .ref q4, .ref q5, .ref q6, .ref q7])), (q1, .inl (cI, 5, .inl (fil (fun _ => 0) (nI 255) 5 5))), (q2, .inl (cI, 5, .inl (fun _ => 0))), (q3, .inl (cI, 5, .inl (fil (fun _ => 0) (-1) 5 5))), (q4, .inl (cI, 200, .inl (fun _ => 0))), (q5, .inl (cI, 200, .inl (fun _ => 0))), (q6, .inl (cI, 200, .inl (fun _ => 0))), (q7, .inl (cI, 8, .inl (fun _ => 0)))] : va_W)) (run_SG (A := A) (As := [.ref q3, .int (-1)]) (rest := []) (n := 2) B (c_J7_fill_53178 l D cI cN q3 5 (fun _ => 0) (-1) (by decide)) gX0_init_J7_fill_53178 rfl hd_J7_fill_53178 (by decide) ⟨Nat.le_of_ble_eq_true rfl, Nat.le_of_ble_eq_true rfl⟩ (hz.1.sub [3] rfl) (hz.2.1.sub [3] (by decide) rfl) rfl hl.1 rfl (Nat.le_of_ble_eq_true rfl) dX0_init_101) hz hA [3] [0, 1, 2, 4, 5, 6, 7] [0, 1, 2, 7, 3, 4, 5, 6] rfl rfl (by decide) (by decide) (by decide) rfl (fun H locs hz => ?_)
  refine lv_aload_n hx hb dX0_init_104 rfl (lv_at hl 0 rfl) ?_
  refine gzG (C := RX0) (T := TX0) (N := 16) (v := .ref q4) B hz hinX0 0 rfl rfl 12 (by decide) lk37 rfl rfl dX0_init_105 ?_
  refine lv_bipush (v := (nI 15)) hx hb dX0_init_108 (by decide) ?_
  refine cz_runG (o := none) (wr := ([(h, .inr (0, [.int 0, .int (nI 10), .int (nI 1), .int 0, .int 0, .int 0, .int (-1), .int (-1), .int (-1), .ref q1, .ref q2, .ref q3, .ref q4, .ref q5, .ref q6, .ref q7])), (q1, .inl (cI, 5, .inl (fil (fun _ => 0) (nI 255) 5 5))), (q2, .inl (cI, 5, .inl (fun _ => 0))), (q3, .inl (cI, 5, .inl (fil (fun _ => 0) (-1) 5 5))), (q5, .inl (cI, 200, .inl (fun _ => 0))), (q6, .inl (cI, 200, .inl (fun _ => 0))), (q7, .inl (cI, 8, .inl (fun _ => 0)))] : va_W)) (ws1 := ([(h, .inr (0, [.int 0, .int (nI 10), .int (nI 1), .int 0, .int 0, .int 0, .int (-1), .int (-1), .int (-1), .ref q1, .ref q2, .ref q3, .ref q4, .ref q5, .ref q6, .ref q7])), (q1, .inl (cI, 5, .inl (fil (fun _ => 0) (nI 255) 5 5))), (q2, .inl (cI, 5, .inl (fun _ => 0))), (q3, .inl (cI, 5, .inl (fil (fun _ => 0) (-1) 5 5))), (q4, .inl (cI, 200, .inl (fil (fun _ => 0) (nI 15) 200 200))), (q5, .inl (cI, 200, .inl (fun _ => 0))), (q6, .inl (cI, 200, .inl (fun _ => 0))), (q7, .inl (cI, 8, .inl (fun _ => 0)))] : va_W)) (run_SG (A := A) (As := [.ref q4, .int (nI 15)]) (rest := []) (n := 2) B (c_J7_fill_53178 l D cI cN q4 200 (fun _ => 0) (nI 15) (by decide)) gX0_init_J7_fill_53178 rfl hd_J7_fill_53178 (by decide) ⟨Nat.le_of_ble_eq_true rfl, Nat.le_of_ble_eq_true rfl⟩ (hz.1.sub [4] rfl) (hz.2.1.sub [4] (by decide) rfl) rfl hl.1 rfl (Nat.le_of_ble_eq_true rfl) dX0_init_110) hz hA [4] [0, 1, 2, 3, 5, 6, 7] [0, 1, 2, 3, 7, 4, 5, 6] rfl rfl (by decide) (by decide) (by decide) rfl (fun H locs hz => ?_)
  refine lv_aload_n hx hb dX0_init_113 rfl (lv_at hl 0 rfl) ?_
  refine gzG (C := RX0) (T := TX0) (N := 16) (v := .ref q5) B hz hinX0 0 rfl rfl 13 (by decide) lk40 rfl rfl dX0_init_114 ?_
  refine lv_iconst (v := (-1)) hx hb dX0_init_117 (by decide) ?_
  refine cz_runG (o := none) (wr := ([(h, .inr (0, [.int 0, .int (nI 10), .int (nI 1), .int 0, .int 0, .int 0, .int (-1), .int (-1), .int (-1), .ref q1, .ref q2, .ref q3, .ref q4, .ref q5, .ref q6, .ref q7])), (q1, .inl (cI, 5, .inl (fil (fun _ => 0) (nI 255) 5 5))), (q2, .inl (cI, 5, .inl (fun _ => 0))), (q3, .inl (cI, 5, .inl (fil (fun _ => 0) (-1) 5 5))), (q4, .inl (cI, 200, .inl (fil (fun _ => 0) (nI 15) 200 200))), (q6, .inl (cI, 200, .inl (fun _ => 0))), (q7, .inl (cI, 8, .inl (fun _ => 0)))] : va_W)) (ws1 := ([(h, .inr (0, [.int 0, .int (nI 10), .int (nI 1), .int 0, .int 0, .int 0, .int (-1), .int (-1), .int (-1), .ref q1, .ref q2, .ref q3, .ref q4, .ref q5, .ref q6, .ref q7])), (q1, .inl (cI, 5, .inl (fil (fun _ => 0) (nI 255) 5 5))), (q2, .inl (cI, 5, .inl (fun _ => 0))), (q3, .inl (cI, 5, .inl (fil (fun _ => 0) (-1) 5 5))), (q4, .inl (cI, 200, .inl (fil (fun _ => 0) (nI 15) 200 200))), (q5, .inl (cI, 200, .inl (fil (fun _ => 0) (-1) 200 200))), (q6, .inl (cI, 200, .inl (fun _ => 0))), (q7, .inl (cI, 8, .inl (fun _ => 0)))] : va_W)) (run_SG (A := A) (As := [.ref q5, .int (-1)]) (rest := []) (n := 2) B (c_J7_fill_53178 l D cI cN q5 200 (fun _ => 0) (-1) (by decide)) gX0_init_J7_fill_53178 rfl hd_J7_fill_53178 (by decide) ⟨Nat.le_of_ble_eq_true rfl, Nat.le_of_ble_eq_true rfl⟩ (hz.1.sub [5] rfl) (hz.2.1.sub [5] (by decide) rfl) rfl hl.1 rfl (Nat.le_of_ble_eq_true rfl) dX0_init_118) hz hA [5] [0, 1, 2, 3, 4, 6, 7] [0, 1, 2, 3, 4, 7, 5, 6] rfl rfl (by decide) (by decide) (by decide) rfl (fun H locs hz => ?_)
  exact rzI B hr hz dX0_init_121 ⟨fun k => match k with | 0 => h | 1 => q1 | 2 => q2 | 3 => q3 | 4 => q4 | 5 => q5 | 6 => q6 | _ => q7, rfl, by
    unfold nW
    rw [← seg_fil fi_scan, ← seg_0 fi_link, ← seg_fil fi_on, ← seg_fil fi_q, ← seg_fil fi_sc, ← seg_0 fi_st]
    rfl⟩
