def fI0 : Sz := upd (upd (upd (upd (upd (fun _ => 0) 1 (nI 1)) 2 (nI 10)) 6 (-1)) 7 (-1)) 8 (-1)
def fI5 : Nat → Sz
  | 0 => fI0
  | i + 1 => upd (upd (fI5 i) (9 + i) (nI 255)) (19 + i) (-1)
def fI2 : Nat → Sz
  | 0 => fI5 5
  | i + 1 => upd (upd (fI2 i) (24 + i) (nI 15)) (224 + i) (-1)
theorem fI5_c (k : Nat) : ∀ i, i ≤ 5 → fI5 i k = if 9 ≤ k ∧ k < 9 + i then nI 255 else if 19 ≤ k ∧ k < 19 + i then -1 else fI0 k
  | 0, _ => by rw [if_neg (by omega), if_neg (by omega)]; rfl
  | i + 1, hi => by
    have ih := fI5_c k i (by omega)
    show upd (upd (fI5 i) (9 + i) (nI 255)) (19 + i) (-1) k = _
    by_cases h1 : k = 19 + i
    · subst h1; rw [pk_us, if_neg (by omega), if_pos (by omega)]
    · rw [pk_un h1]
      by_cases h2 : k = 9 + i
      · subst h2; rw [pk_us, if_pos (by omega)]
      · rw [pk_un h2, ih]
        by_cases a : 9 ≤ k ∧ k < 9 + i
        · rw [if_pos a, if_pos (by omega)]
        · rw [if_neg a, if_neg (show ¬ (9 ≤ k ∧ k < 9 + (i + 1)) by omega)]
          by_cases b : 19 ≤ k ∧ k < 19 + i
          · rw [if_pos b, if_pos (by omega)]
          · rw [if_neg b, if_neg (by omega)]
theorem fI2_c (k : Nat) : ∀ i, i ≤ 200 → fI2 i k = if 24 ≤ k ∧ k < 24 + i then nI 15 else if 224 ≤ k ∧ k < 224 + i then -1 else fI5 5 k
  | 0, _ => by rw [if_neg (by omega), if_neg (by omega)]; rfl
  | i + 1, hi => by
    have ih := fI2_c k i (by omega)
    show upd (upd (fI2 i) (24 + i) (nI 15)) (224 + i) (-1) k = _
    by_cases h1 : k = 224 + i
    · subst h1; rw [pk_us, if_neg (by omega), if_pos (by omega)]
    · rw [pk_un h1]
      by_cases h2 : k = 24 + i
      · subst h2; rw [pk_us, if_pos (by omega)]
      · rw [pk_un h2, ih]
        by_cases a : 24 ≤ k ∧ k < 24 + i
        · rw [if_pos a, if_pos (by omega)]
        · rw [if_neg a, if_neg (show ¬ (24 ≤ k ∧ k < 24 + (i + 1)) by omega)]
          by_cases b : 224 ≤ k ∧ k < 224 + i
          · rw [if_pos b, if_pos (by omega)]
          · rw [if_neg b, if_neg (by omega)]
theorem fI0_c (k : Nat) : fI0 k = if k = 1 then nI 1 else if k = 2 then nI 10 else if 6 ≤ k ∧ k < 9 then -1 else 0 := by
  unfold fI0
  by_cases h8 : k = 8
  · subst h8; rfl
  rw [pk_un h8]
  by_cases h7 : k = 7
  · subst h7; rfl
  rw [pk_un h7]
  by_cases h6 : k = 6
  · subst h6; rfl
  rw [pk_un h6]
  by_cases h2 : k = 2
  · subst h2; rfl
  rw [pk_un h2]
  by_cases h1 : k = 1
  · subst h1; rfl
  rw [pk_un h1, if_neg h1, if_neg h2, if_neg (by omega)]
theorem fI_fin : fI2 200 = fInit := by
  funext k
  rw [fI2_c k 200 (Nat.le_refl _), fI5_c k 5 (Nat.le_refl _), fI0_c k]
  unfold fInit
  by_cases h1 : k = 1
  · subst h1; rfl
  by_cases h2 : k = 2
  · subst h2; rfl
  by_cases h3 : 6 ≤ k ∧ k < 9
  · rw [if_neg (by omega), if_neg (by omega), if_neg (by omega), if_neg (by omega), if_neg h1, if_neg h2, if_pos h3, if_neg h1, if_neg h2, if_pos h3]
  by_cases h4 : 9 ≤ k ∧ k < 14
  · rw [if_neg (show ¬ (24 ≤ k ∧ k < 24 + 200) by omega), if_neg (show ¬ (224 ≤ k ∧ k < 224 + 200) by omega), if_pos (show 9 ≤ k ∧ k < 9 + 5 by omega), if_neg h1, if_neg h2, if_neg h3, if_pos h4]
  by_cases h5 : 19 ≤ k ∧ k < 24
  · rw [if_neg (show ¬ (24 ≤ k ∧ k < 24 + 200) by omega), if_neg (show ¬ (224 ≤ k ∧ k < 224 + 200) by omega), if_neg (show ¬ (9 ≤ k ∧ k < 9 + 5) by omega), if_pos (show 19 ≤ k ∧ k < 19 + 5 by omega), if_neg h1, if_neg h2, if_neg h3, if_neg h4, if_pos h5]
  by_cases h6 : 24 ≤ k ∧ k < 224
  · rw [if_pos (show 24 ≤ k ∧ k < 24 + 200 by omega), if_neg h1, if_neg h2, if_neg h3, if_neg h4, if_neg h5, if_pos h6]
  by_cases h7 : 224 ≤ k ∧ k < 424
  · rw [if_neg (show ¬ (24 ≤ k ∧ k < 24 + 200) by omega), if_pos (show 224 ≤ k ∧ k < 224 + 200 by omega), if_neg h1, if_neg h2, if_neg h3, if_neg h4, if_neg h5, if_neg h6, if_pos h7]
  · rw [if_neg (show ¬ (24 ≤ k ∧ k < 24 + 200) by omega), if_neg (show ¬ (224 ≤ k ∧ k < 224 + 200) by omega), if_neg (show ¬ (9 ≤ k ∧ k < 9 + 5) by omega), if_neg (show ¬ (19 ≤ k ∧ k < 19 + 5) by omega), if_neg h1, if_neg h2, if_neg h3, if_neg h1, if_neg h2, if_neg h3, if_neg h4, if_neg h5, if_neg h6, if_neg h7]
theorem Hz.re {D : va_G} {A : Nat → Prop} {H0 H : Heap} {locs : List Loc} {ws ws1 : va_W} (h : Hz D A H0 H locs ws) (is : List Nat) (hn : va_nd is = true) (hs : is.map (fun i => ws[i]?) = ws1.map some) : Hz D A H0 H locs ws1 := ⟨h.1.sub is (fm_map _ _ _ hs), h.2.1.sub is hn hs, h.2.2⟩
theorem Hz.sw {D : va_G} {A : Nat → Prop} {H0 H : Heap} {locs : List Loc} {ws ws1 : va_W} {a n k : Nat} {cN : ClassId} {f g : Nat → Option Nat} (h : Hz D A H0 H locs ws) (hk : ws[k]? = some (a, .inl (cN, n, .inr (.inr (.inr (.inr f)))))) (hfg : ∀ j, j < n → f j = g j) (hs : ws.set k (a, .inl (cN, n, .inr (.inr (.inr (.inr g))))) = ws1) : Hz D A H0 H locs ws1 := by
  subst hs
  have e : vp_cell cN (n, .inr (.inr (.inr (.inr f)))) = vp_cell cN (n, .inr (.inr (.inr (.inr g)))) := by
    rw [vp_cell_q, vp_cell_q]
    unfold arrV
    congr 1
    apply Array.ext
    · simp
    · intro i h1 h2
      simp only [Array.size_ofFn] at h1
      simp [hfg i h1]
  refine ⟨h.1.set h.2.1 hk ?_ (fun _ _ => rfl), h.2.1.set hk, h.2.2⟩
  have := h.1 k _ hk
  show H[a]? = some (vp_cell cN (n, .inr (.inr (.inr (.inr g)))))
  rw [← e]
  exact this
theorem hd_X2_init : hdZ yX2_init 0 := by decide +kernel
set_option maxRecDepth 100000 in
set_option maxHeartbeats 4000000 in
theorem c_X2_init (l : Launch) (D : va_G) (cI cN : ClassId) (h : Nat) : FnI l D cI cN yX2_init wsX2_init ({ frames := 1, cells := 5, slots := 3138, locals := 60 } : Room) 5 3138 ([(h, .inr (2, [.null, .null, .int 0, .null, .null, .null, .long 0]))] : va_W) [.ref h] (fun w => ∃ a : Nat → Nat, a 0 = h ∧ w = mW cI a fInit fZero 0 fZero fZero fZero 0) := by
  refine FnI.of (cc := cX2_init) (nL := 2) (lv := [(0, .ref h)]) (by decide +kernel) rfl rfl (Nat.le_of_ble_eq_true rfl) rfl ?_
  intro p e s_ m args below meth c A B hO hin2 hr hA H locs ls hz hl
  have hx := B.1.1
  have hb := B.1.2.1
  have hinX2 : ∀ w ∈ u_ws RX2 TX2 7, w ∈ wsX2_init := by decide +kernel
  have lk7 : Cond.fieldLink yX2_init.cls 7 RX2 (TX2 0).2.1 (TX2 0).2.2.1 ∈ wsX2_init := by decide +kernel
  have lk13 : Cond.fieldLink yX2_init.cls 13 RX2 (TX2 1).2.1 (TX2 1).2.2.1 ∈ wsX2_init := by decide +kernel
  have lk16 : Cond.fieldLink yX2_init.cls 16 RX2 (TX2 3).2.1 (TX2 3).2.2.1 ∈ wsX2_init := by decide +kernel
  have lk19 : Cond.fieldLink yX2_init.cls 19 RX2 (TX2 4).2.1 (TX2 4).2.2.1 ∈ wsX2_init := by decide +kernel
  have lk22 : Cond.fieldLink yX2_init.cls 22 RX2 (TX2 5).2.1 (TX2 5).2.2.1 ∈ wsX2_init := by decide +kernel
  refine lv_aload_n hx hb dX2_init_0 rfl (lv_at hl 0 rfl) ?_
  refine oIz (index := 1) (b := h) B (by decide +kernel) (by decide +kernel) (by decide +kernel) hl.1 (Nat.le_of_ble_eq_true rfl) (Nat.le_of_ble_eq_true rfl) dX2_init_1 ?_
  refine lv_aload_n hx hb dX2_init_4 rfl (lv_at hl 0 rfl) ?_
  refine lv_sipush (v := (nI 624)) hx hb dX2_init_5 (by decide) ?_
  refine nzI B hz hA (by decide +kernel) (by decide) (Nat.le_of_ble_eq_true rfl) (Nat.le_of_ble_eq_true rfl) dX2_init_8 (fun q1 H hz => ?_)
  replace hz := hz.cast (w' := ([(h, .inr (2, [.null, .null, .int 0, .null, .null, .null, .long 0])), (q1, .inl (cI, 624, .inl (fun _ => 0)))] : va_W)) rfl
  refine W.widen (k := 1) (n := 624) (Nat.le_of_ble_eq_true rfl) (Nat.le_of_ble_eq_true rfl) ?_
  refine pzF (C := RX2) (T := TX2) (N := 7) (ty := .array .int) (ws1 := ([(h, .inr (2, [.ref q1, .null, .int 0, .null, .null, .null, .long 0])), (q1, .inl (cI, 624, .inl (fun _ => 0)))] : va_W)) B hin2 hz hinX2 tyX2_ok nmX2 0 rfl rfl 0 (by decide) lk7 rfl rfl rfl (by decide +kernel) rfl rfl (Nat.le_of_ble_eq_true rfl) rfl dX2_init_10 (fun H locs hz => ?_)
  refine lv_aload_n hx hb dX2_init_13 rfl (lv_at hl 0 rfl) ?_
  refine lv_sipush (v := (nI 2496)) hx hb dX2_init_14 (by decide) ?_
  refine nzI B hz hA (by decide +kernel) (by decide) (Nat.le_of_ble_eq_true rfl) (Nat.le_of_ble_eq_true rfl) dX2_init_17 (fun q2 H hz => ?_)
  replace hz := hz.cast (w' := ([(h, .inr (2, [.ref q1, .null, .int 0, .null, .null, .null, .long 0])), (q1, .inl (cI, 624, .inl (fun _ => 0))), (q2, .inl (cI, 2496, .inl (fun _ => 0)))] : va_W)) rfl
  refine W.widen (k := 2) (n := 3120) (Nat.le_of_ble_eq_true rfl) (Nat.le_of_ble_eq_true rfl) ?_
  refine pzF (C := RX2) (T := TX2) (N := 7) (ty := .array .int) (ws1 := ([(h, .inr (2, [.ref q1, .ref q2, .int 0, .null, .null, .null, .long 0])), (q1, .inl (cI, 624, .inl (fun _ => 0))), (q2, .inl (cI, 2496, .inl (fun _ => 0)))] : va_W)) B hin2 hz hinX2 tyX2_ok nmX2 0 rfl rfl 1 (by decide) lk13 rfl rfl rfl (by decide +kernel) rfl rfl (Nat.le_of_ble_eq_true rfl) rfl dX2_init_19 (fun H locs hz => ?_)
  refine lv_aload_n hx hb dX2_init_22 rfl (lv_at hl 0 rfl) ?_
  refine lv_iconst (v := (nI 2)) hx hb dX2_init_23 (by decide) ?_
  refine nzI B hz hA (by decide +kernel) (by decide) (Nat.le_of_ble_eq_true rfl) (Nat.le_of_ble_eq_true rfl) dX2_init_24 (fun q3 H hz => ?_)
  replace hz := hz.cast (w' := ([(h, .inr (2, [.ref q1, .ref q2, .int 0, .null, .null, .null, .long 0])), (q1, .inl (cI, 624, .inl (fun _ => 0))), (q2, .inl (cI, 2496, .inl (fun _ => 0))), (q3, .inl (cI, 2, .inl (fun _ => 0)))] : va_W)) rfl
  refine W.widen (k := 3) (n := 3122) (Nat.le_of_ble_eq_true rfl) (Nat.le_of_ble_eq_true rfl) ?_
  refine pzF (C := RX2) (T := TX2) (N := 7) (ty := .array .int) (ws1 := ([(h, .inr (2, [.ref q1, .ref q2, .int 0, .ref q3, .null, .null, .long 0])), (q1, .inl (cI, 624, .inl (fun _ => 0))), (q2, .inl (cI, 2496, .inl (fun _ => 0))), (q3, .inl (cI, 2, .inl (fun _ => 0)))] : va_W)) B hin2 hz hinX2 tyX2_ok nmX2 0 rfl rfl 3 (by decide) lk16 rfl rfl rfl (by decide +kernel) rfl rfl (Nat.le_of_ble_eq_true rfl) rfl dX2_init_26 (fun H locs hz => ?_)
  refine lv_aload_n hx hb dX2_init_29 rfl (lv_at hl 0 rfl) ?_
  refine lv_bipush (v := (nI 8)) hx hb dX2_init_30 (by decide) ?_
  refine nzI B hz hA (by decide +kernel) (by decide) (Nat.le_of_ble_eq_true rfl) (Nat.le_of_ble_eq_true rfl) dX2_init_32 (fun q4 H hz => ?_)
  replace hz := hz.cast (w' := ([(h, .inr (2, [.ref q1, .ref q2, .int 0, .ref q3, .null, .null, .long 0])), (q1, .inl (cI, 624, .inl (fun _ => 0))), (q2, .inl (cI, 2496, .inl (fun _ => 0))), (q3, .inl (cI, 2, .inl (fun _ => 0))), (q4, .inl (cI, 8, .inl (fun _ => 0)))] : va_W)) rfl
  refine W.widen (k := 4) (n := 3130) (Nat.le_of_ble_eq_true rfl) (Nat.le_of_ble_eq_true rfl) ?_
  refine pzF (C := RX2) (T := TX2) (N := 7) (ty := .array .int) (ws1 := ([(h, .inr (2, [.ref q1, .ref q2, .int 0, .ref q3, .ref q4, .null, .long 0])), (q1, .inl (cI, 624, .inl (fun _ => 0))), (q2, .inl (cI, 2496, .inl (fun _ => 0))), (q3, .inl (cI, 2, .inl (fun _ => 0))), (q4, .inl (cI, 8, .inl (fun _ => 0)))] : va_W)) B hin2 hz hinX2 tyX2_ok nmX2 0 rfl rfl 4 (by decide) lk19 rfl rfl rfl (by decide +kernel) rfl rfl (Nat.le_of_ble_eq_true rfl) rfl dX2_init_34 (fun H locs hz => ?_)
  refine lv_aload_n hx hb dX2_init_37 rfl (lv_at hl 0 rfl) ?_
  refine lv_bipush (v := (nI 8)) hx hb dX2_init_38 (by decide) ?_
  refine nzI B hz hA (by decide +kernel) (by decide) (Nat.le_of_ble_eq_true rfl) (Nat.le_of_ble_eq_true rfl) dX2_init_40 (fun q5 H hz => ?_)
  replace hz := hz.cast (w' := ([(h, .inr (2, [.ref q1, .ref q2, .int 0, .ref q3, .ref q4, .null, .long 0])), (q1, .inl (cI, 624, .inl (fun _ => 0))), (q2, .inl (cI, 2496, .inl (fun _ => 0))), (q3, .inl (cI, 2, .inl (fun _ => 0))), (q4, .inl (cI, 8, .inl (fun _ => 0))), (q5, .inl (cI, 8, .inl (fun _ => 0)))] : va_W)) rfl
  refine W.widen (k := 5) (n := 3138) (Nat.le_of_ble_eq_true rfl) (Nat.le_of_ble_eq_true rfl) ?_
  refine pzF (C := RX2) (T := TX2) (N := 7) (ty := .array .int) (ws1 := ([(h, .inr (2, [.ref q1, .ref q2, .int 0, .ref q3, .ref q4, .ref q5, .long 0])), (q1, .inl (cI, 624, .inl (fun _ => 0))), (q2, .inl (cI, 2496, .inl (fun _ => 0))), (q3, .inl (cI, 2, .inl (fun _ => 0))), (q4, .inl (cI, 8, .inl (fun _ => 0))), (q5, .inl (cI, 8, .inl (fun _ => 0)))] : va_W)) B hin2 hz hinX2 tyX2_ok nmX2 0 rfl rfl 5 (by decide) lk22 rfl rfl rfl (by decide +kernel) rfl rfl (Nat.le_of_ble_eq_true rfl) rfl dX2_init_42 (fun H locs hz => ?_)
  refine lv_aload_n hx hb dX2_init_45 rfl (lv_at hl 0 rfl) ?_
  refine gzG (C := RX2) (T := TX2) (N := 7) (v := .ref q1) B hz hinX2 0 rfl rfl 0 (by decide) lk7 rfl rfl dX2_init_46 ?_
  refine lv_iconst (v := (nI 1)) hx hb dX2_init_49 (by decide) ?_
  refine lv_iconst (v := (nI 1)) hx hb dX2_init_50 (by decide) ?_
  refine istzG (n := 624) (j := 1) (ws1 := ([(h, .inr (2, [.ref q1, .ref q2, .int 0, .ref q3, .ref q4, .ref q5, .long 0])), (q1, .inl (cI, 624, .inl (upd (fun _ => 0) 1 (nI 1)))), (q2, .inl (cI, 2496, .inl (fun _ => 0))), (q3, .inl (cI, 2, .inl (fun _ => 0))), (q4, .inl (cI, 8, .inl (fun _ => 0))), (q5, .inl (cI, 8, .inl (fun _ => 0)))] : va_W)) B hz 1 rfl (by omega) (by decide) rfl dX2_init_51 (fun H locs hz => ?_)
  refine lv_aload_n hx hb dX2_init_52 rfl (lv_at hl 0 rfl) ?_
  refine gzG (C := RX2) (T := TX2) (N := 7) (v := .ref q1) B hz hinX2 0 rfl rfl 0 (by decide) lk7 rfl rfl dX2_init_53 ?_
  refine lv_iconst (v := (nI 2)) hx hb dX2_init_56 (by decide) ?_
  refine lv_bipush (v := (nI 10)) hx hb dX2_init_57 (by decide) ?_
  refine istzG (n := 624) (j := 2) (ws1 := ([(h, .inr (2, [.ref q1, .ref q2, .int 0, .ref q3, .ref q4, .ref q5, .long 0])), (q1, .inl (cI, 624, .inl (upd (upd (fun _ => 0) 1 (nI 1)) 2 (nI 10)))), (q2, .inl (cI, 2496, .inl (fun _ => 0))), (q3, .inl (cI, 2, .inl (fun _ => 0))), (q4, .inl (cI, 8, .inl (fun _ => 0))), (q5, .inl (cI, 8, .inl (fun _ => 0)))] : va_W)) B hz 1 rfl (by omega) (by decide) rfl dX2_init_59 (fun H locs hz => ?_)
  refine lv_aload_n hx hb dX2_init_60 rfl (lv_at hl 0 rfl) ?_
  refine gzG (C := RX2) (T := TX2) (N := 7) (v := .ref q1) B hz hinX2 0 rfl rfl 0 (by decide) lk7 rfl rfl dX2_init_61 ?_
  refine lv_bipush (v := (nI 6)) hx hb dX2_init_64 (by decide) ?_
  refine lv_iconst (v := (-1)) hx hb dX2_init_66 (by decide) ?_
  refine istzG (n := 624) (j := 6) (ws1 := ([(h, .inr (2, [.ref q1, .ref q2, .int 0, .ref q3, .ref q4, .ref q5, .long 0])), (q1, .inl (cI, 624, .inl (upd (upd (upd (fun _ => 0) 1 (nI 1)) 2 (nI 10)) 6 (-1)))), (q2, .inl (cI, 2496, .inl (fun _ => 0))), (q3, .inl (cI, 2, .inl (fun _ => 0))), (q4, .inl (cI, 8, .inl (fun _ => 0))), (q5, .inl (cI, 8, .inl (fun _ => 0)))] : va_W)) B hz 1 rfl (by omega) (by decide) rfl dX2_init_67 (fun H locs hz => ?_)
  refine lv_aload_n hx hb dX2_init_68 rfl (lv_at hl 0 rfl) ?_
  refine gzG (C := RX2) (T := TX2) (N := 7) (v := .ref q1) B hz hinX2 0 rfl rfl 0 (by decide) lk7 rfl rfl dX2_init_69 ?_
  refine lv_bipush (v := (nI 7)) hx hb dX2_init_72 (by decide) ?_
  refine lv_iconst (v := (-1)) hx hb dX2_init_74 (by decide) ?_
  refine istzG (n := 624) (j := 7) (ws1 := ([(h, .inr (2, [.ref q1, .ref q2, .int 0, .ref q3, .ref q4, .ref q5, .long 0])), (q1, .inl (cI, 624, .inl (upd (upd (upd (upd (fun _ => 0) 1 (nI 1)) 2 (nI 10)) 6 (-1)) 7 (-1)))), (q2, .inl (cI, 2496, .inl (fun _ => 0))), (q3, .inl (cI, 2, .inl (fun _ => 0))), (q4, .inl (cI, 8, .inl (fun _ => 0))), (q5, .inl (cI, 8, .inl (fun _ => 0)))] : va_W)) B hz 1 rfl (by omega) (by decide) rfl dX2_init_75 (fun H locs hz => ?_)
  refine lv_aload_n hx hb dX2_init_76 rfl (lv_at hl 0 rfl) ?_
  refine gzG (C := RX2) (T := TX2) (N := 7) (v := .ref q1) B hz hinX2 0 rfl rfl 0 (by decide) lk7 rfl rfl dX2_init_77 ?_
  refine lv_bipush (v := (nI 8)) hx hb dX2_init_80 (by decide) ?_
  refine lv_iconst (v := (-1)) hx hb dX2_init_82 (by decide) ?_
  refine istzG (n := 624) (j := 8) (ws1 := ([(h, .inr (2, [.ref q1, .ref q2, .int 0, .ref q3, .ref q4, .ref q5, .long 0])), (q1, .inl (cI, 624, .inl (upd (upd (upd (upd (upd (fun _ => 0) 1 (nI 1)) 2 (nI 10)) 6 (-1)) 7 (-1)) 8 (-1)))), (q2, .inl (cI, 2496, .inl (fun _ => 0))), (q3, .inl (cI, 2, .inl (fun _ => 0))), (q4, .inl (cI, 8, .inl (fun _ => 0))), (q5, .inl (cI, 8, .inl (fun _ => 0)))] : va_W)) B hz 1 rfl (by omega) (by decide) rfl dX2_init_83 (fun H locs hz => ?_)
  refine lv_iconst (v := (nI 0)) hx hb dX2_init_84 (by decide) ?_
  refine lv_istore_n (lv' := [(1, .int (nI 0)), (0, .ref h)]) hx hb dX2_init_85 rfl hl (by decide) rfl (fun ls hl => ?_)
  have LP86 : ∀ (n86 i : Nat), i ≤ 5 → 5 - i < n86 → ∀ (H : Heap) (locs : List Loc) (ls : Array Slot), Hz D A s_.heap H locs ([(h, .inr (2, [.ref q1, .ref q2, .int 0, .ref q3, .ref q4, .ref q5, .long 0])), (q1, .inl (cI, 624, .inl (fI5 i))), (q2, .inl (cI, 2496, .inl (fun _ => 0))), (q3, .inl (cI, 2, .inl (fun _ => 0))), (q4, .inl (cI, 8, .inl (fun _ => 0))), (q5, .inl (cI, 8, .inl (fun _ => 0)))] : va_W) → lv_has ls 2 [(0, .ref h), (1, .int (nI i))] → W p l e ({ frames := 1, cells := 5, slots := 3138, locals := 60 } : Room) s_ m args below meth c H locs 5 3138 (MQ below (QcI D A (fun w => ∃ a : Nat → Nat, a 0 = h ∧ w = mW cI a fInit fZero 0 fZero fZero fZero 0)) args s_ 5 3138 A) (F0 m 86 ls []) := by
    intro n86
    induction n86 with
    | zero => intro i _ hm; exact absurd hm (Nat.not_lt_zero _)
    | succ n86 ih86 =>
      intro i hi hm86 H locs ls hz hl
      refine lv_iload_n hx hb dX2_init_86 rfl (lv_at hl 1 rfl) ?_
      refine lv_iconst (v := (nI 5)) hx hb dX2_init_87 (by decide) ?_
      refine ln_icmp_geG (tgt := 119) hx hb dX2_init_88 (by decide) (by constructor <;> omega) (fun c88 => ?_) (fun c88 => ?_)
      · obtain rfl : i = 5 := by omega
        refine lv_iconst (v := (nI 0)) hx hb dX2_init_119 (by decide) ?_
        refine lv_istore_n (lv' := [(1, .int (nI 0)), (0, .ref h)]) hx hb dX2_init_120 rfl hl (by decide) rfl (fun ls hl => ?_)
        have LP121 : ∀ (n121 j : Nat), j ≤ 200 → 200 - j < n121 → ∀ (H : Heap) (locs : List Loc) (ls : Array Slot), Hz D A s_.heap H locs ([(h, .inr (2, [.ref q1, .ref q2, .int 0, .ref q3, .ref q4, .ref q5, .long 0])), (q1, .inl (cI, 624, .inl (fI2 j))), (q2, .inl (cI, 2496, .inl (fun _ => 0))), (q3, .inl (cI, 2, .inl (fun _ => 0))), (q4, .inl (cI, 8, .inl (fun _ => 0))), (q5, .inl (cI, 8, .inl (fun _ => 0)))] : va_W) → lv_has ls 2 [(0, .ref h), (1, .int (nI j))] → W p l e ({ frames := 1, cells := 5, slots := 3138, locals := 60 } : Room) s_ m args below meth c H locs 5 3138 (MQ below (QcI D A (fun w => ∃ a : Nat → Nat, a 0 = h ∧ w = mW cI a fInit fZero 0 fZero fZero fZero 0)) args s_ 5 3138 A) (F0 m 121 ls []) := by
          intro n121
          induction n121 with
          | zero => intro j _ hm; exact absurd hm (Nat.not_lt_zero _)
          | succ n121 ih121 =>
            intro j hj hm121 H locs ls hz hl
            refine lv_iload_n hx hb dX2_init_121 rfl (lv_at hl 1 rfl) ?_
            refine lv_sipush (v := (nI 200)) hx hb dX2_init_122 (by decide) ?_
            refine ln_icmp_geG (tgt := 156) hx hb dX2_init_125 (by decide) (by constructor <;> omega) (fun c125 => ?_) (fun c125 => ?_)
            · obtain rfl : j = 200 := by omega
              exact rzI B hr hz dX2_init_156 ⟨fun k => match k with | 0 => h | 1 => q1 | 2 => q2 | 3 => q3 | 4 => q4 | _ => q5, rfl, by rw [fI_fin]; rfl⟩
            · refine lv_aload_n hx hb dX2_init_128 rfl (lv_at hl 0 rfl) ?_
              refine gzG (C := RX2) (T := TX2) (N := 7) (v := .ref q1) B hz hinX2 0 rfl rfl 0 (by decide) lk7 rfl rfl dX2_init_129 ?_
              refine lv_bipush (v := (nI 24)) hx hb dX2_init_132 (by decide) ?_
              refine lv_iload_n hx hb dX2_init_134 rfl (lv_at hl 1 rfl) ?_
              refine ln_addG hx hb dX2_init_135 ?_
              refine lv_bipush (v := (nI 15)) hx hb dX2_init_136 (by decide) ?_
              refine istzG (n := 624) (j := (24 + j)) (ws1 := ([(h, .inr (2, [.ref q1, .ref q2, .int 0, .ref q3, .ref q4, .ref q5, .long 0])), (q1, .inl (cI, 624, .inl (upd (fI2 j) (24 + j) (nI 15)))), (q2, .inl (cI, 2496, .inl (fun _ => 0))), (q3, .inl (cI, 2, .inl (fun _ => 0))), (q4, .inl (cI, 8, .inl (fun _ => 0))), (q5, .inl (cI, 8, .inl (fun _ => 0)))] : va_W)) B hz 1 rfl (by omega) (by decide) rfl dX2_init_138 (fun H locs hz => ?_)
              refine lv_aload_n hx hb dX2_init_139 rfl (lv_at hl 0 rfl) ?_
              refine gzG (C := RX2) (T := TX2) (N := 7) (v := .ref q1) B hz hinX2 0 rfl rfl 0 (by decide) lk7 rfl rfl dX2_init_140 ?_
              refine lv_sipush (v := (nI 224)) hx hb dX2_init_143 (by decide) ?_
              refine lv_iload_n hx hb dX2_init_146 rfl (lv_at hl 1 rfl) ?_
              refine ln_addG hx hb dX2_init_147 ?_
              refine lv_iconst (v := (-1)) hx hb dX2_init_148 (by decide) ?_
              refine istzG (n := 624) (j := (224 + j)) (ws1 := ([(h, .inr (2, [.ref q1, .ref q2, .int 0, .ref q3, .ref q4, .ref q5, .long 0])), (q1, .inl (cI, 624, .inl (upd (upd (fI2 j) (24 + j) (nI 15)) (224 + j) (-1)))), (q2, .inl (cI, 2496, .inl (fun _ => 0))), (q3, .inl (cI, 2, .inl (fun _ => 0))), (q4, .inl (cI, 8, .inl (fun _ => 0))), (q5, .inl (cI, 8, .inl (fun _ => 0)))] : va_W)) B hz 1 rfl (by omega) (by decide) rfl dX2_init_149 (fun H locs hz => ?_)
              refine lv_iinc (v := nI (j + 1)) (lv' := [(1, .int (nI (j + 1))), (0, .ref h)]) hx hb dX2_init_150 hl (k := 1) rfl (nI_add j 1) (by decide) rfl (fun ls hl => ?_)
              refine lv_goto (tgt := 121) hx hb dX2_init_153 (by decide) ?_
              exact ih121 (j + 1) (by omega) (by omega) H locs ls (hz.cast rfl) (lv_sub hl [1, 0] rfl)
        exact LP121 _ 0 (Nat.zero_le _) (Nat.lt_succ_self _) H locs ls (hz.cast rfl) (lv_sub hl [1, 0] rfl)
      · refine lv_aload_n hx hb dX2_init_91 rfl (lv_at hl 0 rfl) ?_
        refine gzG (C := RX2) (T := TX2) (N := 7) (v := .ref q1) B hz hinX2 0 rfl rfl 0 (by decide) lk7 rfl rfl dX2_init_92 ?_
        refine lv_bipush (v := (nI 9)) hx hb dX2_init_95 (by decide) ?_
        refine lv_iload_n hx hb dX2_init_97 rfl (lv_at hl 1 rfl) ?_
        refine ln_addG hx hb dX2_init_98 ?_
        refine lv_sipush (v := (nI 255)) hx hb dX2_init_99 (by decide) ?_
        refine istzG (n := 624) (j := (9 + i)) (ws1 := ([(h, .inr (2, [.ref q1, .ref q2, .int 0, .ref q3, .ref q4, .ref q5, .long 0])), (q1, .inl (cI, 624, .inl (upd (fI5 i) (9 + i) (nI 255)))), (q2, .inl (cI, 2496, .inl (fun _ => 0))), (q3, .inl (cI, 2, .inl (fun _ => 0))), (q4, .inl (cI, 8, .inl (fun _ => 0))), (q5, .inl (cI, 8, .inl (fun _ => 0)))] : va_W)) B hz 1 rfl (by omega) (by decide) rfl dX2_init_102 (fun H locs hz => ?_)
        refine lv_aload_n hx hb dX2_init_103 rfl (lv_at hl 0 rfl) ?_
        refine gzG (C := RX2) (T := TX2) (N := 7) (v := .ref q1) B hz hinX2 0 rfl rfl 0 (by decide) lk7 rfl rfl dX2_init_104 ?_
        refine lv_bipush (v := (nI 19)) hx hb dX2_init_107 (by decide) ?_
        refine lv_iload_n hx hb dX2_init_109 rfl (lv_at hl 1 rfl) ?_
        refine ln_addG hx hb dX2_init_110 ?_
        refine lv_iconst (v := (-1)) hx hb dX2_init_111 (by decide) ?_
        refine istzG (n := 624) (j := (19 + i)) (ws1 := ([(h, .inr (2, [.ref q1, .ref q2, .int 0, .ref q3, .ref q4, .ref q5, .long 0])), (q1, .inl (cI, 624, .inl (upd (upd (fI5 i) (9 + i) (nI 255)) (19 + i) (-1)))), (q2, .inl (cI, 2496, .inl (fun _ => 0))), (q3, .inl (cI, 2, .inl (fun _ => 0))), (q4, .inl (cI, 8, .inl (fun _ => 0))), (q5, .inl (cI, 8, .inl (fun _ => 0)))] : va_W)) B hz 1 rfl (by omega) (by decide) rfl dX2_init_112 (fun H locs hz => ?_)
        refine lv_iinc (v := nI (i + 1)) (lv' := [(1, .int (nI (i + 1))), (0, .ref h)]) hx hb dX2_init_113 hl (k := 1) rfl (nI_add i 1) (by decide) rfl (fun ls hl => ?_)
        refine lv_goto (tgt := 86) hx hb dX2_init_116 (by decide) ?_
        exact ih86 (i + 1) (by omega) (by omega) H locs ls (hz.cast rfl) (lv_sub hl [1, 0] rfl)
  exact LP86 _ 0 (Nat.zero_le _) (Nat.lt_succ_self _) H locs ls (hz.cast rfl) (lv_sub hl [1, 0] rfl)
theorem hd_X1_init : hdZ yX1_init 0 := by decide +kernel
set_option maxRecDepth 100000 in
set_option maxHeartbeats 4000000 in
theorem c_X1_init (l : Launch) (D : va_G) (cI cN : ClassId) (h : Nat) : FnI l D cI cN yX1_init wsX1_init ({ frames := 2, cells := 41, slots := 3199, locals := 110 } : Room) 41 3199 ([(h, .inr (1, [.null, .null, .int 0, .int 0, .int 0, .int 0]))] : va_W) [.ref h] (fun w => ∃ (b : Nat → Nat) (an : Nat → Nat → Nat), b 0 = h ∧ w = xW cI cN b an fInit fZero (fun _ => fInit) (fun _ => fZero) 0 0 0 0) := by
  refine FnI.of (cc := cX1_init) (nL := 2) (lv := [(0, .ref h)]) (by decide +kernel) rfl rfl (Nat.le_of_ble_eq_true rfl) rfl ?_
  intro p e s_ m args below meth c A B hO hin2 hr hA H locs ls hz hl
  have hx := B.1.1
  have hb := B.1.2.1
  have hinX0 : ∀ w ∈ u_ws RX0 TX0 16, w ∈ wsX1_init := by decide +kernel
  have hinX1 : ∀ w ∈ u_ws RX1 TX1 6, w ∈ wsX1_init := by decide +kernel
  have lk12 : Cond.fieldLink yX1_init.cls 12 RX1 (TX1 0).2.1 (TX1 0).2.2.1 ∈ wsX1_init := by decide +kernel
  have lk16 : Cond.fieldLink yX1_init.cls 16 RX1 (TX1 1).2.1 (TX1 1).2.2.1 ∈ wsX1_init := by decide +kernel
  refine lv_aload_n hx hb dX1_init_0 rfl (lv_at hl 0 rfl) ?_
  refine oIz (index := 3) (b := h) B (by decide +kernel) (by decide +kernel) (by decide +kernel) hl.1 (Nat.le_of_ble_eq_true rfl) (Nat.le_of_ble_eq_true rfl) dX1_init_1 ?_
  refine lv_aload_n hx hb dX1_init_4 rfl (lv_at hl 0 rfl) ?_
  refine nzO (C := RX0) (T := TX0) (N := 16) (ci := 0) (fs := [.int 0, .int 0, .int 0, .int 0, .int 0, .int 0, .int 0, .int 0, .int 0, .null, .null, .null, .null, .null, .null, .null]) B hz hA hinX0 tyX0_ok (by decide +kernel) (by decide +kernel) (by decide +kernel) rfl (fun j hj => by rcases (show j = 0 ∨ j = 1 ∨ j = 2 ∨ j = 3 ∨ j = 4 ∨ j = 5 ∨ j = 6 ∨ j = 7 ∨ j = 8 ∨ j = 9 ∨ j = 10 ∨ j = 11 ∨ j = 12 ∨ j = 13 ∨ j = 14 ∨ j = 15 by omega) with rfl | rfl | rfl | rfl | rfl | rfl | rfl | rfl | rfl | rfl | rfl | rfl | rfl | rfl | rfl | rfl <;> rfl) (Nat.le_of_ble_eq_true rfl) (Nat.le_of_ble_eq_true rfl) dX1_init_5 (fun q1 H hz => ?_)
  replace hz := hz.cast (w' := ([(h, .inr (1, [.null, .null, .int 0, .int 0, .int 0, .int 0])), (q1, .inr (0, [.int 0, .int 0, .int 0, .int 0, .int 0, .int 0, .int 0, .int 0, .int 0, .null, .null, .null, .null, .null, .null, .null]))] : va_W)) rfl
  refine W.widen (k := 1) (n := 16) (Nat.le_of_ble_eq_true rfl) (Nat.le_of_ble_eq_true rfl) ?_
  refine lv_dup hx hb dX1_init_8 rfl ?_
  refine cIz (index := 11) (n := 0) (As := []) (rest := [.ref q1, .ref h]) (wr := ([(h, .inr (1, [.null, .null, .int 0, .int 0, .int 0, .int 0]))] : va_W)) B hO hz hA (c_X0_init l D cI cN q1) gX1_init_X0_init rfl rfl rfl rfl (by decide +kernel) (by decide +kernel) (by decide +kernel) hd_X0_init (by decide) ⟨Nat.le_of_ble_eq_true rfl, Nat.le_of_ble_eq_true rfl⟩ rfl hl.1 rfl (Nat.le_of_ble_eq_true rfl) dX1_init_9 [1] [0] rfl rfl (by decide) (by decide) (by decide) (fun w H locs hw hz => ?_)
  obtain ⟨a1, rfl, rfl⟩ := hw
  replace hz := hz.cast (w' := ([(h, .inr (1, [.null, .null, .int 0, .int 0, .int 0, .int 0]))] ++ nW cI a1 fInit fZero)) rfl
  refine W.widen (k := 8) (n := 639) (Nat.le_of_ble_eq_true rfl) (Nat.le_of_ble_eq_true rfl) ?_
  refine pzF (C := RX1) (T := TX1) (N := 6) (ty := .object "LinkEstablisher$Network") (ws1 := ([(h, .inr (1, [.ref (a1 0), .null, .int 0, .int 0, .int 0, .int 0]))] ++ nW cI a1 fInit fZero)) B hin2 hz hinX1 tyX1_ok nmX1 0 rfl rfl 0 (by decide) lk12 rfl rfl rfl (by decide +kernel) rfl rfl (Nat.le_of_ble_eq_true rfl) rfl dX1_init_12 (fun H locs hz => ?_)
  refine lv_aload_n hx hb dX1_init_15 rfl (lv_at hl 0 rfl) ?_
  refine lv_iconst (v := (nI 4)) hx hb dX1_init_16 (by decide) ?_
  refine nzQ B hO hz hA (by decide +kernel) (by decide) (Nat.le_of_ble_eq_true rfl) (Nat.le_of_ble_eq_true rfl) dX1_init_17 (fun q2 H hz => ?_)
  replace hz := hz.cast (w' := (([(h, .inr (1, [.ref (a1 0), .null, .int 0, .int 0, .int 0, .int 0]))] ++ nW cI a1 fInit fZero) ++ [(q2, .inl (cN, 4, .inr (.inr (.inr (.inr (fun _ => none))))))])) rfl
  refine W.widen (k := 9) (n := 643) (Nat.le_of_ble_eq_true rfl) (Nat.le_of_ble_eq_true rfl) ?_
  refine pzF (C := RX1) (T := TX1) (N := 6) (ty := .array (.object "LinkEstablisher$Network")) (ws1 := (([(h, .inr (1, [.ref (a1 0), .ref q2, .int 0, .int 0, .int 0, .int 0]))] ++ nW cI a1 fInit fZero) ++ [(q2, .inl (cN, 4, .inr (.inr (.inr (.inr (fun _ => none))))))])) B hin2 hz hinX1 tyX1_ok nmX1 0 rfl rfl 1 (by decide) lk16 rfl rfl rfl (by decide +kernel) rfl rfl (Nat.le_of_ble_eq_true rfl) rfl dX1_init_20 (fun H locs hz => ?_)
  refine lv_iconst (v := (nI 0)) hx hb dX1_init_23 (by decide) ?_
  refine lv_istore_n (lv' := [(1, .int (nI 0)), (0, .ref h)]) hx hb dX1_init_24 rfl hl (by decide) rfl (fun ls hl => ?_)
  refine lv_iload_n hx hb dX1_init_25 rfl (lv_at hl 0 rfl) ?_
  refine lv_iconst (v := (nI 4)) hx hb dX1_init_26 (by decide) ?_
  refine ln_icmp_geG (tgt := 49) hx hb dX1_init_27 (by decide) (by decide) (fun c27 => ?_) (fun c27 => ?_)
  · exact absurd c27 (by decide)
  refine lv_aload_n hx hb dX1_init_30 rfl (lv_at hl 1 rfl) ?_
  refine gzG (C := RX1) (T := TX1) (N := 6) (v := .ref q2) B hz hinX1 0 rfl rfl 1 (by decide) lk16 rfl rfl dX1_init_31 ?_
  refine lv_iload_n hx hb dX1_init_34 rfl (lv_at hl 0 rfl) ?_
  refine nzO (C := RX0) (T := TX0) (N := 16) (ci := 0) (fs := [.int 0, .int 0, .int 0, .int 0, .int 0, .int 0, .int 0, .int 0, .int 0, .null, .null, .null, .null, .null, .null, .null]) B hz hA hinX0 tyX0_ok (by decide +kernel) (by decide +kernel) (by decide +kernel) rfl (fun j hj => by rcases (show j = 0 ∨ j = 1 ∨ j = 2 ∨ j = 3 ∨ j = 4 ∨ j = 5 ∨ j = 6 ∨ j = 7 ∨ j = 8 ∨ j = 9 ∨ j = 10 ∨ j = 11 ∨ j = 12 ∨ j = 13 ∨ j = 14 ∨ j = 15 by omega) with rfl | rfl | rfl | rfl | rfl | rfl | rfl | rfl | rfl | rfl | rfl | rfl | rfl | rfl | rfl | rfl <;> rfl) (Nat.le_of_ble_eq_true rfl) (Nat.le_of_ble_eq_true rfl) dX1_init_35 (fun q3 H hz => ?_)
  replace hz := hz.cast (w' := (([(h, .inr (1, [.ref (a1 0), .ref q2, .int 0, .int 0, .int 0, .int 0]))] ++ nW cI a1 fInit fZero) ++ [(q2, .inl (cN, 4, .inr (.inr (.inr (.inr (fun _ => none)))))), (q3, .inr (0, [.int 0, .int 0, .int 0, .int 0, .int 0, .int 0, .int 0, .int 0, .int 0, .null, .null, .null, .null, .null, .null, .null]))])) rfl
  refine W.widen (k := 10) (n := 659) (Nat.le_of_ble_eq_true rfl) (Nat.le_of_ble_eq_true rfl) ?_
  refine lv_dup hx hb dX1_init_38 rfl ?_
  refine cIz (index := 11) (n := 0) (As := []) (rest := [.ref q3, .int (nI 0), .ref q2]) (wr := (([(h, .inr (1, [.ref (a1 0), .ref q2, .int 0, .int 0, .int 0, .int 0]))] ++ nW cI a1 fInit fZero) ++ [(q2, .inl (cN, 4, .inr (.inr (.inr (.inr (fun _ => none))))))])) B hO hz hA (c_X0_init l D cI cN q3) gX1_init_X0_init rfl rfl rfl rfl (by decide +kernel) (by decide +kernel) (by decide +kernel) hd_X0_init (by decide) ⟨Nat.le_of_ble_eq_true rfl, Nat.le_of_ble_eq_true rfl⟩ rfl hl.1 rfl (Nat.le_of_ble_eq_true rfl) dX1_init_39 [10] [0, 1, 2, 3, 4, 5, 6, 7, 8, 9] rfl rfl (by decide) (by decide) (by decide) (fun w H locs hw hz => ?_)
  obtain ⟨a3, rfl, rfl⟩ := hw
  replace hz := hz.cast (w' := ((([(h, .inr (1, [.ref (a1 0), .ref q2, .int 0, .int 0, .int 0, .int 0]))] ++ nW cI a1 fInit fZero) ++ [(q2, .inl (cN, 4, .inr (.inr (.inr (.inr (fun _ => none))))))]) ++ nW cI a3 fInit fZero)) rfl
  refine W.widen (k := 17) (n := 1282) (Nat.le_of_ble_eq_true rfl) (Nat.le_of_ble_eq_true rfl) ?_
  refine asz (n := 4) (j := 0) (ci := 0) (r := (RX0, TX0, 16)) (ws1 := ((([(h, .inr (1, [.ref (a1 0), .ref q2, .int 0, .int 0, .int 0, .int 0]))] ++ nW cI a1 fInit fZero) ++ [(q2, .inl (cN, 4, .inr (.inr (.inr (.inr (va_up (fun _ => none) 0 (some (a3 0))))))))]) ++ nW cI a3 fInit fZero)) B hz 9 rfl (qk := 10) rfl rfl rfl (by decide) (by decide) rfl dX1_init_42 (fun H locs hz => ?_)
  refine lv_iinc (v := nI (1)) (lv' := [(1, .int (nI 1)), (0, .ref h)]) hx hb dX1_init_43 hl (k := 0) rfl (by decide) (by decide) rfl (fun ls hl => ?_)
  refine lv_goto (tgt := 25) hx hb dX1_init_46 (by decide) ?_
  refine lv_iload_n hx hb dX1_init_25 rfl (lv_at hl 0 rfl) ?_
  refine lv_iconst (v := (nI 4)) hx hb dX1_init_26 (by decide) ?_
  refine ln_icmp_geG (tgt := 49) hx hb dX1_init_27 (by decide) (by decide) (fun c27 => ?_) (fun c27 => ?_)
  · exact absurd c27 (by decide)
  refine lv_aload_n hx hb dX1_init_30 rfl (lv_at hl 1 rfl) ?_
  refine gzG (C := RX1) (T := TX1) (N := 6) (v := .ref q2) B hz hinX1 0 rfl rfl 1 (by decide) lk16 rfl rfl dX1_init_31 ?_
  refine lv_iload_n hx hb dX1_init_34 rfl (lv_at hl 0 rfl) ?_
  refine nzO (C := RX0) (T := TX0) (N := 16) (ci := 0) (fs := [.int 0, .int 0, .int 0, .int 0, .int 0, .int 0, .int 0, .int 0, .int 0, .null, .null, .null, .null, .null, .null, .null]) B hz hA hinX0 tyX0_ok (by decide +kernel) (by decide +kernel) (by decide +kernel) rfl (fun j hj => by rcases (show j = 0 ∨ j = 1 ∨ j = 2 ∨ j = 3 ∨ j = 4 ∨ j = 5 ∨ j = 6 ∨ j = 7 ∨ j = 8 ∨ j = 9 ∨ j = 10 ∨ j = 11 ∨ j = 12 ∨ j = 13 ∨ j = 14 ∨ j = 15 by omega) with rfl | rfl | rfl | rfl | rfl | rfl | rfl | rfl | rfl | rfl | rfl | rfl | rfl | rfl | rfl | rfl <;> rfl) (Nat.le_of_ble_eq_true rfl) (Nat.le_of_ble_eq_true rfl) dX1_init_35 (fun q4 H hz => ?_)
  replace hz := hz.cast (w' := (((([(h, .inr (1, [.ref (a1 0), .ref q2, .int 0, .int 0, .int 0, .int 0]))] ++ nW cI a1 fInit fZero) ++ [(q2, .inl (cN, 4, .inr (.inr (.inr (.inr (va_up (fun _ => none) 0 (some (a3 0))))))))]) ++ nW cI a3 fInit fZero) ++ [(q4, .inr (0, [.int 0, .int 0, .int 0, .int 0, .int 0, .int 0, .int 0, .int 0, .int 0, .null, .null, .null, .null, .null, .null, .null]))])) rfl
  refine W.widen (k := 18) (n := 1298) (Nat.le_of_ble_eq_true rfl) (Nat.le_of_ble_eq_true rfl) ?_
  refine lv_dup hx hb dX1_init_38 rfl ?_
  refine cIz (index := 11) (n := 0) (As := []) (rest := [.ref q4, .int (nI 1), .ref q2]) (wr := ((([(h, .inr (1, [.ref (a1 0), .ref q2, .int 0, .int 0, .int 0, .int 0]))] ++ nW cI a1 fInit fZero) ++ [(q2, .inl (cN, 4, .inr (.inr (.inr (.inr (va_up (fun _ => none) 0 (some (a3 0))))))))]) ++ nW cI a3 fInit fZero)) B hO hz hA (c_X0_init l D cI cN q4) gX1_init_X0_init rfl rfl rfl rfl (by decide +kernel) (by decide +kernel) (by decide +kernel) hd_X0_init (by decide) ⟨Nat.le_of_ble_eq_true rfl, Nat.le_of_ble_eq_true rfl⟩ rfl hl.1 rfl (Nat.le_of_ble_eq_true rfl) dX1_init_39 [18] [0, 1, 2, 3, 4, 5, 6, 7, 8, 9, 10, 11, 12, 13, 14, 15, 16, 17] rfl rfl (by decide) (by decide) (by decide) (fun w H locs hw hz => ?_)
  obtain ⟨a4, rfl, rfl⟩ := hw
  replace hz := hz.cast (w' := (((([(h, .inr (1, [.ref (a1 0), .ref q2, .int 0, .int 0, .int 0, .int 0]))] ++ nW cI a1 fInit fZero) ++ [(q2, .inl (cN, 4, .inr (.inr (.inr (.inr (va_up (fun _ => none) 0 (some (a3 0))))))))]) ++ nW cI a3 fInit fZero) ++ nW cI a4 fInit fZero)) rfl
  refine W.widen (k := 25) (n := 1921) (Nat.le_of_ble_eq_true rfl) (Nat.le_of_ble_eq_true rfl) ?_
  refine asz (n := 4) (j := 1) (ci := 0) (r := (RX0, TX0, 16)) (ws1 := (((([(h, .inr (1, [.ref (a1 0), .ref q2, .int 0, .int 0, .int 0, .int 0]))] ++ nW cI a1 fInit fZero) ++ [(q2, .inl (cN, 4, .inr (.inr (.inr (.inr (va_up (va_up (fun _ => none) 0 (some (a3 0))) 1 (some (a4 0))))))))]) ++ nW cI a3 fInit fZero) ++ nW cI a4 fInit fZero)) B hz 9 rfl (qk := 18) rfl rfl rfl (by decide) (by decide) rfl dX1_init_42 (fun H locs hz => ?_)
  refine lv_iinc (v := nI (2)) (lv' := [(1, .int (nI 2)), (0, .ref h)]) hx hb dX1_init_43 hl (k := 0) rfl (by decide) (by decide) rfl (fun ls hl => ?_)
  refine lv_goto (tgt := 25) hx hb dX1_init_46 (by decide) ?_
  refine lv_iload_n hx hb dX1_init_25 rfl (lv_at hl 0 rfl) ?_
  refine lv_iconst (v := (nI 4)) hx hb dX1_init_26 (by decide) ?_
  refine ln_icmp_geG (tgt := 49) hx hb dX1_init_27 (by decide) (by decide) (fun c27 => ?_) (fun c27 => ?_)
  · exact absurd c27 (by decide)
  refine lv_aload_n hx hb dX1_init_30 rfl (lv_at hl 1 rfl) ?_
  refine gzG (C := RX1) (T := TX1) (N := 6) (v := .ref q2) B hz hinX1 0 rfl rfl 1 (by decide) lk16 rfl rfl dX1_init_31 ?_
  refine lv_iload_n hx hb dX1_init_34 rfl (lv_at hl 0 rfl) ?_
  refine nzO (C := RX0) (T := TX0) (N := 16) (ci := 0) (fs := [.int 0, .int 0, .int 0, .int 0, .int 0, .int 0, .int 0, .int 0, .int 0, .null, .null, .null, .null, .null, .null, .null]) B hz hA hinX0 tyX0_ok (by decide +kernel) (by decide +kernel) (by decide +kernel) rfl (fun j hj => by rcases (show j = 0 ∨ j = 1 ∨ j = 2 ∨ j = 3 ∨ j = 4 ∨ j = 5 ∨ j = 6 ∨ j = 7 ∨ j = 8 ∨ j = 9 ∨ j = 10 ∨ j = 11 ∨ j = 12 ∨ j = 13 ∨ j = 14 ∨ j = 15 by omega) with rfl | rfl | rfl | rfl | rfl | rfl | rfl | rfl | rfl | rfl | rfl | rfl | rfl | rfl | rfl | rfl <;> rfl) (Nat.le_of_ble_eq_true rfl) (Nat.le_of_ble_eq_true rfl) dX1_init_35 (fun q5 H hz => ?_)
  replace hz := hz.cast (w' := ((((([(h, .inr (1, [.ref (a1 0), .ref q2, .int 0, .int 0, .int 0, .int 0]))] ++ nW cI a1 fInit fZero) ++ [(q2, .inl (cN, 4, .inr (.inr (.inr (.inr (va_up (va_up (fun _ => none) 0 (some (a3 0))) 1 (some (a4 0))))))))]) ++ nW cI a3 fInit fZero) ++ nW cI a4 fInit fZero) ++ [(q5, .inr (0, [.int 0, .int 0, .int 0, .int 0, .int 0, .int 0, .int 0, .int 0, .int 0, .null, .null, .null, .null, .null, .null, .null]))])) rfl
  refine W.widen (k := 26) (n := 1937) (Nat.le_of_ble_eq_true rfl) (Nat.le_of_ble_eq_true rfl) ?_
  refine lv_dup hx hb dX1_init_38 rfl ?_
  refine cIz (index := 11) (n := 0) (As := []) (rest := [.ref q5, .int (nI 2), .ref q2]) (wr := (((([(h, .inr (1, [.ref (a1 0), .ref q2, .int 0, .int 0, .int 0, .int 0]))] ++ nW cI a1 fInit fZero) ++ [(q2, .inl (cN, 4, .inr (.inr (.inr (.inr (va_up (va_up (fun _ => none) 0 (some (a3 0))) 1 (some (a4 0))))))))]) ++ nW cI a3 fInit fZero) ++ nW cI a4 fInit fZero)) B hO hz hA (c_X0_init l D cI cN q5) gX1_init_X0_init rfl rfl rfl rfl (by decide +kernel) (by decide +kernel) (by decide +kernel) hd_X0_init (by decide) ⟨Nat.le_of_ble_eq_true rfl, Nat.le_of_ble_eq_true rfl⟩ rfl hl.1 rfl (Nat.le_of_ble_eq_true rfl) dX1_init_39 [26] [0, 1, 2, 3, 4, 5, 6, 7, 8, 9, 10, 11, 12, 13, 14, 15, 16, 17, 18, 19, 20, 21, 22, 23, 24, 25] rfl rfl (by decide) (by decide) (by decide) (fun w H locs hw hz => ?_)
  obtain ⟨a5, rfl, rfl⟩ := hw
  replace hz := hz.cast (w' := ((((([(h, .inr (1, [.ref (a1 0), .ref q2, .int 0, .int 0, .int 0, .int 0]))] ++ nW cI a1 fInit fZero) ++ [(q2, .inl (cN, 4, .inr (.inr (.inr (.inr (va_up (va_up (fun _ => none) 0 (some (a3 0))) 1 (some (a4 0))))))))]) ++ nW cI a3 fInit fZero) ++ nW cI a4 fInit fZero) ++ nW cI a5 fInit fZero)) rfl
  refine W.widen (k := 33) (n := 2560) (Nat.le_of_ble_eq_true rfl) (Nat.le_of_ble_eq_true rfl) ?_
  refine asz (n := 4) (j := 2) (ci := 0) (r := (RX0, TX0, 16)) (ws1 := ((((([(h, .inr (1, [.ref (a1 0), .ref q2, .int 0, .int 0, .int 0, .int 0]))] ++ nW cI a1 fInit fZero) ++ [(q2, .inl (cN, 4, .inr (.inr (.inr (.inr (va_up (va_up (va_up (fun _ => none) 0 (some (a3 0))) 1 (some (a4 0))) 2 (some (a5 0))))))))]) ++ nW cI a3 fInit fZero) ++ nW cI a4 fInit fZero) ++ nW cI a5 fInit fZero)) B hz 9 rfl (qk := 26) rfl rfl rfl (by decide) (by decide) rfl dX1_init_42 (fun H locs hz => ?_)
  refine lv_iinc (v := nI (3)) (lv' := [(1, .int (nI 3)), (0, .ref h)]) hx hb dX1_init_43 hl (k := 0) rfl (by decide) (by decide) rfl (fun ls hl => ?_)
  refine lv_goto (tgt := 25) hx hb dX1_init_46 (by decide) ?_
  refine lv_iload_n hx hb dX1_init_25 rfl (lv_at hl 0 rfl) ?_
  refine lv_iconst (v := (nI 4)) hx hb dX1_init_26 (by decide) ?_
  refine ln_icmp_geG (tgt := 49) hx hb dX1_init_27 (by decide) (by decide) (fun c27 => ?_) (fun c27 => ?_)
  · exact absurd c27 (by decide)
  refine lv_aload_n hx hb dX1_init_30 rfl (lv_at hl 1 rfl) ?_
  refine gzG (C := RX1) (T := TX1) (N := 6) (v := .ref q2) B hz hinX1 0 rfl rfl 1 (by decide) lk16 rfl rfl dX1_init_31 ?_
  refine lv_iload_n hx hb dX1_init_34 rfl (lv_at hl 0 rfl) ?_
  refine nzO (C := RX0) (T := TX0) (N := 16) (ci := 0) (fs := [.int 0, .int 0, .int 0, .int 0, .int 0, .int 0, .int 0, .int 0, .int 0, .null, .null, .null, .null, .null, .null, .null]) B hz hA hinX0 tyX0_ok (by decide +kernel) (by decide +kernel) (by decide +kernel) rfl (fun j hj => by rcases (show j = 0 ∨ j = 1 ∨ j = 2 ∨ j = 3 ∨ j = 4 ∨ j = 5 ∨ j = 6 ∨ j = 7 ∨ j = 8 ∨ j = 9 ∨ j = 10 ∨ j = 11 ∨ j = 12 ∨ j = 13 ∨ j = 14 ∨ j = 15 by omega) with rfl | rfl | rfl | rfl | rfl | rfl | rfl | rfl | rfl | rfl | rfl | rfl | rfl | rfl | rfl | rfl <;> rfl) (Nat.le_of_ble_eq_true rfl) (Nat.le_of_ble_eq_true rfl) dX1_init_35 (fun q6 H hz => ?_)
  replace hz := hz.cast (w' := (((((([(h, .inr (1, [.ref (a1 0), .ref q2, .int 0, .int 0, .int 0, .int 0]))] ++ nW cI a1 fInit fZero) ++ [(q2, .inl (cN, 4, .inr (.inr (.inr (.inr (va_up (va_up (va_up (fun _ => none) 0 (some (a3 0))) 1 (some (a4 0))) 2 (some (a5 0))))))))]) ++ nW cI a3 fInit fZero) ++ nW cI a4 fInit fZero) ++ nW cI a5 fInit fZero) ++ [(q6, .inr (0, [.int 0, .int 0, .int 0, .int 0, .int 0, .int 0, .int 0, .int 0, .int 0, .null, .null, .null, .null, .null, .null, .null]))])) rfl
  refine W.widen (k := 34) (n := 2576) (Nat.le_of_ble_eq_true rfl) (Nat.le_of_ble_eq_true rfl) ?_
  refine lv_dup hx hb dX1_init_38 rfl ?_
  refine cIz (index := 11) (n := 0) (As := []) (rest := [.ref q6, .int (nI 3), .ref q2]) (wr := ((((([(h, .inr (1, [.ref (a1 0), .ref q2, .int 0, .int 0, .int 0, .int 0]))] ++ nW cI a1 fInit fZero) ++ [(q2, .inl (cN, 4, .inr (.inr (.inr (.inr (va_up (va_up (va_up (fun _ => none) 0 (some (a3 0))) 1 (some (a4 0))) 2 (some (a5 0))))))))]) ++ nW cI a3 fInit fZero) ++ nW cI a4 fInit fZero) ++ nW cI a5 fInit fZero)) B hO hz hA (c_X0_init l D cI cN q6) gX1_init_X0_init rfl rfl rfl rfl (by decide +kernel) (by decide +kernel) (by decide +kernel) hd_X0_init (by decide) ⟨Nat.le_of_ble_eq_true rfl, Nat.le_of_ble_eq_true rfl⟩ rfl hl.1 rfl (Nat.le_of_ble_eq_true rfl) dX1_init_39 [34] [0, 1, 2, 3, 4, 5, 6, 7, 8, 9, 10, 11, 12, 13, 14, 15, 16, 17, 18, 19, 20, 21, 22, 23, 24, 25, 26, 27, 28, 29, 30, 31, 32, 33] rfl rfl (by decide) (by decide) (by decide) (fun w H locs hw hz => ?_)
  obtain ⟨a6, rfl, rfl⟩ := hw
  replace hz := hz.cast (w' := (((((([(h, .inr (1, [.ref (a1 0), .ref q2, .int 0, .int 0, .int 0, .int 0]))] ++ nW cI a1 fInit fZero) ++ [(q2, .inl (cN, 4, .inr (.inr (.inr (.inr (va_up (va_up (va_up (fun _ => none) 0 (some (a3 0))) 1 (some (a4 0))) 2 (some (a5 0))))))))]) ++ nW cI a3 fInit fZero) ++ nW cI a4 fInit fZero) ++ nW cI a5 fInit fZero) ++ nW cI a6 fInit fZero)) rfl
  refine W.widen (k := 41) (n := 3199) (Nat.le_of_ble_eq_true rfl) (Nat.le_of_ble_eq_true rfl) ?_
  refine asz (n := 4) (j := 3) (ci := 0) (r := (RX0, TX0, 16)) (ws1 := (((((([(h, .inr (1, [.ref (a1 0), .ref q2, .int 0, .int 0, .int 0, .int 0]))] ++ nW cI a1 fInit fZero) ++ [(q2, .inl (cN, 4, .inr (.inr (.inr (.inr (va_up (va_up (va_up (va_up (fun _ => none) 0 (some (a3 0))) 1 (some (a4 0))) 2 (some (a5 0))) 3 (some (a6 0))))))))]) ++ nW cI a3 fInit fZero) ++ nW cI a4 fInit fZero) ++ nW cI a5 fInit fZero) ++ nW cI a6 fInit fZero)) B hz 9 rfl (qk := 34) rfl rfl rfl (by decide) (by decide) rfl dX1_init_42 (fun H locs hz => ?_)
  refine lv_iinc (v := nI (4)) (lv' := [(1, .int (nI 4)), (0, .ref h)]) hx hb dX1_init_43 hl (k := 0) rfl (by decide) (by decide) rfl (fun ls hl => ?_)
  refine lv_goto (tgt := 25) hx hb dX1_init_46 (by decide) ?_
  refine lv_iload_n hx hb dX1_init_25 rfl (lv_at hl 0 rfl) ?_
  refine lv_iconst (v := (nI 4)) hx hb dX1_init_26 (by decide) ?_
  refine ln_icmp_geG (tgt := 49) hx hb dX1_init_27 (by decide) (by decide) (fun c27 => ?_) (fun c27 => ?_)
  rotate_left
  · exact absurd c27 (by decide)
  replace hz := hz.sw (g := xR (fun k => match k with | 0 => a1 | 1 => a3 | 2 => a4 | 3 => a5 | _ => a6)) (k := 9) rfl (fun j hj => by rcases (show j = 0 ∨ j = 1 ∨ j = 2 ∨ j = 3 by omega) with rfl | rfl | rfl | rfl <;> rfl) rfl
  replace hz := hz.re (ws1 := xW cI cN (fun k => match k with | 0 => h | _ => q2) (fun k => match k with | 0 => a1 | 1 => a3 | 2 => a4 | 3 => a5 | _ => a6) fInit fZero (fun _ => fInit) (fun _ => fZero) 0 0 0 0) [0, 9, 1, 2, 3, 4, 5, 6, 7, 8, 10, 11, 12, 13, 14, 15, 16, 17, 18, 19, 20, 21, 22, 23, 24, 25, 26, 27, 28, 29, 30, 31, 32, 33, 34, 35, 36, 37, 38, 39, 40, 41] (by decide) rfl
  exact rzI B hr hz dX1_init_49 ⟨(fun k => match k with | 0 => h | _ => q2), (fun k => match k with | 0 => a1 | 1 => a3 | 2 => a4 | 3 => a5 | _ => a6), rfl, rfl⟩
