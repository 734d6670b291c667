theorem bt_bit {i b : Nat} (hi : i < 32) (hb : b < 32) : bt (nI 1 <<< (nI i &&& 31)) b = decide (b = i) := by
  rw [b_shl i hi _ hb, bt_1]
  by_cases h : b = i
  · subst h; simp
  · have : ¬ (i ≤ b ∧ b - i = 0) := by omega
    by_cases h1 : i ≤ b
    · have : ¬ b - i = 0 := by omega
      simp [h, this]
    · simp [h, h1]
theorem fHi_bt (k c : Nat) (s : Sz) (T i : Nat) (acc : Int32) {b : Nat} (hi : i < 32) (hb : b < 32) : ∀ n, bt (fHi k c s T i acc n) b = (bt acc b || (decide (b = i) && (List.range n).any (fun t => hA k c s T i t)))
  | 0 => by simp [fHi]
  | n + 1 => by
    have ih := fHi_bt k c s T i acc hi hb n
    have e : bt (if hA k c s T i n = true then nI 1 <<< (nI i &&& 31) else nI 0) b = (decide (b = i) && hA k c s T i n) := by
      cases hA k c s T i n
      · rw [if_neg (by decide), Bool.and_false]; exact b_0 b
      · rw [if_pos rfl, bt_bit hi hb, Bool.and_true]
    show bt (fHi k c s T i acc n ||| (if hA k c s T i n = true then nI 1 <<< (nI i &&& 31) else nI 0)) b = _
    rw [b_or, ih, e, List.range_succ, List.any_append]
    cases bt acc b <;> cases decide (b = i) <;> simp
theorem fHo_bt (k c : Nat) (s : Sz) (T n : Nat) {b : Nat} (hb : b < 32) : ∀ m, m ≤ 5 → bt (fHo k c s T n m) b = (decide (b < m) && (List.range n).any (fun t => hA k c s T b t))
  | 0, _ => by
    show bt (nI 0) b = _
    rw [show bt (nI 0) b = false from b_0 b]
    simp
  | m + 1, hm => by
    have ih := fHo_bt k c s T n hb m (by omega)
    show bt (fHi k c s T m (fHo k c s T n m) n) b = _
    rw [fHi_bt k c s T m _ (by omega) hb, ih]
    by_cases h : b = m
    · subst h; simp
    · have e : decide (b < m + 1) = decide (b < m) := by simp only [decide_eq_decide]; omega
      rw [e]
      simp [h]
def nthC (t : Nat) : Bool := (List.range 8).all (fun c => !fHas (nI t) (nI c) || (decide (rkc t c < cnt t) && decide (nth t (rkc t c) = c)))
theorem nthC_ok : ∀ t, t < 256 → nthC t = true := by decide +kernel
theorem nth_of {t c : Nat} (ht : t < 256) (hc : c < 8) (h : fHas (nI t) (nI c) = true) : rkc t c < cnt t ∧ nth t (rkc t c) = c := by
  have h1 := List.all_eq_true.mp (nthC_ok t ht) c (List.mem_range.mpr hc)
  rw [h] at h1
  simpa using h1
theorem fMo_ge {ms : Int32} {s : Sz} {b : Nat} (hh : fHas ms (nI b) = true) : ∀ i, b < i → cnt (scn s b) ≤ fMo ms s i
  | 0, h => by cases h
  | i + 1, h => by
    simp only [fMo]
    by_cases hb : b = i
    · subst hb
      rw [if_pos hh]
      omega
    · have ih := fMo_ge (s := s) hh i (by omega)
      split <;> omega
theorem all5 : ∀ b, b < 5 → fHas (nI 31) (nI b) = true := by decide +kernel
theorem hear_any {k c b : Nat} {s : Sz} (hI : IvS s) (hb : b < 5) (hc : c < 8) (T : Nat) : (List.range (fMo (nI 31) s 5)).any (fun t => hA k c s T b t) = (!decide (b = k) && fHe s b c) := by
  obtain ⟨h1, h2, h3⟩ := hI b hb
  have hcp := cnt_pos h1 h2
  have hge := fMo_ge (s := s) (all5 b hb) 5 hb
  have key : (∃ t, t < fMo (nI 31) s 5 ∧ fLs (scn s b) (T + t) = c) ↔ fHas (s (9 + b)) (nI c) = true := by
    rw [h3]
    constructor
    · rintro ⟨t, -, e⟩
      rw [← e]
      exact (nth_ok h2 (Nat.mod_lt _ hcp)).2.1
    · intro h
      obtain ⟨a1, a2⟩ := nth_of h2 hc h
      generalize hr : rkc (scn s b) c = r at a1 a2
      generalize hn : cnt (scn s b) = n at a1 hge hcp
      have hm := Nat.mod_lt T (show 0 < n from hcp)
      refine ⟨(r + n - T % n) % n, Nat.lt_of_lt_of_le (Nat.mod_lt _ hcp) hge, ?_⟩
      unfold fLs
      rw [hn]
      have e : (T + (r + n - T % n) % n) % n = r := by
        rw [Nat.add_mod, Nat.mod_mod, ← Nat.add_mod]
        have hd := Nat.div_add_mod T n
        have e2 : T + (r + n - T % n) = r + n * (T / n + 1) := by
          rw [Nat.mul_add, Nat.mul_one]
          omega
        rw [e2, Nat.add_mul_mod_self_left, Nat.mod_eq_of_lt a1]
      rw [e, a2]
  rw [Bool.eq_iff_iff, List.any_eq_true]
  unfold fHe
  simp only [hA, Bool.and_eq_true, Bool.not_eq_true', decide_eq_false_iff_not, decide_eq_true_eq, List.mem_range]
  constructor
  · rintro ⟨t, ht, g1, g2, g3⟩
    exact ⟨g1, g2, key.mp ⟨t, ht, g3⟩⟩
  · rintro ⟨g1, g2, g3⟩
    obtain ⟨t, ht, e⟩ := key.mpr g3
    exact ⟨t, ht, g1, g2, e⟩
theorem fHm_has {k c b : Nat} {s : Sz} (hI : IvS s) (hb : b < 5) (hc : c < 8) : fHas (fHm k c s) (nI b) = (!decide (b = k) && fHe s b c) := by
  rw [fHas_bt _ (by omega)]
  unfold fHm
  rw [fHo_bt k c s _ _ (by omega) 5 (Nat.le_refl _), hear_any hI hb hc, decide_eq_true hb, Bool.true_and]
theorem fSm_eq5 {k c : Nat} {s : Sz} (hI : IvS s) (hc : c < 8) : ∀ i, i ≤ 5 → fSm k c (fHm k c s) (fS0 s) i = fSo k c (fS0 s) i
  | 0, _ => rfl
  | i + 1, hi => by
    have ih := fSm_eq5 (k := k) hI hc i (by omega)
    have e : fHe (fSo k c (fS0 s) i).2 i c = fHe s i c := by
      apply fHe_of
      · rw [fSo_out (by omega)]; unfold fS0; rw [pk_un (by omega)]
      · rw [fSo_out (by omega)]; unfold fS0; rw [pk_un (by omega)]
    simp only [fSm, fSo]
    rw [fHm_has hI (by omega) hc, ih, e]
    by_cases h : i = k
    · simp [h]
    · cases fHe s i c <;> simp [h]
theorem fSm_eq {k c : Nat} {s : Sz} (hI : IvS s) (hc : c < 8) : fSm k c (fHm k c s) (fS0 s) 5 = fSo k c (fS0 s) 5 := fSm_eq5 hI hc 5 (Nat.le_refl _)
theorem hd_X2_setScan : hdZ yX2_setScan 2 := by decide +kernel
set_option maxRecDepth 100000 in
set_option maxHeartbeats 4000000 in
theorem c_X2_setScan (l : Launch) (D : va_G) (cI cN : ClassId) (a : Nat → Nat) (s : Sz) (pst : Sz) (np : Nat) (er : Sz) (od : Sz) (rk : Sz) (hs : Int64) (x : Int32) (y : Int32) (hnp : np ≤ 4) : Fn l D cI cN yX2_setScan wsX2_setScan 3 (mW cI a s pst np er od rk hs) [.ref (a 0), .int x, .int y] (some (.int ((pSetScan x y s).1))) (mAft cI a s pst np er od rk hs od rk (pSetScan x y s)) := by
  refine Fn.of (cc := cX2_setScan) (nL := 4) (ret := (some .int)) (lv := [(0, .ref (a 0)), (1, .int x), (2, .int y)]) (by decide +kernel) rfl (Nat.le_of_ble_eq_true rfl) rfl ?_
  intro p e s_ m args below meth c A B hr hA H locs ls hz hl
  have hx := B.1.1
  have hb := B.1.2.1
  have hinX2 : ∀ w ∈ u_ws RX2 TX2 7, w ∈ wsX2_setScan := by decide +kernel
  have lk7 : Cond.fieldLink yX2_setScan.cls 7 RX2 (TX2 0).2.1 (TX2 0).2.2.1 ∈ wsX2_setScan := by decide +kernel
  refine lv_iload_n hx hb dX2_setScan_0 rfl (lv_at hl 1 rfl) ?_
  refine cS (k := 3) (As := [.int x]) (rest := []) (v := .int (b2i (fSt x))) B hz hA (c_X2_isStation l D cI cN x ) gX2_setScan_X2_isStation rfl hd_X2_isStation (by decide) rfl hl.1 rfl (Nat.le_of_ble_eq_true rfl) dX2_setScan_1 (fun H locs hz => ?_)
  refine lb_if_eq (tgt := 18) hx hb dX2_setScan_4 (by decide) (fun c4 => ?_) (fun c4 => ?_)
  · refine lv_aload_n hx hb dX2_setScan_18 rfl (lv_at hl 0 rfl) ?_
    refine lv_bipush (v := (-2)) hx hb dX2_setScan_19 (by decide) ?_
    refine cV (C := RX2) (T := TX2) (N := 7) (ci := 2) (q0 := 0) (k := 3) (As := [.int (-2)]) (rest := []) (v := .int (-2)) (ws1 := (mW cI a s pst np (upd er (fIx (-2)) (er (fIx (-2)) + nI 1)) od rk hs)) B hz hA (c_X2_fail l D cI cN a s pst np er od rk hs (-2) (by first | exact Or.inl rfl | exact Or.inr rfl)) gX2_setScan_X2_fail rfl rfl hd_X2_fail (by decide) rfl rfl rfl hl.1 rfl (Nat.le_of_ble_eq_true rfl) dX2_setScan_21 (fun H locs hz => ?_)
    exact rz_i B hr hz dX2_setScan_24 (by first | (simp [pSetScan, c4]; done) | (simp [pSetScan, c4, tn5 hf]; done)) (by first | exact mAft_n (by simp [pSetScan, c4]) | exact mAft_s (r := s (9 + f)) (by simp [pSetScan, c4, tn5 hf]))
  · obtain ⟨f, hf, rfl⟩ := fSt_nat c4
    refine lv_iload_n hx hb dX2_setScan_7 rfl (lv_at hl 2 rfl) ?_
    refine lv_iconst (v := (nI 1)) hx hb dX2_setScan_8 (by decide) ?_
    refine lv_sipush (v := (nI 255)) hx hb dX2_setScan_9 (by decide) ?_
    refine cS (k := 3) (As := [.int y, .int (nI 1), .int (nI 255)]) (rest := []) (v := .int (b2i (fIn y (nI 1) (nI 255)))) B hz hA (c_X2_in l D cI cN y (nI 1) (nI 255) ) gX2_setScan_X2_in rfl hd_X2_in (by decide) rfl hl.1 rfl (Nat.le_of_ble_eq_true rfl) dX2_setScan_12 (fun H locs hz => ?_)
    refine lb_if_ne (tgt := 25) hx hb dX2_setScan_15 (by decide) (fun c15 => ?_) (fun c15 => ?_)
    · refine lv_aload_n hx hb dX2_setScan_25 rfl (lv_at hl 0 rfl) ?_
      refine cVv (C := RX2) (T := TX2) (N := 7) (ci := 2) (q0 := 0) (k := 3) (As := []) (rest := []) (ws1 := (mW cI a s (fNp pst s np) (fNn0 np + 1) er od rk hs)) B hz hA (c_X2_note l D cI cN a s pst np er od rk hs  (hnp)) gX2_setScan_X2_note rfl rfl hd_X2_note (by decide) rfl rfl rfl hl.1 rfl (Nat.le_of_ble_eq_true rfl) dX2_setScan_26 (fun H locs hz => ?_)
      refine lv_aload_n hx hb dX2_setScan_29 rfl (lv_at hl 0 rfl) ?_
      refine gz (C := RX2) (T := TX2) (N := 7) (v := .ref (a 1)) B hz hinX2 0 rfl rfl 0 (by decide) lk7 rfl rfl dX2_setScan_30 ?_
      refine lv_bipush (v := (nI 9)) hx hb dX2_setScan_33 (by decide) ?_
      refine lv_iload_n hx hb dX2_setScan_35 rfl (lv_at hl 1 rfl) ?_
      refine ln_add hx hb dX2_setScan_36 ?_
      refine ildz (n := 624) (j := (9 + f)) (v := (s (9 + f))) B hz 1 rfl (by omega) (by decide) rfl dX2_setScan_37 ?_
      refine lv_istore_n (lv' := [(3, .int (s (9 + f))), (0, .ref (a 0)), (1, .int (nI f)), (2, .int y)]) hx hb dX2_setScan_38 rfl hl (by decide) rfl (fun ls hl => ?_)
      refine lv_aload_n hx hb dX2_setScan_39 rfl (lv_at hl 1 rfl) ?_
      refine gz (C := RX2) (T := TX2) (N := 7) (v := .ref (a 1)) B hz hinX2 0 rfl rfl 0 (by decide) lk7 rfl rfl dX2_setScan_40 ?_
      refine lv_bipush (v := (nI 9)) hx hb dX2_setScan_43 (by decide) ?_
      refine lv_iload_n hx hb dX2_setScan_45 rfl (lv_at hl 2 rfl) ?_
      refine ln_add hx hb dX2_setScan_46 ?_
      refine lv_iload_n hx hb dX2_setScan_47 rfl (lv_at hl 3 rfl) ?_
      refine istz (n := 624) (j := (9 + f)) (ws1 := (mW cI a (upd s (9 + f) y) (fNp pst s np) (fNn0 np + 1) er od rk hs)) B hz 1 rfl (by omega) (by decide) rfl dX2_setScan_48 (fun H locs hz => ?_)
      refine lv_iload_n hx hb dX2_setScan_49 rfl (lv_at hl 0 rfl) ?_
      exact rz_i B hr hz dX2_setScan_50 (by first | (simp [pSetScan, c4, c15]; done) | (simp [pSetScan, c4, c15, tn5 hf]; done)) (by first | exact mAft_n (by simp [pSetScan, c4, c15]) | exact mAft_s (r := s (9 + f)) (by simp [pSetScan, c4, c15, tn5 hf]))
    · refine lv_aload_n hx hb dX2_setScan_18 rfl (lv_at hl 0 rfl) ?_
      refine lv_bipush (v := (-2)) hx hb dX2_setScan_19 (by decide) ?_
      refine cV (C := RX2) (T := TX2) (N := 7) (ci := 2) (q0 := 0) (k := 3) (As := [.int (-2)]) (rest := []) (v := .int (-2)) (ws1 := (mW cI a s pst np (upd er (fIx (-2)) (er (fIx (-2)) + nI 1)) od rk hs)) B hz hA (c_X2_fail l D cI cN a s pst np er od rk hs (-2) (by first | exact Or.inl rfl | exact Or.inr rfl)) gX2_setScan_X2_fail rfl rfl hd_X2_fail (by decide) rfl rfl rfl hl.1 rfl (Nat.le_of_ble_eq_true rfl) dX2_setScan_21 (fun H locs hz => ?_)
      exact rz_i B hr hz dX2_setScan_24 (by first | (simp [pSetScan, c4, c15]; done) | (simp [pSetScan, c4, c15, tn5 hf]; done)) (by first | exact mAft_n (by simp [pSetScan, c4, c15]) | exact mAft_s (r := s (9 + f)) (by simp [pSetScan, c4, c15, tn5 hf]))
theorem hd_X2_setQuality : hdZ yX2_setQuality 4 := by decide +kernel
set_option maxRecDepth 100000 in
set_option maxHeartbeats 4000000 in
theorem c_X2_setQuality (l : Launch) (D : va_G) (cI cN : ClassId) (a : Nat → Nat) (s : Sz) (pst : Sz) (np : Nat) (er : Sz) (od : Sz) (rk : Sz) (hs : Int64) (x : Int32) (y : Int32) (z : Int32) (q : Int32) (hnp : np ≤ 4) : Fn l D cI cN yX2_setQuality wsX2_setQuality 3 (mW cI a s pst np er od rk hs) [.ref (a 0), .int x, .int y, .int z, .int q] (some (.int ((pSetQ x y z q s).1))) (mAft cI a s pst np er od rk hs od rk (pSetQ x y z q s)) := by
  refine Fn.of (cc := cX2_setQuality) (nL := 6) (ret := (some .int)) (lv := [(0, .ref (a 0)), (1, .int x), (2, .int y), (3, .int z), (4, .int q)]) (by decide +kernel) rfl (Nat.le_of_ble_eq_true rfl) rfl ?_
  intro p e s_ m args below meth c A B hr hA H locs ls hz hl
  have hx := B.1.1
  have hb := B.1.2.1
  have hinX2 : ∀ w ∈ u_ws RX2 TX2 7, w ∈ wsX2_setQuality := by decide +kernel
  have lk7 : Cond.fieldLink yX2_setQuality.cls 7 RX2 (TX2 0).2.1 (TX2 0).2.2.1 ∈ wsX2_setQuality := by decide +kernel
  refine lv_iload_n hx hb dX2_setQuality_0 rfl (lv_at hl 1 rfl) ?_
  refine lv_iload_n hx hb dX2_setQuality_1 rfl (lv_at hl 2 rfl) ?_
  refine cS (k := 3) (As := [.int x, .int y]) (rest := []) (v := .int (b2i (fPr x y))) B hz hA (c_X2_arePair l D cI cN x y ) gX2_setQuality_X2_arePair rfl hd_X2_arePair (by decide) rfl hl.1 rfl (Nat.le_of_ble_eq_true rfl) dX2_setQuality_2 (fun H locs hz => ?_)
  refine lb_if_eq (tgt := 26) hx hb dX2_setQuality_5 (by decide) (fun c5 => ?_) (fun c5 => ?_)
  · refine lv_aload_n hx hb dX2_setQuality_26 rfl (lv_at hl 0 rfl) ?_
    refine lv_bipush (v := (-2)) hx hb dX2_setQuality_27 (by decide) ?_
    refine cV (C := RX2) (T := TX2) (N := 7) (ci := 2) (q0 := 0) (k := 3) (As := [.int (-2)]) (rest := []) (v := .int (-2)) (ws1 := (mW cI a s pst np (upd er (fIx (-2)) (er (fIx (-2)) + nI 1)) od rk hs)) B hz hA (c_X2_fail l D cI cN a s pst np er od rk hs (-2) (by first | exact Or.inl rfl | exact Or.inr rfl)) gX2_setQuality_X2_fail rfl rfl hd_X2_fail (by decide) rfl rfl rfl hl.1 rfl (Nat.le_of_ble_eq_true rfl) dX2_setQuality_29 (fun H locs hz => ?_)
    exact rz_i B hr hz dX2_setQuality_32 (by first | (simp [pSetQ, fTh, c5]; done) | (simp [pSetQ, fTh, c5, tn5 hf, tn5 ht, tn8 hc]; done)) (by first | exact mAft_n (by simp [pSetQ, fTh, c5]) | exact mAft_s (r := s (24 + fAt f t ch)) (by simp [pSetQ, fTh, c5, tn5 hf, tn5 ht, tn8 hc]))
  · refine lv_iload_n hx hb dX2_setQuality_8 rfl (lv_at hl 3 rfl) ?_
    refine cS (k := 3) (As := [.int z]) (rest := []) (v := .int (b2i (fCh z))) B hz hA (c_X2_isChannel l D cI cN z ) gX2_setQuality_X2_isChannel rfl hd_X2_isChannel (by decide) rfl hl.1 rfl (Nat.le_of_ble_eq_true rfl) dX2_setQuality_9 (fun H locs hz => ?_)
    refine lb_if_eq (tgt := 26) hx hb dX2_setQuality_12 (by decide) (fun c12 => ?_) (fun c12 => ?_)
    · refine lv_aload_n hx hb dX2_setQuality_26 rfl (lv_at hl 0 rfl) ?_
      refine lv_bipush (v := (-2)) hx hb dX2_setQuality_27 (by decide) ?_
      refine cV (C := RX2) (T := TX2) (N := 7) (ci := 2) (q0 := 0) (k := 3) (As := [.int (-2)]) (rest := []) (v := .int (-2)) (ws1 := (mW cI a s pst np (upd er (fIx (-2)) (er (fIx (-2)) + nI 1)) od rk hs)) B hz hA (c_X2_fail l D cI cN a s pst np er od rk hs (-2) (by first | exact Or.inl rfl | exact Or.inr rfl)) gX2_setQuality_X2_fail rfl rfl hd_X2_fail (by decide) rfl rfl rfl hl.1 rfl (Nat.le_of_ble_eq_true rfl) dX2_setQuality_29 (fun H locs hz => ?_)
      exact rz_i B hr hz dX2_setQuality_32 (by first | (simp [pSetQ, fTh, c5, c12]; done) | (simp [pSetQ, fTh, c5, c12, tn5 hf, tn5 ht, tn8 hc]; done)) (by first | exact mAft_n (by simp [pSetQ, fTh, c5, c12]) | exact mAft_s (r := s (24 + fAt f t ch)) (by simp [pSetQ, fTh, c5, c12, tn5 hf, tn5 ht, tn8 hc]))
    · have hth : fTh x y z = true := by simp [fTh, c5, c12]
      obtain ⟨f, t, ch, hf, ht, hc, hft, rfl, rfl, rfl⟩ := fTh_nat hth
      refine lv_iload hx hb dX2_setQuality_15 (lv_at hl 4 rfl) ?_
      refine lv_iconst (v := (nI 0)) hx hb dX2_setQuality_17 (by decide) ?_
      refine lv_bipush (v := (nI 30)) hx hb dX2_setQuality_18 (by decide) ?_
      refine cS (k := 3) (As := [.int q, .int (nI 0), .int (nI 30)]) (rest := []) (v := .int (b2i (fIn q (nI 0) (nI 30)))) B hz hA (c_X2_in l D cI cN q (nI 0) (nI 30) ) gX2_setQuality_X2_in rfl hd_X2_in (by decide) rfl hl.1 rfl (Nat.le_of_ble_eq_true rfl) dX2_setQuality_20 (fun H locs hz => ?_)
      refine lb_if_ne (tgt := 33) hx hb dX2_setQuality_23 (by decide) (fun c23 => ?_) (fun c23 => ?_)
      · refine lv_aload_n hx hb dX2_setQuality_33 rfl (lv_at hl 0 rfl) ?_
        refine cVv (C := RX2) (T := TX2) (N := 7) (ci := 2) (q0 := 0) (k := 3) (As := []) (rest := []) (ws1 := (mW cI a s (fNp pst s np) (fNn0 np + 1) er od rk hs)) B hz hA (c_X2_note l D cI cN a s pst np er od rk hs  (hnp)) gX2_setQuality_X2_note rfl rfl hd_X2_note (by decide) rfl rfl rfl hl.1 rfl (Nat.le_of_ble_eq_true rfl) dX2_setQuality_34 (fun H locs hz => ?_)
        refine lv_aload_n hx hb dX2_setQuality_37 rfl (lv_at hl 0 rfl) ?_
        refine gz (C := RX2) (T := TX2) (N := 7) (v := .ref (a 1)) B hz hinX2 0 rfl rfl 0 (by decide) lk7 rfl rfl dX2_setQuality_38 ?_
        refine lv_bipush (v := (nI 24)) hx hb dX2_setQuality_41 (by decide) ?_
        refine lv_iload_n hx hb dX2_setQuality_43 rfl (lv_at hl 1 rfl) ?_
        refine lv_iload_n hx hb dX2_setQuality_44 rfl (lv_at hl 2 rfl) ?_
        refine lv_iload_n hx hb dX2_setQuality_45 rfl (lv_at hl 3 rfl) ?_
        refine cS (k := 3) (As := [.int (nI f), .int (nI t), .int (nI ch)]) (rest := [.int (nI 24), .ref (a 1)]) (v := .int (nI (fAt f t ch))) B hz hA (c_X2_at l D cI cN f t ch ) gX2_setQuality_X2_at rfl hd_X2_at (by decide) rfl hl.1 rfl (Nat.le_of_ble_eq_true rfl) dX2_setQuality_46 (fun H locs hz => ?_)
        refine ln_add hx hb dX2_setQuality_49 ?_
        refine ildz (n := 624) (j := (24 + (fAt f t ch))) (v := (s (24 + (fAt f t ch)))) B hz 1 rfl (by have hat1 := fAt_lt hf ht hc; have hat2 := fAt_lt ht hf hc; omega) (by decide) rfl dX2_setQuality_50 ?_
        refine lv_istore (lv' := [(5, .int (s (24 + (fAt f t ch)))), (0, .ref (a 0)), (1, .int (nI f)), (2, .int (nI t)), (3, .int (nI ch)), (4, .int q)]) hx hb dX2_setQuality_51 hl (by decide) rfl (fun ls hl => ?_)
        refine lv_aload_n hx hb dX2_setQuality_53 rfl (lv_at hl 1 rfl) ?_
        refine gz (C := RX2) (T := TX2) (N := 7) (v := .ref (a 1)) B hz hinX2 0 rfl rfl 0 (by decide) lk7 rfl rfl dX2_setQuality_54 ?_
        refine lv_bipush (v := (nI 24)) hx hb dX2_setQuality_57 (by decide) ?_
        refine lv_iload_n hx hb dX2_setQuality_59 rfl (lv_at hl 2 rfl) ?_
        refine lv_iload_n hx hb dX2_setQuality_60 rfl (lv_at hl 3 rfl) ?_
        refine lv_iload_n hx hb dX2_setQuality_61 rfl (lv_at hl 4 rfl) ?_
        refine cS (k := 3) (As := [.int (nI f), .int (nI t), .int (nI ch)]) (rest := [.int (nI 24), .ref (a 1)]) (v := .int (nI (fAt f t ch))) B hz hA (c_X2_at l D cI cN f t ch ) gX2_setQuality_X2_at rfl hd_X2_at (by decide) rfl hl.1 rfl (Nat.le_of_ble_eq_true rfl) dX2_setQuality_62 (fun H locs hz => ?_)
        refine ln_add hx hb dX2_setQuality_65 ?_
        refine lv_iload hx hb dX2_setQuality_66 (lv_at hl 5 rfl) ?_
        refine istz (n := 624) (j := (24 + (fAt f t ch))) (ws1 := (mW cI a (upd s (24 + (fAt f t ch)) q) (fNp pst s np) (fNn0 np + 1) er od rk hs)) B hz 1 rfl (by have hat1 := fAt_lt hf ht hc; have hat2 := fAt_lt ht hf hc; omega) (by decide) rfl dX2_setQuality_68 (fun H locs hz => ?_)
        refine lv_aload_n hx hb dX2_setQuality_69 rfl (lv_at hl 1 rfl) ?_
        refine gz (C := RX2) (T := TX2) (N := 7) (v := .ref (a 1)) B hz hinX2 0 rfl rfl 0 (by decide) lk7 rfl rfl dX2_setQuality_70 ?_
        refine lv_bipush (v := (nI 24)) hx hb dX2_setQuality_73 (by decide) ?_
        refine lv_iload_n hx hb dX2_setQuality_75 rfl (lv_at hl 3 rfl) ?_
        refine lv_iload_n hx hb dX2_setQuality_76 rfl (lv_at hl 2 rfl) ?_
        refine lv_iload_n hx hb dX2_setQuality_77 rfl (lv_at hl 4 rfl) ?_
        refine cS (k := 3) (As := [.int (nI t), .int (nI f), .int (nI ch)]) (rest := [.int (nI 24), .ref (a 1)]) (v := .int (nI (fAt t f ch))) B hz hA (c_X2_at l D cI cN t f ch ) gX2_setQuality_X2_at rfl hd_X2_at (by decide) rfl hl.1 rfl (Nat.le_of_ble_eq_true rfl) dX2_setQuality_78 (fun H locs hz => ?_)
        refine ln_add hx hb dX2_setQuality_81 ?_
        refine lv_iload hx hb dX2_setQuality_82 (lv_at hl 5 rfl) ?_
        refine istz (n := 624) (j := (24 + (fAt t f ch))) (ws1 := (mW cI a (upd (upd s (24 + (fAt f t ch)) q) (24 + (fAt t f ch)) q) (fNp pst s np) (fNn0 np + 1) er od rk hs)) B hz 1 rfl (by have hat1 := fAt_lt hf ht hc; have hat2 := fAt_lt ht hf hc; omega) (by decide) rfl dX2_setQuality_84 (fun H locs hz => ?_)
        refine lv_iload hx hb dX2_setQuality_85 (lv_at hl 0 rfl) ?_
        exact rz_i B hr hz dX2_setQuality_87 (by first | (simp [pSetQ, fTh, c5, c12, c23]; done) | (simp [pSetQ, fTh, c5, c12, c23, tn5 hf, tn5 ht, tn8 hc]; done)) (by first | exact mAft_n (by simp [pSetQ, fTh, c5, c12, c23]) | exact mAft_s (r := s (24 + fAt f t ch)) (by simp [pSetQ, fTh, c5, c12, c23, tn5 hf, tn5 ht, tn8 hc]))
      · refine lv_aload_n hx hb dX2_setQuality_26 rfl (lv_at hl 0 rfl) ?_
        refine lv_bipush (v := (-2)) hx hb dX2_setQuality_27 (by decide) ?_
        refine cV (C := RX2) (T := TX2) (N := 7) (ci := 2) (q0 := 0) (k := 3) (As := [.int (-2)]) (rest := []) (v := .int (-2)) (ws1 := (mW cI a s pst np (upd er (fIx (-2)) (er (fIx (-2)) + nI 1)) od rk hs)) B hz hA (c_X2_fail l D cI cN a s pst np er od rk hs (-2) (by first | exact Or.inl rfl | exact Or.inr rfl)) gX2_setQuality_X2_fail rfl rfl hd_X2_fail (by decide) rfl rfl rfl hl.1 rfl (Nat.le_of_ble_eq_true rfl) dX2_setQuality_29 (fun H locs hz => ?_)
        exact rz_i B hr hz dX2_setQuality_32 (by first | (simp [pSetQ, fTh, c5, c12, c23]; done) | (simp [pSetQ, fTh, c5, c12, c23, tn5 hf, tn5 ht, tn8 hc]; done)) (by first | exact mAft_n (by simp [pSetQ, fTh, c5, c12, c23]) | exact mAft_s (r := s (24 + fAt f t ch)) (by simp [pSetQ, fTh, c5, c12, c23, tn5 hf, tn5 ht, tn8 hc]))
theorem hd_X2_setAgeing : hdZ yX2_setAgeing 1 := by decide +kernel
set_option maxRecDepth 100000 in
set_option maxHeartbeats 4000000 in
theorem c_X2_setAgeing (l : Launch) (D : va_G) (cI cN : ClassId) (a : Nat → Nat) (s : Sz) (pst : Sz) (np : Nat) (er : Sz) (od : Sz) (rk : Sz) (hs : Int64) (x : Int32) (hnp : np ≤ 4) : Fn l D cI cN yX2_setAgeing wsX2_setAgeing 2 (mW cI a s pst np er od rk hs) [.ref (a 0), .int x] (some (.int ((pAge x s).1))) (mAft cI a s pst np er od rk hs od rk (pAge x s)) := by
  refine Fn.of (cc := cX2_setAgeing) (nL := 3) (ret := (some .int)) (lv := [(0, .ref (a 0)), (1, .int x)]) (by decide +kernel) rfl (Nat.le_of_ble_eq_true rfl) rfl ?_
  intro p e s_ m args below meth c A B hr hA H locs ls hz hl
  have hx := B.1.1
  have hb := B.1.2.1
  have hinX2 : ∀ w ∈ u_ws RX2 TX2 7, w ∈ wsX2_setAgeing := by decide +kernel
  have lk7 : Cond.fieldLink yX2_setAgeing.cls 7 RX2 (TX2 0).2.1 (TX2 0).2.2.1 ∈ wsX2_setAgeing := by decide +kernel
  refine lv_iload_n hx hb dX2_setAgeing_0 rfl (lv_at hl 1 rfl) ?_
  refine lv_iconst (v := (nI 1)) hx hb dX2_setAgeing_1 (by decide) ?_
  refine lv_bipush (v := (nI 99)) hx hb dX2_setAgeing_2 (by decide) ?_
  refine cS (k := 2) (As := [.int x, .int (nI 1), .int (nI 99)]) (rest := []) (v := .int (b2i (fIn x (nI 1) (nI 99)))) B hz hA (c_X2_in l D cI cN x (nI 1) (nI 99) ) gX2_setAgeing_X2_in rfl hd_X2_in (by decide) rfl hl.1 rfl (Nat.le_of_ble_eq_true rfl) dX2_setAgeing_4 (fun H locs hz => ?_)
  refine lb_if_ne (tgt := 17) hx hb dX2_setAgeing_7 (by decide) (fun c7 => ?_) (fun c7 => ?_)
  · refine lv_aload_n hx hb dX2_setAgeing_17 rfl (lv_at hl 0 rfl) ?_
    refine cVv (C := RX2) (T := TX2) (N := 7) (ci := 2) (q0 := 0) (k := 2) (As := []) (rest := []) (ws1 := (mW cI a s (fNp pst s np) (fNn0 np + 1) er od rk hs)) B hz hA (c_X2_note l D cI cN a s pst np er od rk hs  (hnp)) gX2_setAgeing_X2_note rfl rfl hd_X2_note (by decide) rfl rfl rfl hl.1 rfl (Nat.le_of_ble_eq_true rfl) dX2_setAgeing_18 (fun H locs hz => ?_)
    refine lv_aload_n hx hb dX2_setAgeing_21 rfl (lv_at hl 0 rfl) ?_
    refine gz (C := RX2) (T := TX2) (N := 7) (v := .ref (a 1)) B hz hinX2 0 rfl rfl 0 (by decide) lk7 rfl rfl dX2_setAgeing_22 ?_
    refine lv_iconst (v := (nI 2)) hx hb dX2_setAgeing_25 (by decide) ?_
    refine ildz (n := 624) (j := 2) (v := (s 2)) B hz 1 rfl (by omega) (by decide) rfl dX2_setAgeing_26 ?_
    refine lv_istore_n (lv' := [(2, .int (s 2)), (0, .ref (a 0)), (1, .int x)]) hx hb dX2_setAgeing_27 rfl hl (by decide) rfl (fun ls hl => ?_)
    refine lv_aload_n hx hb dX2_setAgeing_28 rfl (lv_at hl 1 rfl) ?_
    refine gz (C := RX2) (T := TX2) (N := 7) (v := .ref (a 1)) B hz hinX2 0 rfl rfl 0 (by decide) lk7 rfl rfl dX2_setAgeing_29 ?_
    refine lv_iconst (v := (nI 2)) hx hb dX2_setAgeing_32 (by decide) ?_
    refine lv_iload_n hx hb dX2_setAgeing_33 rfl (lv_at hl 2 rfl) ?_
    refine istz (n := 624) (j := 2) (ws1 := (mW cI a (upd s 2 x) (fNp pst s np) (fNn0 np + 1) er od rk hs)) B hz 1 rfl (by omega) (by decide) rfl dX2_setAgeing_34 (fun H locs hz => ?_)
    refine lv_iload_n hx hb dX2_setAgeing_35 rfl (lv_at hl 0 rfl) ?_
    exact rz_i B hr hz dX2_setAgeing_36 (by simp [pAge, c7]) (by first | exact mAft_n (by simp [pAge, c7]) | exact mAft_s (r := s 2) (by simp [pAge, c7]))
  · refine lv_aload_n hx hb dX2_setAgeing_10 rfl (lv_at hl 0 rfl) ?_
    refine lv_bipush (v := (-2)) hx hb dX2_setAgeing_11 (by decide) ?_
    refine cV (C := RX2) (T := TX2) (N := 7) (ci := 2) (q0 := 0) (k := 2) (As := [.int (-2)]) (rest := []) (v := .int (-2)) (ws1 := (mW cI a s pst np (upd er (fIx (-2)) (er (fIx (-2)) + nI 1)) od rk hs)) B hz hA (c_X2_fail l D cI cN a s pst np er od rk hs (-2) (by first | exact Or.inl rfl | exact Or.inr rfl)) gX2_setAgeing_X2_fail rfl rfl hd_X2_fail (by decide) rfl rfl rfl hl.1 rfl (Nat.le_of_ble_eq_true rfl) dX2_setAgeing_13 (fun H locs hz => ?_)
    exact rz_i B hr hz dX2_setAgeing_16 (by simp [pAge, c7]) (by first | exact mAft_n (by simp [pAge, c7]) | exact mAft_s (r := s 2) (by simp [pAge, c7]))
theorem hd_X2_setNoise : hdZ yX2_setNoise 1 := by decide +kernel
set_option maxRecDepth 100000 in
set_option maxHeartbeats 4000000 in
theorem c_X2_setNoise (l : Launch) (D : va_G) (cI cN : ClassId) (a : Nat → Nat) (s : Sz) (pst : Sz) (np : Nat) (er : Sz) (od : Sz) (rk : Sz) (hs : Int64) (x : Int32) (hnp : np ≤ 4) : Fn l D cI cN yX2_setNoise wsX2_setNoise 2 (mW cI a s pst np er od rk hs) [.ref (a 0), .int x] (some (.int ((pNoise x s).1))) (mAft cI a s pst np er od rk hs od rk (pNoise x s)) := by
  refine Fn.of (cc := cX2_setNoise) (nL := 2) (ret := (some .int)) (lv := [(0, .ref (a 0)), (1, .int x)]) (by decide +kernel) rfl (Nat.le_of_ble_eq_true rfl) rfl ?_
  intro p e s_ m args below meth c A B hr hA H locs ls hz hl
  have hx := B.1.1
  have hb := B.1.2.1
  have hinX2 : ∀ w ∈ u_ws RX2 TX2 7, w ∈ wsX2_setNoise := by decide +kernel
  have lk7 : Cond.fieldLink yX2_setNoise.cls 7 RX2 (TX2 0).2.1 (TX2 0).2.2.1 ∈ wsX2_setNoise := by decide +kernel
  refine lv_iload_n hx hb dX2_setNoise_0 rfl (lv_at hl 1 rfl) ?_
  refine lv_if_ge (tgt := 11) hx hb dX2_setNoise_1 (by decide) (fun c1 => ?_) (fun c1 => ?_)
  · refine lv_aload_n hx hb dX2_setNoise_11 rfl (lv_at hl 0 rfl) ?_
    refine cVv (C := RX2) (T := TX2) (N := 7) (ci := 2) (q0 := 0) (k := 2) (As := []) (rest := []) (ws1 := (mW cI a s (fNp pst s np) (fNn0 np + 1) er od rk hs)) B hz hA (c_X2_note l D cI cN a s pst np er od rk hs  (hnp)) gX2_setNoise_X2_note rfl rfl hd_X2_note (by decide) rfl rfl rfl hl.1 rfl (Nat.le_of_ble_eq_true rfl) dX2_setNoise_12 (fun H locs hz => ?_)
    refine lv_aload_n hx hb dX2_setNoise_15 rfl (lv_at hl 0 rfl) ?_
    refine gz (C := RX2) (T := TX2) (N := 7) (v := .ref (a 1)) B hz hinX2 0 rfl rfl 0 (by decide) lk7 rfl rfl dX2_setNoise_16 ?_
    refine lv_iconst (v := (nI 1)) hx hb dX2_setNoise_19 (by decide) ?_
    refine lv_iload_n hx hb dX2_setNoise_20 rfl (lv_at hl 1 rfl) ?_
    refine istz (n := 624) (j := 1) (ws1 := (mW cI a (upd s 1 x) (fNp pst s np) (fNn0 np + 1) er od rk hs)) B hz 1 rfl (by omega) (by decide) rfl dX2_setNoise_21 (fun H locs hz => ?_)
    refine lv_aload_n hx hb dX2_setNoise_22 rfl (lv_at hl 0 rfl) ?_
    refine gz (C := RX2) (T := TX2) (N := 7) (v := .ref (a 1)) B hz hinX2 0 rfl rfl 0 (by decide) lk7 rfl rfl dX2_setNoise_23 ?_
    refine lv_iconst (v := (nI 0)) hx hb dX2_setNoise_26 (by decide) ?_
    refine ildz (n := 624) (j := 0) (v := ((upd s 1 x) 0)) B hz 1 rfl (by omega) (by decide) rfl dX2_setNoise_27 ?_
    refine cvt (y := (s 0)) (pk_un (by omega)) ?_
    exact rz_i B hr hz dX2_setNoise_28 (by simp [pNoise, c1]) (by first | exact mAft_n (by simp [pNoise, c1]) | exact mAft_s (r := s 0) (by simp [pNoise, c1]))
  · refine lv_aload_n hx hb dX2_setNoise_4 rfl (lv_at hl 0 rfl) ?_
    refine lv_bipush (v := (-2)) hx hb dX2_setNoise_5 (by decide) ?_
    refine cV (C := RX2) (T := TX2) (N := 7) (ci := 2) (q0 := 0) (k := 2) (As := [.int (-2)]) (rest := []) (v := .int (-2)) (ws1 := (mW cI a s pst np (upd er (fIx (-2)) (er (fIx (-2)) + nI 1)) od rk hs)) B hz hA (c_X2_fail l D cI cN a s pst np er od rk hs (-2) (by first | exact Or.inl rfl | exact Or.inr rfl)) gX2_setNoise_X2_fail rfl rfl hd_X2_fail (by decide) rfl rfl rfl hl.1 rfl (Nat.le_of_ble_eq_true rfl) dX2_setNoise_7 (fun H locs hz => ?_)
    exact rz_i B hr hz dX2_setNoise_10 (by simp [pNoise, c1]) (by first | exact mAft_n (by simp [pNoise, c1]) | exact mAft_s (r := s 0) (by simp [pNoise, c1]))
theorem hd_X2_pass : hdZ yX2_pass 1 := by decide +kernel
set_option maxRecDepth 100000 in
set_option maxHeartbeats 4000000 in
theorem c_X2_pass (l : Launch) (D : va_G) (cI cN : ClassId) (a : Nat → Nat) (s : Sz) (pst : Sz) (np : Nat) (er : Sz) (od : Sz) (rk : Sz) (hs : Int64) (x : Int32) (hnp : np ≤ 4) : Fn l D cI cN yX2_pass wsX2_pass 2 (mW cI a s pst np er od rk hs) [.ref (a 0), .int x] (some (.int ((pPass x s).1))) (mAft cI a s pst np er od rk hs od rk (pPass x s)) := by
  refine Fn.of (cc := cX2_pass) (nL := 2) (ret := (some .int)) (lv := [(0, .ref (a 0)), (1, .int x)]) (by decide +kernel) rfl (Nat.le_of_ble_eq_true rfl) rfl ?_
  intro p e s_ m args below meth c A B hr hA H locs ls hz hl
  have hx := B.1.1
  have hb := B.1.2.1
  have hinX2 : ∀ w ∈ u_ws RX2 TX2 7, w ∈ wsX2_pass := by decide +kernel
  have lk7 : Cond.fieldLink yX2_pass.cls 7 RX2 (TX2 0).2.1 (TX2 0).2.2.1 ∈ wsX2_pass := by decide +kernel
  refine lv_iload_n hx hb dX2_pass_0 rfl (lv_at hl 1 rfl) ?_
  refine lv_iconst (v := (nI 1)) hx hb dX2_pass_1 (by decide) ?_
  refine lv_sipush (v := (nI 1000)) hx hb dX2_pass_2 (by decide) ?_
  refine cS (k := 2) (As := [.int x, .int (nI 1), .int (nI 1000)]) (rest := []) (v := .int (b2i (fIn x (nI 1) (nI 1000)))) B hz hA (c_X2_in l D cI cN x (nI 1) (nI 1000) ) gX2_pass_X2_in rfl hd_X2_in (by decide) rfl hl.1 rfl (Nat.le_of_ble_eq_true rfl) dX2_pass_5 (fun H locs hz => ?_)
  refine lb_if_ne (tgt := 18) hx hb dX2_pass_8 (by decide) (fun c8 => ?_) (fun c8 => ?_)
  · refine lv_aload_n hx hb dX2_pass_18 rfl (lv_at hl 0 rfl) ?_
    refine cVv (C := RX2) (T := TX2) (N := 7) (ci := 2) (q0 := 0) (k := 2) (As := []) (rest := []) (ws1 := (mW cI a s (fNp pst s np) (fNn0 np + 1) er od rk hs)) B hz hA (c_X2_note l D cI cN a s pst np er od rk hs  (hnp)) gX2_pass_X2_note rfl rfl hd_X2_note (by decide) rfl rfl rfl hl.1 rfl (Nat.le_of_ble_eq_true rfl) dX2_pass_19 (fun H locs hz => ?_)
    refine lv_aload_n hx hb dX2_pass_22 rfl (lv_at hl 0 rfl) ?_
    refine gz (C := RX2) (T := TX2) (N := 7) (v := .ref (a 1)) B hz hinX2 0 rfl rfl 0 (by decide) lk7 rfl rfl dX2_pass_23 ?_
    refine lv_iconst (v := (nI 0)) hx hb dX2_pass_26 (by decide) ?_
    refine lv_dup2_11 hx hb dX2_pass_27 rfl rfl ?_
    refine ildz (n := 624) (j := 0) (v := (s 0)) B hz 1 rfl (by omega) (by decide) rfl dX2_pass_28 ?_
    refine lv_iload_n hx hb dX2_pass_29 rfl (lv_at hl 1 rfl) ?_
    refine lv_iadd hx hb dX2_pass_30 ?_
    refine istz (n := 624) (j := 0) (ws1 := (mW cI a (upd s 0 ((s 0) + x)) (fNp pst s np) (fNn0 np + 1) er od rk hs)) B hz 1 rfl (by omega) (by decide) rfl dX2_pass_31 (fun H locs hz => ?_)
    refine lv_aload_n hx hb dX2_pass_32 rfl (lv_at hl 0 rfl) ?_
    refine gz (C := RX2) (T := TX2) (N := 7) (v := .ref (a 1)) B hz hinX2 0 rfl rfl 0 (by decide) lk7 rfl rfl dX2_pass_33 ?_
    refine lv_iconst (v := (nI 0)) hx hb dX2_pass_36 (by decide) ?_
    refine ildz (n := 624) (j := 0) (v := ((upd s 0 ((s 0) + x)) 0)) B hz 1 rfl (by omega) (by decide) rfl dX2_pass_37 ?_
    refine cvt (y := ((s 0) + x)) pk_us ?_
    exact rz_i B hr hz dX2_pass_38 (by simp [pPass, c8]) (by first | exact mAft_n (by simp [pPass, c8]) | exact mAft_s (r := s 0 + x) (by simp [pPass, c8]))
  · refine lv_aload_n hx hb dX2_pass_11 rfl (lv_at hl 0 rfl) ?_
    refine lv_bipush (v := (-2)) hx hb dX2_pass_12 (by decide) ?_
    refine cV (C := RX2) (T := TX2) (N := 7) (ci := 2) (q0 := 0) (k := 2) (As := [.int (-2)]) (rest := []) (v := .int (-2)) (ws1 := (mW cI a s pst np (upd er (fIx (-2)) (er (fIx (-2)) + nI 1)) od rk hs)) B hz hA (c_X2_fail l D cI cN a s pst np er od rk hs (-2) (by first | exact Or.inl rfl | exact Or.inr rfl)) gX2_pass_X2_fail rfl rfl hd_X2_fail (by decide) rfl rfl rfl hl.1 rfl (Nat.le_of_ble_eq_true rfl) dX2_pass_14 (fun H locs hz => ?_)
    exact rz_i B hr hz dX2_pass_17 (by simp [pPass, c8]) (by first | exact mAft_n (by simp [pPass, c8]) | exact mAft_s (r := s 0 + x) (by simp [pPass, c8]))
theorem hd_X2_sound : hdZ yX2_sound 2 := by decide +kernel
set_option maxRecDepth 100000 in
set_option maxHeartbeats 4000000 in
theorem c_X2_sound (l : Launch) (D : va_G) (cI cN : ClassId) (a : Nat → Nat) (s : Sz) (pst : Sz) (np : Nat) (er : Sz) (od : Sz) (rk : Sz) (hs : Int64) (x : Int32) (y : Int32) (hnp : np ≤ 4) (hI : IvS s) (hn : fNn s) (hT : IvT s) : Fn l D cI cN yX2_sound wsX2_sound 4 (mW cI a s pst np er od rk hs) [.ref (a 0), .int x, .int y] (some (.int ((pSound x y s).1))) (mAft cI a s pst np er od rk hs od rk (pSound x y s)) := by
  refine Fn.of (cc := cX2_sound) (nL := 8) (ret := (some .int)) (lv := [(0, .ref (a 0)), (1, .int x), (2, .int y)]) (by decide +kernel) rfl (Nat.le_of_ble_eq_true rfl) rfl ?_
  intro p e s_ m args below meth c A B hr hA H locs ls hz hl
  have hx := B.1.1
  have hb := B.1.2.1
  have hinX2 : ∀ w ∈ u_ws RX2 TX2 7, w ∈ wsX2_sound := by decide +kernel
  have lk7 : Cond.fieldLink yX2_sound.cls 7 RX2 (TX2 0).2.1 (TX2 0).2.2.1 ∈ wsX2_sound := by decide +kernel
  refine lv_iload_n hx hb dX2_sound_0 rfl (lv_at hl 1 rfl) ?_
  refine cS (k := 4) (As := [.int x]) (rest := []) (v := .int (b2i (fSt x))) B hz hA (c_X2_isStation l D cI cN x ) gX2_sound_X2_isStation rfl hd_X2_isStation (by decide) rfl hl.1 rfl (Nat.le_of_ble_eq_true rfl) dX2_sound_1 (fun H locs hz => ?_)
  refine lb_if_eq (tgt := 14) hx hb dX2_sound_4 (by decide) (fun c4 => ?_) (fun c4 => ?_)
  · refine lv_aload_n hx hb dX2_sound_14 rfl (lv_at hl 0 rfl) ?_
    refine lv_bipush (v := (-2)) hx hb dX2_sound_15 (by decide) ?_
    refine cV (C := RX2) (T := TX2) (N := 7) (ci := 2) (q0 := 0) (k := 4) (As := [.int (-2)]) (rest := []) (v := .int (-2)) (ws1 := (mW cI a s pst np (upd er (fIx (-2)) (er (fIx (-2)) + nI 1)) od rk hs)) B hz hA (c_X2_fail l D cI cN a s pst np er od rk hs (-2) (by first | exact Or.inl rfl | exact Or.inr rfl)) gX2_sound_X2_fail rfl rfl hd_X2_fail (by decide) rfl rfl rfl hl.1 rfl (Nat.le_of_ble_eq_true rfl) dX2_sound_17 (fun H locs hz => ?_)
    exact rz_i B hr hz dX2_sound_20 (by first | (simp [pSound, c4]; done) | (simp [pSound, c4, tn5 hf]; done) | (rw [fSm_eq hI hc]; simp [pSound, c4, c11, c26, tn5 hf, tn8 hc]; done)) (by first | exact mAft_n (by simp [pSound, c4]; done) | exact mAft_n (by simp [pSound, c4, tn5 hf]; done) | (rw [fSm_eq hI hc]; exact mAft_s (r := (fSo f ch (fS0 s) 5).1) (by simp [pSound, c4, c11, c26, tn5 hf, tn8 hc])))
  · obtain ⟨f, hf, rfl⟩ := fSt_nat c4
    refine lv_iload_n hx hb dX2_sound_7 rfl (lv_at hl 2 rfl) ?_
    refine cS (k := 4) (As := [.int y]) (rest := []) (v := .int (b2i (fCh y))) B hz hA (c_X2_isChannel l D cI cN y ) gX2_sound_X2_isChannel rfl hd_X2_isChannel (by decide) rfl hl.1 rfl (Nat.le_of_ble_eq_true rfl) dX2_sound_8 (fun H locs hz => ?_)
    refine lb_if_ne (tgt := 21) hx hb dX2_sound_11 (by decide) (fun c11 => ?_) (fun c11 => ?_)
    · obtain ⟨ch, hc, rfl⟩ := fCh_nat c11
      refine lv_aload_n hx hb dX2_sound_21 rfl (lv_at hl 0 rfl) ?_
      refine lv_iload_n hx hb dX2_sound_22 rfl (lv_at hl 1 rfl) ?_
      refine cV (C := RX2) (T := TX2) (N := 7) (ci := 2) (q0 := 0) (k := 4) (As := [.int (nI f)]) (rest := []) (v := .int (b2i (fLk s f))) (ws1 := (mW cI a s pst np er od rk hs)) B hz hA (c_X2_isLinked l D cI cN a s pst np er od rk hs f (hf)) gX2_sound_X2_isLinked rfl rfl hd_X2_isLinked (by decide) rfl rfl rfl hl.1 rfl (Nat.le_of_ble_eq_true rfl) dX2_sound_23 (fun H locs hz => ?_)
      refine lb_if_eq (tgt := 36) hx hb dX2_sound_26 (by decide) (fun c26 => ?_) (fun c26 => ?_)
      · refine lv_aload_n hx hb dX2_sound_36 rfl (lv_at hl 0 rfl) ?_
        refine cVv (C := RX2) (T := TX2) (N := 7) (ci := 2) (q0 := 0) (k := 4) (As := []) (rest := []) (ws1 := (mW cI a s (fNp pst s np) (fNn0 np + 1) er od rk hs)) B hz hA (c_X2_note l D cI cN a s pst np er od rk hs  (hnp)) gX2_sound_X2_note rfl rfl hd_X2_note (by decide) rfl rfl rfl hl.1 rfl (Nat.le_of_ble_eq_true rfl) dX2_sound_37 (fun H locs hz => ?_)
        refine lv_aload_n hx hb dX2_sound_40 rfl (lv_at hl 0 rfl) ?_
        refine lv_bipush (v := (nI 31)) hx hb dX2_sound_41 (by decide) ?_
        refine cV (C := RX2) (T := TX2) (N := 7) (ci := 2) (q0 := 0) (k := 4) (As := [.int (nI 31)]) (rest := []) (v := .int (nI (fMo (nI 31) s 5))) (ws1 := (mW cI a s (fNp pst s np) (fNn0 np + 1) er od rk hs)) B hz hA (c_X2_mostOf l D cI cN a s (fNp pst s np) (fNn0 np + 1) er od rk hs (nI 31) (hI)) gX2_sound_X2_mostOf rfl rfl hd_X2_mostOf (by decide) rfl rfl rfl hl.1 rfl (Nat.le_of_ble_eq_true rfl) dX2_sound_43 (fun H locs hz => ?_)
        refine lv_istore_n (lv' := [(3, .int (nI (fMo (nI 31) s 5))), (0, .ref (a 0)), (1, .int (nI f)), (2, .int (nI ch))]) hx hb dX2_sound_46 rfl hl (by decide) rfl (fun ls hl => ?_)
        refine lv_iconst (v := (nI 0)) hx hb dX2_sound_47 (by decide) ?_
        refine lv_istore (lv' := [(4, .int (nI 0)), (3, .int (nI (fMo (nI 31) s 5))), (0, .ref (a 0)), (1, .int (nI f)), (2, .int (nI ch))]) hx hb dX2_sound_48 hl (by decide) rfl (fun ls hl => ?_)
        refine lv_iconst (v := (nI 0)) hx hb dX2_sound_50 (by decide) ?_
        refine lv_istore (lv' := [(5, .int (nI 0)), (4, .int (nI 0)), (3, .int (nI (fMo (nI 31) s 5))), (0, .ref (a 0)), (1, .int (nI f)), (2, .int (nI ch))]) hx hb dX2_sound_51 hl (by decide) rfl (fun ls hl => ?_)
        have LP53 : ∀ (n_LP53 : Nat) (i : Nat), (i ≤ 5) → 5 - i < n_LP53 → ∀ (H : Heap) (locs : List Loc) (ls : Array Slot), Hz D A s_.heap H locs (mW cI a s (fNp pst s np) (fNn0 np + 1) er od rk hs) → lv_has ls 8 [(0, .ref (a 0)), (1, .int (nI f)), (2, .int (nI ch)), (3, .int (nI (fMo (nI 31) s 5))), (4, .int (fHo f ch s (tmN s) (fMo (nI 31) s 5) i)), (5, .int (nI i))] → Wz p l e 4 s_ m args below meth c D A (some (.int ((pSound (nI f) (nI ch) s).1))) (mAft cI a s pst np er od rk hs od rk (pSound (nI f) (nI ch) s)) H locs (F0 m 53 ls []) := by
          intro n_LP53
          induction n_LP53 with
          | zero => intro i hi hm; exact absurd hm (Nat.not_lt_zero _)
          | succ n_LP53 ih_LP53 =>
            intro i hi hm H locs ls hz hl
            refine lv_iload hx hb dX2_sound_53 (lv_at hl 5 rfl) ?_
            refine lv_iconst (v := (nI 5)) hx hb dX2_sound_55 (by decide) ?_
            refine ln_icmp_ge (tgt := 139) hx hb dX2_sound_56 (by decide) (by constructor <;> omega) (fun c56 => ?_) (fun c56 => ?_)
            · obtain rfl : i = 5 := by omega
              refine lv_aload_n hx hb dX2_sound_139 rfl (lv_at hl 0 rfl) ?_
              refine gz (C := RX2) (T := TX2) (N := 7) (v := .ref (a 1)) B hz hinX2 0 rfl rfl 0 (by decide) lk7 rfl rfl dX2_sound_140 ?_
              refine lv_iconst (v := (nI 0)) hx hb dX2_sound_143 (by decide) ?_
              refine lv_dup2_11 hx hb dX2_sound_144 rfl rfl ?_
              refine ildz (n := 624) (j := 0) (v := (s 0)) B hz 1 rfl (by omega) (by decide) rfl dX2_sound_145 ?_
              refine cvt (y := nI (tmN s)) (show IvT s by assumption).1 ?_
              refine lv_iload_n hx hb dX2_sound_146 rfl (lv_at hl 3 rfl) ?_
              refine ln_add hx hb dX2_sound_147 ?_
              refine istz (n := 624) (j := 0) (ws1 := (mW cI a (upd s 0 (nI ((tmN s) + (fMo (nI 31) s 5)))) (fNp pst s np) (fNn0 np + 1) er od rk hs)) B hz 1 rfl (by omega) (by decide) rfl dX2_sound_148 (fun H locs hz => ?_)
              refine lv_iconst (v := (nI 0)) hx hb dX2_sound_149 (by decide) ?_
              refine lv_istore (lv' := [(5, .int (nI 0)), (0, .ref (a 0)), (1, .int (nI f)), (2, .int (nI ch)), (3, .int (nI (fMo (nI 31) s 5))), (4, .int (fHo f ch s (tmN s) (fMo (nI 31) s 5) 5))]) hx hb dX2_sound_150 hl (by decide) rfl (fun ls hl => ?_)
              refine lv_iconst (v := (nI 0)) hx hb dX2_sound_152 (by decide) ?_
              refine lv_istore (lv' := [(6, .int (nI 0)), (5, .int (nI 0)), (0, .ref (a 0)), (1, .int (nI f)), (2, .int (nI ch)), (3, .int (nI (fMo (nI 31) s 5))), (4, .int (fHo f ch s (tmN s) (fMo (nI 31) s 5) 5))]) hx hb dX2_sound_153 hl (by decide) rfl (fun ls hl => ?_)
              have LP155 : ∀ (n_LP155 : Nat) (j : Nat), (j ≤ 5) → 5 - j < n_LP155 → ∀ (H : Heap) (locs : List Loc) (ls : Array Slot), Hz D A s_.heap H locs (mW cI a ((fSm f ch (fHm f ch s) (fS0 s) j).2) (fNp pst s np) (fNn0 np + 1) er od rk hs) → lv_has ls 8 [(0, .ref (a 0)), (1, .int (nI f)), (2, .int (nI ch)), (4, .int (fHm f ch s)), (5, .int ((fSm f ch (fHm f ch s) (fS0 s) j).1)), (6, .int (nI j))] → Wz p l e 4 s_ m args below meth c D A (some (.int ((pSound (nI f) (nI ch) s).1))) (mAft cI a s pst np er od rk hs od rk (pSound (nI f) (nI ch) s)) H locs (F0 m 155 ls []) := by
                intro n_LP155
                induction n_LP155 with
                | zero => intro j hj hm; exact absurd hm (Nat.not_lt_zero _)
                | succ n_LP155 ih_LP155 =>
                  intro j hj hm H locs ls hz hl
                  refine lv_iload hx hb dX2_sound_155 (lv_at hl 5 rfl) ?_
                  refine lv_iconst (v := (nI 5)) hx hb dX2_sound_157 (by decide) ?_
                  refine ln_icmp_ge (tgt := 201) hx hb dX2_sound_158 (by decide) (by constructor <;> omega) (fun c158 => ?_) (fun c158 => ?_)
                  · refine lv_iload hx hb dX2_sound_201 (lv_at hl 4 rfl) ?_
                    exact rz_i B hr hz dX2_sound_203 (by first | (simp [pSound, c4, c11, c26, c56, c158]; done) | (simp [pSound, c4, c11, c26, c56, c158, tn5 hf]; done) | (rw [fSm_eq hI hc]; simp [pSound, c4, c11, c26, tn5 hf, tn8 hc]; done)) (by first | exact mAft_n (by simp [pSound, c4, c11, c26, c56, c158]; done) | exact mAft_n (by simp [pSound, c4, c11, c26, c56, c158, tn5 hf]; done) | (rw [fSm_eq hI hc]; exact mAft_s (r := (fSo f ch (fS0 s) 5).1) (by simp [pSound, c4, c11, c26, tn5 hf, tn8 hc])))
                  · refine lv_iload hx hb dX2_sound_161 (lv_at hl 3 rfl) ?_
                    refine lv_iload hx hb dX2_sound_163 (lv_at hl 5 rfl) ?_
                    refine cS (k := 4) (As := [.int (fHm f ch s), .int (nI j)]) (rest := []) (v := .int (b2i (fHas (fHm f ch s) (nI j)))) B hz hA (c_X2_has l D cI cN (fHm f ch s) (nI j) ) gX2_sound_X2_has rfl hd_X2_has (by decide) rfl hl.1 rfl (Nat.le_of_ble_eq_true rfl) dX2_sound_165 (fun H locs hz => ?_)
                    refine lb_if_eq (tgt := 195) hx hb dX2_sound_168 (by decide) (fun c168 => ?_) (fun c168 => ?_)
                    · refine lv_iinc (v := nI (j + 1)) (lv' := [(6, .int (nI (j + 1))), (0, .ref (a 0)), (1, .int (nI f)), (2, .int (nI ch)), (4, .int (fHm f ch s)), (5, .int ((fSm f ch (fHm f ch s) (fS0 s) j).1))]) hx hb dX2_sound_195 hl (k := 5) rfl (nI_add j 1) (by decide) rfl (fun ls hl => ?_)
                      refine lv_goto (tgt := 155) hx hb dX2_sound_198 (by decide) ?_
                      exact ih_LP155 (j + 1) (by omega) (by omega) H locs ls (hz.cast (by first | (simp [fSm, c168]; done) | (simp [fSm, c168, c183]; done))) (lv_cast (lv_sub hl [1, 2, 3, 4, 5, 0] (l' := [(0, .ref (a 0)), (1, .int (nI f)), (2, .int (nI ch)), (4, .int (fHm f ch s)), (5, .int ((fSm f ch (fHm f ch s) (fS0 s) j).1)), (6, .int (nI (j + 1)))]) rfl) (by first | (simp [fSm, c168]; done) | (simp [fSm, c168, c183]; done)))
                    · refine lv_aload_n hx hb dX2_sound_171 rfl (lv_at hl 0 rfl) ?_
                      refine lv_iconst (v := (nI 1)) hx hb dX2_sound_172 (by decide) ?_
                      refine lv_iload_n hx hb dX2_sound_173 rfl (lv_at hl 1 rfl) ?_
                      refine lv_iload hx hb dX2_sound_174 (lv_at hl 5 rfl) ?_
                      refine lv_sipush (v := (nI 255)) hx hb dX2_sound_176 (by decide) ?_
                      refine lv_iload_n hx hb dX2_sound_179 rfl (lv_at hl 2 rfl) ?_
                      refine cV (C := RX2) (T := TX2) (N := 7) (ci := 2) (q0 := 0) (k := 4) (As := [.int (nI 1), .int (nI f), .int (nI j), .int (nI 255), .int (nI ch)]) (rest := []) (v := .int (b2i ((fTr 1 f j 255 ch ((fSm f ch (fHm f ch s) (fS0 s) j).2)).1))) (ws1 := (mW cI a ((fTr 1 f j 255 ch ((fSm f ch (fHm f ch s) (fS0 s) j).2)).2) (fNp pst s np) (fNn0 np + 1) er od rk hs)) B hz hA (c_X2_transmit l D cI cN a ((fSm f ch (fHm f ch s) (fS0 s) j).2) (fNp pst s np) (fNn0 np + 1) er od rk hs 1 f j 255 ch (hf) (by omega) (hc) (fSm_nn (nn_upd hn (by decide)) j)) gX2_sound_X2_transmit rfl rfl hd_X2_transmit (by decide) rfl rfl rfl hl.1 rfl (Nat.le_of_ble_eq_true rfl) dX2_sound_180 (fun H locs hz => ?_)
                      refine lb_if_eq (tgt := 195) hx hb dX2_sound_183 (by decide) (fun c183 => ?_) (fun c183 => ?_)
                      · refine lv_iinc (v := nI (j + 1)) (lv' := [(6, .int (nI (j + 1))), (0, .ref (a 0)), (1, .int (nI f)), (2, .int (nI ch)), (4, .int (fHm f ch s)), (5, .int ((fSm f ch (fHm f ch s) (fS0 s) j).1))]) hx hb dX2_sound_195 hl (k := 5) rfl (nI_add j 1) (by decide) rfl (fun ls hl => ?_)
                        refine lv_goto (tgt := 155) hx hb dX2_sound_198 (by decide) ?_
                        exact ih_LP155 (j + 1) (by omega) (by omega) H locs ls (hz.cast (by first | (simp [fSm, c168]; done) | (simp [fSm, c168, c183]; done))) (lv_cast (lv_sub hl [1, 2, 3, 4, 5, 0] (l' := [(0, .ref (a 0)), (1, .int (nI f)), (2, .int (nI ch)), (4, .int (fHm f ch s)), (5, .int ((fSm f ch (fHm f ch s) (fS0 s) j).1)), (6, .int (nI (j + 1)))]) rfl) (by first | (simp [fSm, c168]; done) | (simp [fSm, c168, c183]; done)))
                      · refine lv_iload hx hb dX2_sound_186 (lv_at hl 4 rfl) ?_
                        refine lv_iconst (v := (nI 1)) hx hb dX2_sound_188 (by decide) ?_
                        refine lv_iload hx hb dX2_sound_189 (lv_at hl 5 rfl) ?_
                        refine lv_ishl hx hb dX2_sound_191 ?_
                        refine lv_ior hx hb dX2_sound_192 ?_
                        refine lv_istore (lv' := [(5, .int (((fSm f ch (fHm f ch s) (fS0 s) j).1) ||| ((nI 1) <<< ((nI j) &&& 31)))), (0, .ref (a 0)), (1, .int (nI f)), (2, .int (nI ch)), (4, .int (fHm f ch s)), (6, .int (nI j))]) hx hb dX2_sound_193 hl (by decide) rfl (fun ls hl => ?_)
                        refine lv_iinc (v := nI (j + 1)) (lv' := [(6, .int (nI (j + 1))), (5, .int (((fSm f ch (fHm f ch s) (fS0 s) j).1) ||| ((nI 1) <<< ((nI j) &&& 31)))), (0, .ref (a 0)), (1, .int (nI f)), (2, .int (nI ch)), (4, .int (fHm f ch s))]) hx hb dX2_sound_195 hl (k := 5) rfl (nI_add j 1) (by decide) rfl (fun ls hl => ?_)
                        refine lv_goto (tgt := 155) hx hb dX2_sound_198 (by decide) ?_
                        exact ih_LP155 (j + 1) (by omega) (by omega) H locs ls (hz.cast (by first | (simp [fSm, c168]; done) | (simp [fSm, c168, c183]; done))) (lv_cast (lv_sub hl [2, 3, 4, 5, 1, 0] (l' := [(0, .ref (a 0)), (1, .int (nI f)), (2, .int (nI ch)), (4, .int (fHm f ch s)), (5, .int (((fSm f ch (fHm f ch s) (fS0 s) j).1) ||| ((nI 1) <<< ((nI j) &&& 31)))), (6, .int (nI (j + 1)))]) rfl) (by first | (simp [fSm, c168]; done) | (simp [fSm, c168, c183]; done)))
              exact LP155 _ 0 (by omega) (Nat.lt_succ_self _) H locs ls (hz.cast (by rfl)) (lv_cast (lv_sub hl [2, 3, 4, 6, 1, 0] (l' := [(0, .ref (a 0)), (1, .int (nI f)), (2, .int (nI ch)), (4, .int (fHo f ch s (tmN s) (fMo (nI 31) s 5) 5)), (5, .int (nI 0)), (6, .int (nI 0))]) rfl) (by rfl))
            · refine lv_iconst (v := (nI 0)) hx hb dX2_sound_59 (by decide) ?_
              refine lv_istore (lv' := [(6, .int (nI 0)), (0, .ref (a 0)), (1, .int (nI f)), (2, .int (nI ch)), (3, .int (nI (fMo (nI 31) s 5))), (4, .int (fHo f ch s (tmN s) (fMo (nI 31) s 5) i)), (5, .int (nI i))]) hx hb dX2_sound_60 hl (by decide) rfl (fun ls hl => ?_)
              have LP62 : ∀ (n_LP62 : Nat) (u : Nat), (u ≤ fMo (nI 31) s 5) → (fMo (nI 31) s 5) - u < n_LP62 → ∀ (H : Heap) (locs : List Loc) (ls : Array Slot), Hz D A s_.heap H locs (mW cI a s (fNp pst s np) (fNn0 np + 1) er od rk hs) → lv_has ls 8 [(0, .ref (a 0)), (1, .int (nI f)), (2, .int (nI ch)), (3, .int (nI (fMo (nI 31) s 5))), (4, .int (fHi f ch s (tmN s) i (fHo f ch s (tmN s) (fMo (nI 31) s 5) i) u)), (5, .int (nI i)), (6, .int (nI u))] → Wz p l e 4 s_ m args below meth c D A (some (.int ((pSound (nI f) (nI ch) s).1))) (mAft cI a s pst np er od rk hs od rk (pSound (nI f) (nI ch) s)) H locs (F0 m 62 ls []) := by
                intro n_LP62
                induction n_LP62 with
                | zero => intro u hu hm; exact absurd hm (Nat.not_lt_zero _)
                | succ n_LP62 ih_LP62 =>
                  intro u hu hm H locs ls hz hl
                  refine lv_iload hx hb dX2_sound_62 (lv_at hl 6 rfl) ?_
                  refine lv_iload_n hx hb dX2_sound_64 rfl (lv_at hl 3 rfl) ?_
                  refine ln_icmp_ge (tgt := 133) hx hb dX2_sound_65 (by decide) (by have := fMo_le (ms := nI 31) hI 5 (by omega); constructor <;> omega) (fun c65 => ?_) (fun c65 => ?_)
                  · obtain hu5 : u = fMo (nI 31) s 5 := by omega
                    refine lv_iinc (v := nI (i + 1)) (lv' := [(5, .int (nI (i + 1))), (0, .ref (a 0)), (1, .int (nI f)), (2, .int (nI ch)), (3, .int (nI (fMo (nI 31) s 5))), (4, .int (fHi f ch s (tmN s) i (fHo f ch s (tmN s) (fMo (nI 31) s 5) i) (fMo (nI 31) s 5))), (6, .int (nI (fMo (nI 31) s 5)))]) hx hb dX2_sound_133 hl (k := 5) rfl (nI_add i 1) (by decide) rfl (fun ls hl => ?_)
                    refine lv_goto (tgt := 53) hx hb dX2_sound_136 (by decide) ?_
                    exact ih_LP53 (i + 1) (by omega) (by omega) H locs ls (hz.cast (by rfl)) (lv_cast (lv_sub hl [1, 2, 3, 4, 5, 0] (l' := [(0, .ref (a 0)), (1, .int (nI f)), (2, .int (nI ch)), (3, .int (nI (fMo (nI 31) s 5))), (4, .int (fHi f ch s (tmN s) i (fHo f ch s (tmN s) (fMo (nI 31) s 5) i) (fMo (nI 31) s 5))), (5, .int (nI (i + 1)))]) rfl) (by subst hu5; rfl))
                  · refine lv_iload hx hb dX2_sound_68 (lv_at hl 5 rfl) ?_
                    refine lv_iload_n hx hb dX2_sound_70 rfl (lv_at hl 1 rfl) ?_
                    refine ln_icmp_eq (tgt := 106) hx hb dX2_sound_71 (by decide) (by constructor <;> omega) (fun c71 => ?_) (fun c71 => ?_)
                    · refine lv_iconst (v := (nI 0)) hx hb dX2_sound_106 (by decide) ?_
                      have LPj : ∀ (hv2 : Bool), (hv2 = hA f ch s (tmN s) i u) → ∀ (H : Heap) (locs : List Loc) (ls : Array Slot), Hz D A s_.heap H locs (mW cI a s (fNp pst s np) (fNn0 np + 1) er od rk hs) → lv_has ls 8 [(0, .ref (a 0)), (1, .int (nI f)), (2, .int (nI ch)), (3, .int (nI (fMo (nI 31) s 5))), (4, .int (fHi f ch s (tmN s) i (fHo f ch s (tmN s) (fMo (nI 31) s 5) i) u)), (5, .int (nI i)), (6, .int (nI u))] → Wz p l e 4 s_ m args below meth c D A (some (.int ((pSound (nI f) (nI ch) s).1))) (mAft cI a s pst np er od rk hs od rk (pSound (nI f) (nI ch) s)) H locs (F0 m 107 ls [.int (b2i hv2)]) := by
                        intro hv2 hhv H locs ls hz hl
                        refine lv_istore (lv' := [(7, .int (b2i hv2)), (0, .ref (a 0)), (1, .int (nI f)), (2, .int (nI ch)), (3, .int (nI (fMo (nI 31) s 5))), (4, .int (fHi f ch s (tmN s) i (fHo f ch s (tmN s) (fMo (nI 31) s 5) i) u)), (5, .int (nI i)), (6, .int (nI u))]) hx hb dX2_sound_107 hl (by decide) rfl (fun ls hl => ?_)
                        refine lv_iload hx hb dX2_sound_109 (lv_at hl 5 rfl) ?_
                        refine lv_iload hx hb dX2_sound_111 (lv_at hl 0 rfl) ?_
                        refine lb_if_eq (tgt := 123) hx hb dX2_sound_113 (by decide) (fun c113 => ?_) (fun c113 => ?_)
                        · refine lv_iconst (v := (nI 0)) hx hb dX2_sound_123 (by decide) ?_
                          refine lv_ior hx hb dX2_sound_124 ?_
                          refine lv_istore (lv' := [(4, .int ((fHi f ch s (tmN s) i (fHo f ch s (tmN s) (fMo (nI 31) s 5) i) u) ||| (nI 0))), (7, .int (b2i hv2)), (0, .ref (a 0)), (1, .int (nI f)), (2, .int (nI ch)), (3, .int (nI (fMo (nI 31) s 5))), (5, .int (nI i)), (6, .int (nI u))]) hx hb dX2_sound_125 hl (by decide) rfl (fun ls hl => ?_)
                          refine lv_iinc (v := nI (u + 1)) (lv' := [(6, .int (nI (u + 1))), (4, .int ((fHi f ch s (tmN s) i (fHo f ch s (tmN s) (fMo (nI 31) s 5) i) u) ||| (nI 0))), (7, .int (b2i hv2)), (0, .ref (a 0)), (1, .int (nI f)), (2, .int (nI ch)), (3, .int (nI (fMo (nI 31) s 5))), (5, .int (nI i))]) hx hb dX2_sound_127 hl (k := 7) rfl (nI_add u 1) (by decide) rfl (fun ls hl => ?_)
                          refine lv_goto (tgt := 62) hx hb dX2_sound_130 (by decide) ?_
                          exact ih_LP62 (u + 1) (by omega) (by omega) H locs ls (hz.cast (by rfl)) (lv_cast (lv_sub hl [3, 4, 5, 6, 1, 7, 0] (l' := [(0, .ref (a 0)), (1, .int (nI f)), (2, .int (nI ch)), (3, .int (nI (fMo (nI 31) s 5))), (4, .int ((fHi f ch s (tmN s) i (fHo f ch s (tmN s) (fMo (nI 31) s 5) i) u) ||| (nI 0))), (5, .int (nI i)), (6, .int (nI (u + 1)))]) rfl) (by simp only [fHi]; simp [hhv ▸ c113]))
                        · refine lv_iconst (v := (nI 1)) hx hb dX2_sound_116 (by decide) ?_
                          refine lv_iload hx hb dX2_sound_117 (lv_at hl 6 rfl) ?_
                          refine lv_ishl hx hb dX2_sound_119 ?_
                          refine lv_goto (tgt := 124) hx hb dX2_sound_120 (by decide) ?_
                          refine lv_ior hx hb dX2_sound_124 ?_
                          refine lv_istore (lv' := [(4, .int ((fHi f ch s (tmN s) i (fHo f ch s (tmN s) (fMo (nI 31) s 5) i) u) ||| ((nI 1) <<< ((nI i) &&& 31)))), (7, .int (b2i hv2)), (0, .ref (a 0)), (1, .int (nI f)), (2, .int (nI ch)), (3, .int (nI (fMo (nI 31) s 5))), (5, .int (nI i)), (6, .int (nI u))]) hx hb dX2_sound_125 hl (by decide) rfl (fun ls hl => ?_)
                          refine lv_iinc (v := nI (u + 1)) (lv' := [(6, .int (nI (u + 1))), (4, .int ((fHi f ch s (tmN s) i (fHo f ch s (tmN s) (fMo (nI 31) s 5) i) u) ||| ((nI 1) <<< ((nI i) &&& 31)))), (7, .int (b2i hv2)), (0, .ref (a 0)), (1, .int (nI f)), (2, .int (nI ch)), (3, .int (nI (fMo (nI 31) s 5))), (5, .int (nI i))]) hx hb dX2_sound_127 hl (k := 7) rfl (nI_add u 1) (by decide) rfl (fun ls hl => ?_)
                          refine lv_goto (tgt := 62) hx hb dX2_sound_130 (by decide) ?_
                          exact ih_LP62 (u + 1) (by omega) (by omega) H locs ls (hz.cast (by rfl)) (lv_cast (lv_sub hl [3, 4, 5, 6, 1, 7, 0] (l' := [(0, .ref (a 0)), (1, .int (nI f)), (2, .int (nI ch)), (3, .int (nI (fMo (nI 31) s 5))), (4, .int ((fHi f ch s (tmN s) i (fHo f ch s (tmN s) (fMo (nI 31) s 5) i) u) ||| ((nI 1) <<< ((nI i) &&& 31)))), (5, .int (nI i)), (6, .int (nI (u + 1)))]) rfl) (by simp only [fHi]; simp [hhv ▸ c113]))
                      exact LPj  false (by simp [hA, c71])  H locs ls (hz.cast (by rfl)) (lv_cast (lv_sub hl [0, 1, 2, 3, 4, 5, 6] (l' := [(0, .ref (a 0)), (1, .int (nI f)), (2, .int (nI ch)), (3, .int (nI (fMo (nI 31) s 5))), (4, .int (fHi f ch s (tmN s) i (fHo f ch s (tmN s) (fMo (nI 31) s 5) i) u)), (5, .int (nI i)), (6, .int (nI u))]) rfl) (by rfl))
                    · refine lv_aload_n hx hb dX2_sound_74 rfl (lv_at hl 0 rfl) ?_
                      refine lv_iload hx hb dX2_sound_75 (lv_at hl 5 rfl) ?_
                      refine cV (C := RX2) (T := TX2) (N := 7) (ci := 2) (q0 := 0) (k := 4) (As := [.int (nI i)]) (rest := []) (v := .int (b2i (fLk s i))) (ws1 := (mW cI a s (fNp pst s np) (fNn0 np + 1) er od rk hs)) B hz hA (c_X2_isLinked l D cI cN a s (fNp pst s np) (fNn0 np + 1) er od rk hs i (by omega)) gX2_sound_X2_isLinked rfl rfl hd_X2_isLinked (by decide) rfl rfl rfl hl.1 rfl (Nat.le_of_ble_eq_true rfl) dX2_sound_77 (fun H locs hz => ?_)
                      refine lb_if_ne (tgt := 106) hx hb dX2_sound_80 (by decide) (fun c80 => ?_) (fun c80 => ?_)
                      · refine lv_iconst (v := (nI 0)) hx hb dX2_sound_106 (by decide) ?_
                        have LPj : ∀ (hv2 : Bool), (hv2 = hA f ch s (tmN s) i u) → ∀ (H : Heap) (locs : List Loc) (ls : Array Slot), Hz D A s_.heap H locs (mW cI a s (fNp pst s np) (fNn0 np + 1) er od rk hs) → lv_has ls 8 [(0, .ref (a 0)), (1, .int (nI f)), (2, .int (nI ch)), (3, .int (nI (fMo (nI 31) s 5))), (4, .int (fHi f ch s (tmN s) i (fHo f ch s (tmN s) (fMo (nI 31) s 5) i) u)), (5, .int (nI i)), (6, .int (nI u))] → Wz p l e 4 s_ m args below meth c D A (some (.int ((pSound (nI f) (nI ch) s).1))) (mAft cI a s pst np er od rk hs od rk (pSound (nI f) (nI ch) s)) H locs (F0 m 107 ls [.int (b2i hv2)]) := by
                          intro hv2 hhv H locs ls hz hl
                          refine lv_istore (lv' := [(7, .int (b2i hv2)), (0, .ref (a 0)), (1, .int (nI f)), (2, .int (nI ch)), (3, .int (nI (fMo (nI 31) s 5))), (4, .int (fHi f ch s (tmN s) i (fHo f ch s (tmN s) (fMo (nI 31) s 5) i) u)), (5, .int (nI i)), (6, .int (nI u))]) hx hb dX2_sound_107 hl (by decide) rfl (fun ls hl => ?_)
                          refine lv_iload hx hb dX2_sound_109 (lv_at hl 5 rfl) ?_
                          refine lv_iload hx hb dX2_sound_111 (lv_at hl 0 rfl) ?_
                          refine lb_if_eq (tgt := 123) hx hb dX2_sound_113 (by decide) (fun c113 => ?_) (fun c113 => ?_)
                          · refine lv_iconst (v := (nI 0)) hx hb dX2_sound_123 (by decide) ?_
                            refine lv_ior hx hb dX2_sound_124 ?_
                            refine lv_istore (lv' := [(4, .int ((fHi f ch s (tmN s) i (fHo f ch s (tmN s) (fMo (nI 31) s 5) i) u) ||| (nI 0))), (7, .int (b2i hv2)), (0, .ref (a 0)), (1, .int (nI f)), (2, .int (nI ch)), (3, .int (nI (fMo (nI 31) s 5))), (5, .int (nI i)), (6, .int (nI u))]) hx hb dX2_sound_125 hl (by decide) rfl (fun ls hl => ?_)
                            refine lv_iinc (v := nI (u + 1)) (lv' := [(6, .int (nI (u + 1))), (4, .int ((fHi f ch s (tmN s) i (fHo f ch s (tmN s) (fMo (nI 31) s 5) i) u) ||| (nI 0))), (7, .int (b2i hv2)), (0, .ref (a 0)), (1, .int (nI f)), (2, .int (nI ch)), (3, .int (nI (fMo (nI 31) s 5))), (5, .int (nI i))]) hx hb dX2_sound_127 hl (k := 7) rfl (nI_add u 1) (by decide) rfl (fun ls hl => ?_)
                            refine lv_goto (tgt := 62) hx hb dX2_sound_130 (by decide) ?_
                            exact ih_LP62 (u + 1) (by omega) (by omega) H locs ls (hz.cast (by rfl)) (lv_cast (lv_sub hl [3, 4, 5, 6, 1, 7, 0] (l' := [(0, .ref (a 0)), (1, .int (nI f)), (2, .int (nI ch)), (3, .int (nI (fMo (nI 31) s 5))), (4, .int ((fHi f ch s (tmN s) i (fHo f ch s (tmN s) (fMo (nI 31) s 5) i) u) ||| (nI 0))), (5, .int (nI i)), (6, .int (nI (u + 1)))]) rfl) (by simp only [fHi]; simp [hhv ▸ c113]))
                          · refine lv_iconst (v := (nI 1)) hx hb dX2_sound_116 (by decide) ?_
                            refine lv_iload hx hb dX2_sound_117 (lv_at hl 6 rfl) ?_
                            refine lv_ishl hx hb dX2_sound_119 ?_
                            refine lv_goto (tgt := 124) hx hb dX2_sound_120 (by decide) ?_
                            refine lv_ior hx hb dX2_sound_124 ?_
                            refine lv_istore (lv' := [(4, .int ((fHi f ch s (tmN s) i (fHo f ch s (tmN s) (fMo (nI 31) s 5) i) u) ||| ((nI 1) <<< ((nI i) &&& 31)))), (7, .int (b2i hv2)), (0, .ref (a 0)), (1, .int (nI f)), (2, .int (nI ch)), (3, .int (nI (fMo (nI 31) s 5))), (5, .int (nI i)), (6, .int (nI u))]) hx hb dX2_sound_125 hl (by decide) rfl (fun ls hl => ?_)
                            refine lv_iinc (v := nI (u + 1)) (lv' := [(6, .int (nI (u + 1))), (4, .int ((fHi f ch s (tmN s) i (fHo f ch s (tmN s) (fMo (nI 31) s 5) i) u) ||| ((nI 1) <<< ((nI i) &&& 31)))), (7, .int (b2i hv2)), (0, .ref (a 0)), (1, .int (nI f)), (2, .int (nI ch)), (3, .int (nI (fMo (nI 31) s 5))), (5, .int (nI i))]) hx hb dX2_sound_127 hl (k := 7) rfl (nI_add u 1) (by decide) rfl (fun ls hl => ?_)
                            refine lv_goto (tgt := 62) hx hb dX2_sound_130 (by decide) ?_
                            exact ih_LP62 (u + 1) (by omega) (by omega) H locs ls (hz.cast (by rfl)) (lv_cast (lv_sub hl [3, 4, 5, 6, 1, 7, 0] (l' := [(0, .ref (a 0)), (1, .int (nI f)), (2, .int (nI ch)), (3, .int (nI (fMo (nI 31) s 5))), (4, .int ((fHi f ch s (tmN s) i (fHo f ch s (tmN s) (fMo (nI 31) s 5) i) u) ||| ((nI 1) <<< ((nI i) &&& 31)))), (5, .int (nI i)), (6, .int (nI (u + 1)))]) rfl) (by simp only [fHi]; simp [hhv ▸ c113]))
                        exact LPj  false (by simp [hA, c71, c80])  H locs ls (hz.cast (by rfl)) (lv_cast (lv_sub hl [0, 1, 2, 3, 4, 5, 6] (l' := [(0, .ref (a 0)), (1, .int (nI f)), (2, .int (nI ch)), (3, .int (nI (fMo (nI 31) s 5))), (4, .int (fHi f ch s (tmN s) i (fHo f ch s (tmN s) (fMo (nI 31) s 5) i) u)), (5, .int (nI i)), (6, .int (nI u))]) rfl) (by rfl))
                      · refine lv_aload_n hx hb dX2_sound_83 rfl (lv_at hl 0 rfl) ?_
                        refine lv_iload hx hb dX2_sound_84 (lv_at hl 5 rfl) ?_
                        refine lv_aload_n hx hb dX2_sound_86 rfl (lv_at hl 0 rfl) ?_
                        refine gz (C := RX2) (T := TX2) (N := 7) (v := .ref (a 1)) B hz hinX2 0 rfl rfl 0 (by decide) lk7 rfl rfl dX2_sound_87 ?_
                        refine lv_iconst (v := (nI 0)) hx hb dX2_sound_90 (by decide) ?_
                        refine ildz (n := 624) (j := 0) (v := (s 0)) B hz 1 rfl (by omega) (by decide) rfl dX2_sound_91 ?_
                        refine cvt (y := nI (tmN s)) (show IvT s by assumption).1 ?_
                        refine lv_iload hx hb dX2_sound_92 (lv_at hl 6 rfl) ?_
                        refine ln_add hx hb dX2_sound_94 ?_
                        refine cV (C := RX2) (T := TX2) (N := 7) (ci := 2) (q0 := 0) (k := 4) (As := [.int (nI i), .int (nI ((tmN s) + u))]) (rest := []) (v := .int (nI (fLs (scn s i) ((tmN s) + u)))) (ws1 := (mW cI a s (fNp pst s np) (fNn0 np + 1) er od rk hs)) B hz hA (c_X2_listens l D cI cN a s (fNp pst s np) (fNn0 np + 1) er od rk hs i ((tmN s) + u) (by omega) (hI) (by have := hT.2; have := fMo_le (ms := nI 31) hI 5 (by omega); omega)) gX2_sound_X2_listens rfl rfl hd_X2_listens (by decide) rfl rfl rfl hl.1 rfl (Nat.le_of_ble_eq_true rfl) dX2_sound_95 (fun H locs hz => ?_)
                        refine lv_iload_n hx hb dX2_sound_98 rfl (lv_at hl 2 rfl) ?_
                        refine ln_icmp_ne (tgt := 106) hx hb dX2_sound_99 (by decide) (by have := (nth_ok (hI i (by omega)).2.1 (Nat.mod_lt (tmN s + u) (cnt_pos (hI i (by omega)).1 (hI i (by omega)).2.1))).1; unfold fLs; constructor <;> omega) (fun c99 => ?_) (fun c99 => ?_)
                        · refine lv_iconst (v := (nI 0)) hx hb dX2_sound_106 (by decide) ?_
                          have LPj : ∀ (hv2 : Bool), (hv2 = hA f ch s (tmN s) i u) → ∀ (H : Heap) (locs : List Loc) (ls : Array Slot), Hz D A s_.heap H locs (mW cI a s (fNp pst s np) (fNn0 np + 1) er od rk hs) → lv_has ls 8 [(0, .ref (a 0)), (1, .int (nI f)), (2, .int (nI ch)), (3, .int (nI (fMo (nI 31) s 5))), (4, .int (fHi f ch s (tmN s) i (fHo f ch s (tmN s) (fMo (nI 31) s 5) i) u)), (5, .int (nI i)), (6, .int (nI u))] → Wz p l e 4 s_ m args below meth c D A (some (.int ((pSound (nI f) (nI ch) s).1))) (mAft cI a s pst np er od rk hs od rk (pSound (nI f) (nI ch) s)) H locs (F0 m 107 ls [.int (b2i hv2)]) := by
                            intro hv2 hhv H locs ls hz hl
                            refine lv_istore (lv' := [(7, .int (b2i hv2)), (0, .ref (a 0)), (1, .int (nI f)), (2, .int (nI ch)), (3, .int (nI (fMo (nI 31) s 5))), (4, .int (fHi f ch s (tmN s) i (fHo f ch s (tmN s) (fMo (nI 31) s 5) i) u)), (5, .int (nI i)), (6, .int (nI u))]) hx hb dX2_sound_107 hl (by decide) rfl (fun ls hl => ?_)
                            refine lv_iload hx hb dX2_sound_109 (lv_at hl 5 rfl) ?_
                            refine lv_iload hx hb dX2_sound_111 (lv_at hl 0 rfl) ?_
                            refine lb_if_eq (tgt := 123) hx hb dX2_sound_113 (by decide) (fun c113 => ?_) (fun c113 => ?_)
                            · refine lv_iconst (v := (nI 0)) hx hb dX2_sound_123 (by decide) ?_
                              refine lv_ior hx hb dX2_sound_124 ?_
                              refine lv_istore (lv' := [(4, .int ((fHi f ch s (tmN s) i (fHo f ch s (tmN s) (fMo (nI 31) s 5) i) u) ||| (nI 0))), (7, .int (b2i hv2)), (0, .ref (a 0)), (1, .int (nI f)), (2, .int (nI ch)), (3, .int (nI (fMo (nI 31) s 5))), (5, .int (nI i)), (6, .int (nI u))]) hx hb dX2_sound_125 hl (by decide) rfl (fun ls hl => ?_)
                              refine lv_iinc (v := nI (u + 1)) (lv' := [(6, .int (nI (u + 1))), (4, .int ((fHi f ch s (tmN s) i (fHo f ch s (tmN s) (fMo (nI 31) s 5) i) u) ||| (nI 0))), (7, .int (b2i hv2)), (0, .ref (a 0)), (1, .int (nI f)), (2, .int (nI ch)), (3, .int (nI (fMo (nI 31) s 5))), (5, .int (nI i))]) hx hb dX2_sound_127 hl (k := 7) rfl (nI_add u 1) (by decide) rfl (fun ls hl => ?_)
                              refine lv_goto (tgt := 62) hx hb dX2_sound_130 (by decide) ?_
                              exact ih_LP62 (u + 1) (by omega) (by omega) H locs ls (hz.cast (by rfl)) (lv_cast (lv_sub hl [3, 4, 5, 6, 1, 7, 0] (l' := [(0, .ref (a 0)), (1, .int (nI f)), (2, .int (nI ch)), (3, .int (nI (fMo (nI 31) s 5))), (4, .int ((fHi f ch s (tmN s) i (fHo f ch s (tmN s) (fMo (nI 31) s 5) i) u) ||| (nI 0))), (5, .int (nI i)), (6, .int (nI (u + 1)))]) rfl) (by simp only [fHi]; simp [hhv ▸ c113]))
                            · refine lv_iconst (v := (nI 1)) hx hb dX2_sound_116 (by decide) ?_
                              refine lv_iload hx hb dX2_sound_117 (lv_at hl 6 rfl) ?_
                              refine lv_ishl hx hb dX2_sound_119 ?_
                              refine lv_goto (tgt := 124) hx hb dX2_sound_120 (by decide) ?_
                              refine lv_ior hx hb dX2_sound_124 ?_
                              refine lv_istore (lv' := [(4, .int ((fHi f ch s (tmN s) i (fHo f ch s (tmN s) (fMo (nI 31) s 5) i) u) ||| ((nI 1) <<< ((nI i) &&& 31)))), (7, .int (b2i hv2)), (0, .ref (a 0)), (1, .int (nI f)), (2, .int (nI ch)), (3, .int (nI (fMo (nI 31) s 5))), (5, .int (nI i)), (6, .int (nI u))]) hx hb dX2_sound_125 hl (by decide) rfl (fun ls hl => ?_)
                              refine lv_iinc (v := nI (u + 1)) (lv' := [(6, .int (nI (u + 1))), (4, .int ((fHi f ch s (tmN s) i (fHo f ch s (tmN s) (fMo (nI 31) s 5) i) u) ||| ((nI 1) <<< ((nI i) &&& 31)))), (7, .int (b2i hv2)), (0, .ref (a 0)), (1, .int (nI f)), (2, .int (nI ch)), (3, .int (nI (fMo (nI 31) s 5))), (5, .int (nI i))]) hx hb dX2_sound_127 hl (k := 7) rfl (nI_add u 1) (by decide) rfl (fun ls hl => ?_)
                              refine lv_goto (tgt := 62) hx hb dX2_sound_130 (by decide) ?_
                              exact ih_LP62 (u + 1) (by omega) (by omega) H locs ls (hz.cast (by rfl)) (lv_cast (lv_sub hl [3, 4, 5, 6, 1, 7, 0] (l' := [(0, .ref (a 0)), (1, .int (nI f)), (2, .int (nI ch)), (3, .int (nI (fMo (nI 31) s 5))), (4, .int ((fHi f ch s (tmN s) i (fHo f ch s (tmN s) (fMo (nI 31) s 5) i) u) ||| ((nI 1) <<< ((nI i) &&& 31)))), (5, .int (nI i)), (6, .int (nI (u + 1)))]) rfl) (by simp only [fHi]; simp [hhv ▸ c113]))
                          exact LPj  false (by simp [hA, c71, c80, c99])  H locs ls (hz.cast (by rfl)) (lv_cast (lv_sub hl [0, 1, 2, 3, 4, 5, 6] (l' := [(0, .ref (a 0)), (1, .int (nI f)), (2, .int (nI ch)), (3, .int (nI (fMo (nI 31) s 5))), (4, .int (fHi f ch s (tmN s) i (fHo f ch s (tmN s) (fMo (nI 31) s 5) i) u)), (5, .int (nI i)), (6, .int (nI u))]) rfl) (by rfl))
                        · refine lv_iconst (v := (nI 1)) hx hb dX2_sound_102 (by decide) ?_
                          refine lv_goto (tgt := 107) hx hb dX2_sound_103 (by decide) ?_
                          have LPj : ∀ (hv2 : Bool), (hv2 = hA f ch s (tmN s) i u) → ∀ (H : Heap) (locs : List Loc) (ls : Array Slot), Hz D A s_.heap H locs (mW cI a s (fNp pst s np) (fNn0 np + 1) er od rk hs) → lv_has ls 8 [(0, .ref (a 0)), (1, .int (nI f)), (2, .int (nI ch)), (3, .int (nI (fMo (nI 31) s 5))), (4, .int (fHi f ch s (tmN s) i (fHo f ch s (tmN s) (fMo (nI 31) s 5) i) u)), (5, .int (nI i)), (6, .int (nI u))] → Wz p l e 4 s_ m args below meth c D A (some (.int ((pSound (nI f) (nI ch) s).1))) (mAft cI a s pst np er od rk hs od rk (pSound (nI f) (nI ch) s)) H locs (F0 m 107 ls [.int (b2i hv2)]) := by
                            intro hv2 hhv H locs ls hz hl
                            refine lv_istore (lv' := [(7, .int (b2i hv2)), (0, .ref (a 0)), (1, .int (nI f)), (2, .int (nI ch)), (3, .int (nI (fMo (nI 31) s 5))), (4, .int (fHi f ch s (tmN s) i (fHo f ch s (tmN s) (fMo (nI 31) s 5) i) u)), (5, .int (nI i)), (6, .int (nI u))]) hx hb dX2_sound_107 hl (by decide) rfl (fun ls hl => ?_)
                            refine lv_iload hx hb dX2_sound_109 (lv_at hl 5 rfl) ?_
                            refine lv_iload hx hb dX2_sound_111 (lv_at hl 0 rfl) ?_
                            refine lb_if_eq (tgt := 123) hx hb dX2_sound_113 (by decide) (fun c113 => ?_) (fun c113 => ?_)
                            · refine lv_iconst (v := (nI 0)) hx hb dX2_sound_123 (by decide) ?_
                              refine lv_ior hx hb dX2_sound_124 ?_
                              refine lv_istore (lv' := [(4, .int ((fHi f ch s (tmN s) i (fHo f ch s (tmN s) (fMo (nI 31) s 5) i) u) ||| (nI 0))), (7, .int (b2i hv2)), (0, .ref (a 0)), (1, .int (nI f)), (2, .int (nI ch)), (3, .int (nI (fMo (nI 31) s 5))), (5, .int (nI i)), (6, .int (nI u))]) hx hb dX2_sound_125 hl (by decide) rfl (fun ls hl => ?_)
                              refine lv_iinc (v := nI (u + 1)) (lv' := [(6, .int (nI (u + 1))), (4, .int ((fHi f ch s (tmN s) i (fHo f ch s (tmN s) (fMo (nI 31) s 5) i) u) ||| (nI 0))), (7, .int (b2i hv2)), (0, .ref (a 0)), (1, .int (nI f)), (2, .int (nI ch)), (3, .int (nI (fMo (nI 31) s 5))), (5, .int (nI i))]) hx hb dX2_sound_127 hl (k := 7) rfl (nI_add u 1) (by decide) rfl (fun ls hl => ?_)
                              refine lv_goto (tgt := 62) hx hb dX2_sound_130 (by decide) ?_
                              exact ih_LP62 (u + 1) (by omega) (by omega) H locs ls (hz.cast (by rfl)) (lv_cast (lv_sub hl [3, 4, 5, 6, 1, 7, 0] (l' := [(0, .ref (a 0)), (1, .int (nI f)), (2, .int (nI ch)), (3, .int (nI (fMo (nI 31) s 5))), (4, .int ((fHi f ch s (tmN s) i (fHo f ch s (tmN s) (fMo (nI 31) s 5) i) u) ||| (nI 0))), (5, .int (nI i)), (6, .int (nI (u + 1)))]) rfl) (by simp only [fHi]; simp [hhv ▸ c113]))
                            · refine lv_iconst (v := (nI 1)) hx hb dX2_sound_116 (by decide) ?_
                              refine lv_iload hx hb dX2_sound_117 (lv_at hl 6 rfl) ?_
                              refine lv_ishl hx hb dX2_sound_119 ?_
                              refine lv_goto (tgt := 124) hx hb dX2_sound_120 (by decide) ?_
                              refine lv_ior hx hb dX2_sound_124 ?_
                              refine lv_istore (lv' := [(4, .int ((fHi f ch s (tmN s) i (fHo f ch s (tmN s) (fMo (nI 31) s 5) i) u) ||| ((nI 1) <<< ((nI i) &&& 31)))), (7, .int (b2i hv2)), (0, .ref (a 0)), (1, .int (nI f)), (2, .int (nI ch)), (3, .int (nI (fMo (nI 31) s 5))), (5, .int (nI i)), (6, .int (nI u))]) hx hb dX2_sound_125 hl (by decide) rfl (fun ls hl => ?_)
                              refine lv_iinc (v := nI (u + 1)) (lv' := [(6, .int (nI (u + 1))), (4, .int ((fHi f ch s (tmN s) i (fHo f ch s (tmN s) (fMo (nI 31) s 5) i) u) ||| ((nI 1) <<< ((nI i) &&& 31)))), (7, .int (b2i hv2)), (0, .ref (a 0)), (1, .int (nI f)), (2, .int (nI ch)), (3, .int (nI (fMo (nI 31) s 5))), (5, .int (nI i))]) hx hb dX2_sound_127 hl (k := 7) rfl (nI_add u 1) (by decide) rfl (fun ls hl => ?_)
                              refine lv_goto (tgt := 62) hx hb dX2_sound_130 (by decide) ?_
                              exact ih_LP62 (u + 1) (by omega) (by omega) H locs ls (hz.cast (by rfl)) (lv_cast (lv_sub hl [3, 4, 5, 6, 1, 7, 0] (l' := [(0, .ref (a 0)), (1, .int (nI f)), (2, .int (nI ch)), (3, .int (nI (fMo (nI 31) s 5))), (4, .int ((fHi f ch s (tmN s) i (fHo f ch s (tmN s) (fMo (nI 31) s 5) i) u) ||| ((nI 1) <<< ((nI i) &&& 31)))), (5, .int (nI i)), (6, .int (nI (u + 1)))]) rfl) (by simp only [fHi]; simp [hhv ▸ c113]))
                          exact LPj  true (by simp [hA, c71, c80, c99])  H locs ls (hz.cast (by rfl)) (lv_cast (lv_sub hl [0, 1, 2, 3, 4, 5, 6] (l' := [(0, .ref (a 0)), (1, .int (nI f)), (2, .int (nI ch)), (3, .int (nI (fMo (nI 31) s 5))), (4, .int (fHi f ch s (tmN s) i (fHo f ch s (tmN s) (fMo (nI 31) s 5) i) u)), (5, .int (nI i)), (6, .int (nI u))]) rfl) (by rfl))
              exact LP62 _ 0 (Nat.zero_le _) (Nat.lt_succ_self _) H locs ls (hz.cast (by rfl)) (lv_cast (lv_sub hl [1, 2, 3, 4, 5, 6, 0] (l' := [(0, .ref (a 0)), (1, .int (nI f)), (2, .int (nI ch)), (3, .int (nI (fMo (nI 31) s 5))), (4, .int (fHo f ch s (tmN s) (fMo (nI 31) s 5) i)), (5, .int (nI i)), (6, .int (nI 0))]) rfl) (by rfl))
        exact LP53 _ 0 (by omega) (Nat.lt_succ_self _) H locs ls (hz.cast (by rfl)) (lv_cast (lv_sub hl [3, 4, 5, 2, 1, 0] (l' := [(0, .ref (a 0)), (1, .int (nI f)), (2, .int (nI ch)), (3, .int (nI (fMo (nI 31) s 5))), (4, .int (nI 0)), (5, .int (nI 0))]) rfl) (by rfl))
      · refine lv_aload_n hx hb dX2_sound_29 rfl (lv_at hl 0 rfl) ?_
        refine lv_bipush (v := (-3)) hx hb dX2_sound_30 (by decide) ?_
        refine cV (C := RX2) (T := TX2) (N := 7) (ci := 2) (q0 := 0) (k := 4) (As := [.int (-3)]) (rest := []) (v := .int (-3)) (ws1 := (mW cI a s pst np (upd er (fIx (-3)) (er (fIx (-3)) + nI 1)) od rk hs)) B hz hA (c_X2_fail l D cI cN a s pst np er od rk hs (-3) (by first | exact Or.inl rfl | exact Or.inr rfl)) gX2_sound_X2_fail rfl rfl hd_X2_fail (by decide) rfl rfl rfl hl.1 rfl (Nat.le_of_ble_eq_true rfl) dX2_sound_32 (fun H locs hz => ?_)
        exact rz_i B hr hz dX2_sound_35 (by first | (simp [pSound, c4, c11, c26]; done) | (simp [pSound, c4, c11, c26, tn5 hf]; done) | (rw [fSm_eq hI hc]; simp [pSound, c4, c11, c26, tn5 hf, tn8 hc]; done)) (by first | exact mAft_n (by simp [pSound, c4, c11, c26]; done) | exact mAft_n (by simp [pSound, c4, c11, c26, tn5 hf]; done) | (rw [fSm_eq hI hc]; exact mAft_s (r := (fSo f ch (fS0 s) 5).1) (by simp [pSound, c4, c11, c26, tn5 hf, tn8 hc])))
    · refine lv_aload_n hx hb dX2_sound_14 rfl (lv_at hl 0 rfl) ?_
      refine lv_bipush (v := (-2)) hx hb dX2_sound_15 (by decide) ?_
      refine cV (C := RX2) (T := TX2) (N := 7) (ci := 2) (q0 := 0) (k := 4) (As := [.int (-2)]) (rest := []) (v := .int (-2)) (ws1 := (mW cI a s pst np (upd er (fIx (-2)) (er (fIx (-2)) + nI 1)) od rk hs)) B hz hA (c_X2_fail l D cI cN a s pst np er od rk hs (-2) (by first | exact Or.inl rfl | exact Or.inr rfl)) gX2_sound_X2_fail rfl rfl hd_X2_fail (by decide) rfl rfl rfl hl.1 rfl (Nat.le_of_ble_eq_true rfl) dX2_sound_17 (fun H locs hz => ?_)
      exact rz_i B hr hz dX2_sound_20 (by first | (simp [pSound, c4, c11]; done) | (simp [pSound, c4, c11, tn5 hf]; done) | (rw [fSm_eq hI hc]; simp [pSound, c4, c11, c26, tn5 hf, tn8 hc]; done)) (by first | exact mAft_n (by simp [pSound, c4, c11]; done) | exact mAft_n (by simp [pSound, c4, c11, tn5 hf]; done) | (rw [fSm_eq hI hc]; exact mAft_s (r := (fSo f ch (fS0 s) 5).1) (by simp [pSound, c4, c11, c26, tn5 hf, tn8 hc])))
