theorem bt_bit {i b : Nat} (hi : i < 32) (hb : b < 32) : bt (nI 1 <<< (nI i &&& 31)) b = decide (b = i) := by
  rw [b_shl i hi _ hb, bt_1]
  by_cases h : b = i
  · subst h; simp
  · have : ¬ (i ≤ b ∧ b - i = 0) := by omega
    by_cases h1 : i ≤ b
    · have : ¬ b - i = 0 := by omega
      simp [h, this]
    · simp [h, h1]
theorem fHi_bt (k c : Nat) (s : Sz) (T i : Nat) (acc : Int32) {b : Nat} (hi : i < 32) (hb : b < 32) : ∀ n, bt (fHi k c s T i acc n) b = (bt acc b || (decide (b = i) && (List.range n).any (fun t => fHa k c s T i t)))
  | 0 => by simp [fHi]
  | n + 1 => by
    have ih := fHi_bt k c s T i acc hi hb n
    have e : bt (if fHa k c s T i n = true then nI 1 <<< (nI i &&& 31) else nI 0) b = (decide (b = i) && fHa k c s T i n) := by
      cases fHa k c s T i n
      · rw [if_neg (by decide), Bool.and_false]; exact b_0 b
      · rw [if_pos rfl, bt_bit hi hb, Bool.and_true]
    show bt (fHi k c s T i acc n ||| (if fHa k c s T i n = true then nI 1 <<< (nI i &&& 31) else nI 0)) b = _
    rw [b_or, ih, e, List.range_succ, List.any_append]
    cases bt acc b <;> cases decide (b = i) <;> simp
theorem fHo_bt (k c : Nat) (s : Sz) (T n : Nat) {b : Nat} (hb : b < 32) : ∀ m, m ≤ 5 → bt (fHo k c s T n m) b = (decide (b < m) && (List.range n).any (fun t => fHa k c s T b t))
  | 0, _ => by
    show bt (nI 0) b = _
    rw [show bt (nI 0) b = false from b_0 b]
    simp
  | m + 1, hm => by
    have ih := fHo_bt k c s T n hb m (by omega)
    show bt (fHi k c s T m (fHo k c s T n m) n) b = _
    rw [fHi_bt k c s T m _ (by omega) hb, ih]
    by_cases h : b = m
    · subst h; simp
    · have e : decide (b < m + 1) = decide (b < m) := by simp only [decide_eq_decide]; omega
      rw [e]
      simp [h]
def nthC (t : Nat) : Bool := (List.range 8).all (fun c => !fHas (nI t) (nI c) || (decide (rkc t c < cnt t) && decide (nth t (rkc t c) = c)))
theorem nthC_ok : ∀ t, t < 256 → nthC t = true := by decide +kernel
theorem nth_of {t c : Nat} (ht : t < 256) (hc : c < 8) (h : fHas (nI t) (nI c) = true) : rkc t c < cnt t ∧ nth t (rkc t c) = c := by
  have h1 := List.all_eq_true.mp (nthC_ok t ht) c (List.mem_range.mpr hc)
  rw [h] at h1
  simpa using h1
theorem fMo_ge {ms : Int32} {s : Sz} {b : Nat} (hh : fHas ms (nI b) = true) : ∀ i, b < i → cnt (scn s b) ≤ fMo ms s i
  | 0, h => by cases h
  | i + 1, h => by
    simp only [fMo]
    by_cases hb : b = i
    · subst hb
      rw [if_pos hh]
      omega
    · have ih := fMo_ge (s := s) hh i (by omega)
      split <;> omega
theorem all5 : ∀ b, b < 5 → fHas (nI 31) (nI b) = true := by decide +kernel
theorem hear_any {k c b : Nat} {s : Sz} (hI : IvS s) (hb : b < 5) (hc : c < 8) (T : Nat) : (List.range (fMo (nI 31) s 5)).any (fun t => fHa k c s T b t) = (!decide (b = k) && fHe s b c) := by
  obtain ⟨h1, h2, h3⟩ := hI b hb
  have hcp := cnt_pos h1 h2
  have hge := fMo_ge (s := s) (all5 b hb) 5 hb
  have key : (∃ t, t < fMo (nI 31) s 5 ∧ fLs (scn s b) (T + t) = c) ↔ fHas (s (9 + b)) (nI c) = true := by
    rw [h3]
    constructor
    · rintro ⟨t, -, e⟩
      rw [← e]
      exact (nth_ok h2 (Nat.mod_lt _ hcp)).2.1
    · intro h
      obtain ⟨a1, a2⟩ := nth_of h2 hc h
      generalize hr : rkc (scn s b) c = r at a1 a2
      generalize hn : cnt (scn s b) = n at a1 hge hcp
      have hm := Nat.mod_lt T (show 0 < n from hcp)
      refine ⟨(r + n - T % n) % n, Nat.lt_of_lt_of_le (Nat.mod_lt _ hcp) hge, ?_⟩
      unfold fLs
      rw [hn]
      have e : (T + (r + n - T % n) % n) % n = r := by
        rw [Nat.add_mod, Nat.mod_mod, ← Nat.add_mod]
        have hd := Nat.div_add_mod T n
        have e2 : T + (r + n - T % n) = r + n * (T / n + 1) := by
          rw [Nat.mul_add, Nat.mul_one]
          omega
        rw [e2, Nat.add_mul_mod_self_left, Nat.mod_eq_of_lt a1]
      rw [e, a2]
  rw [Bool.eq_iff_iff, List.any_eq_true]
  unfold fHe
  simp only [fHa, Bool.and_eq_true, Bool.not_eq_true', decide_eq_false_iff_not, decide_eq_true_eq, List.mem_range]
  constructor
  · rintro ⟨t, ht, g1, g2, g3⟩
    exact ⟨g1, g2, key.mp ⟨t, ht, g3⟩⟩
  · rintro ⟨g1, g2, g3⟩
    obtain ⟨t, ht, e⟩ := key.mpr g3
    exact ⟨t, ht, g1, g2, e⟩
theorem fHm_has {k c b : Nat} {s : Sz} (hI : IvS s) (hb : b < 5) (hc : c < 8) : fHas (fHm k c s) (nI b) = (!decide (b = k) && fHe s b c) := by
  rw [fHas_bt _ (by omega)]
  unfold fHm
  rw [fHo_bt k c s _ _ (by omega) 5 (Nat.le_refl _), hear_any hI hb hc, decide_eq_true hb, Bool.true_and]
theorem fSm_eq5 {k c : Nat} {s : Sz} (hI : IvS s) (hc : c < 8) : ∀ i, i ≤ 5 → fSm k c (fHm k c s) (fS0 s) i = fSo k c (fS0 s) i
  | 0, _ => rfl
  | i + 1, hi => by
    have ih := fSm_eq5 (k := k) hI hc i (by omega)
    have e : fHe (fSo k c (fS0 s) i).2 i c = fHe s i c := by
      apply fHe_of
      · rw [fSo_out (by omega)]; unfold fS0; rw [pk_un (by omega)]
      · rw [fSo_out (by omega)]; unfold fS0; rw [pk_un (by omega)]
    simp only [fSm, fSo]
    rw [fHm_has hI (by omega) hc, ih, e]
    by_cases h : i = k
    · simp [h]
    · cases fHe s i c <;> simp [h]
theorem fSm_eq {k c : Nat} {s : Sz} (hI : IvS s) (hc : c < 8) : fSm k c (fHm k c s) (fS0 s) 5 = fSo k c (fS0 s) 5 := fSm_eq5 hI hc 5 (Nat.le_refl _)
theorem hd_X2_setScan : hdZ yX2_setScan 2 := by decide +kernel
set_option maxRecDepth 100000 in
set_option maxHeartbeats 4000000 in
theorem c_X2_setScan (l : Launch) (D : va_G) (cI cN : ClassId) (a : Nat → Nat) (s : Sz) (pst : Sz) (np : Nat) (er : Sz) (od : Sz) (rk : Sz) (hs : Int64) (x : Int32) (y : Int32) (hnp : np ≤ 4) : Fn l D cI cN yX2_setScan wsX2_setScan 3 (mW cI a s pst np er od rk hs) [.ref (a 0), .int x, .int y] (some (.int ((pSetScan x y s).1))) (mAft cI a s pst np er od rk hs od rk (pSetScan x y s)) := by
  refine Fn.of (cc := cX2_setScan) (nL := 4) (ret := (some .int)) (lv := [(0, .ref (a 0)), (1, .int x), (2, .int y)]) (by decide +kernel) rfl (Nat.le_of_ble_eq_true rfl) rfl ?_
  intro p e s_ m args below meth c A B hr hA H locs ls hz hl
  have hx := B.1.1
  have hb := B.1.2.1
  have hinX2 : ∀ w ∈ u_ws RX2 TX2 7, w ∈ wsX2_setScan := by decide +kernel
  have lk7 : Cond.fieldLink yX2_setScan.cls 7 RX2 (TX2 0).2.1 (TX2 0).2.2.1 ∈ wsX2_setScan := by decide +kernel
  refine lv_iload_n hx hb dX2_setScan_0 rfl (lv_at hl 1 rfl) ?_
  refine cS (k := 3) (As := [.int x]) (rest := []) (v := .int (b2i (fSt x))) B hz hA (c_X2_isStation l D cI cN x ) gX2_setScan_X2_isStation rfl hd_X2_isStation (by decide) rfl hl.1 rfl (Nat.le_of_ble_eq_true rfl) dX2_setScan_1 (fun H locs hz => ?_)
  refine lb_if_eq (tgt := 18) hx hb dX2_setScan_4 (by decide) (fun c4 => ?_) (fun c4 => ?_)
  · refine lv_aload_n hx hb dX2_setScan_18 rfl (lv_at hl 0 rfl) ?_
    refine lv_bipush (v := (-2)) hx hb dX2_setScan_19 (by decide) ?_
    refine cV (C := RX2) (T := TX2) (N := 7) (ci := 2) (q0 := 0) (k := 3) (As := [.int (-2)]) (rest := []) (v := .int (-2)) (ws1 := (mW cI a s pst np (upd er (fIx (-2)) (er (fIx (-2)) + nI 1)) od rk hs)) B hz hA (c_X2_fail l D cI cN a s pst np er od rk hs (-2) (by first | exact Or.inl rfl | exact Or.inr rfl)) gX2_setScan_X2_fail rfl rfl hd_X2_fail (by decide) rfl rfl rfl hl.1 rfl (Nat.le_of_ble_eq_true rfl) dX2_setScan_21 (fun H locs hz => ?_)
    exact rz_i B hr hz dX2_setScan_24 (by first | (simp [pSetScan, c4]; done) | (simp [pSetScan, c4, tn5 hf]; done)) (by first | (refine mAft_n ?_; simp [pSetScan, c4]; done) | (refine mAft_s (r := s (9 + f)) ?_; simp [pSetScan, c4, tn5 hf]; first | done | rfl))
  · obtain ⟨f, hf, rfl⟩ := fSt_nat c4
    refine lv_iload_n hx hb dX2_setScan_7 rfl (lv_at hl 2 rfl) ?_
    refine lv_iconst (v := (nI 1)) hx hb dX2_setScan_8 (by decide) ?_
    refine lv_sipush (v := (nI 255)) hx hb dX2_setScan_9 (by decide) ?_
    refine cS (k := 3) (As := [.int y, .int (nI 1), .int (nI 255)]) (rest := []) (v := .int (b2i (fIn y (nI 1) (nI 255)))) B hz hA (c_X2_in l D cI cN y (nI 1) (nI 255) ) gX2_setScan_X2_in rfl hd_X2_in (by decide) rfl hl.1 rfl (Nat.le_of_ble_eq_true rfl) dX2_setScan_12 (fun H locs hz => ?_)
    refine lb_if_ne (tgt := 25) hx hb dX2_setScan_15 (by decide) (fun c15 => ?_) (fun c15 => ?_)
    · refine lv_aload_n hx hb dX2_setScan_25 rfl (lv_at hl 0 rfl) ?_
      refine cVv (C := RX2) (T := TX2) (N := 7) (ci := 2) (q0 := 0) (k := 3) (As := []) (rest := []) (ws1 := (mW cI a s (fNp pst s np) (fNn0 np + 1) er od rk hs)) B hz hA (c_X2_note l D cI cN a s pst np er od rk hs  (hnp)) gX2_setScan_X2_note rfl rfl hd_X2_note (by decide) rfl rfl rfl hl.1 rfl (Nat.le_of_ble_eq_true rfl) dX2_setScan_26 (fun H locs hz => ?_)
      refine lv_aload_n hx hb dX2_setScan_29 rfl (lv_at hl 0 rfl) ?_
      refine gz (C := RX2) (T := TX2) (N := 7) (v := .ref (a 1)) B hz hinX2 0 rfl rfl 0 (by decide) lk7 rfl rfl dX2_setScan_30 ?_
      refine lv_bipush (v := (nI 9)) hx hb dX2_setScan_33 (by decide) ?_
      refine lv_iload_n hx hb dX2_setScan_35 rfl (lv_at hl 1 rfl) ?_
      refine ln_add hx hb dX2_setScan_36 ?_
      refine ildz (n := 624) (j := (9 + f)) (v := (s (9 + f))) B hz 1 rfl (by omega) (by decide) rfl dX2_setScan_37 ?_
      refine lv_istore_n (lv' := [(3, .int (s (9 + f))), (0, .ref (a 0)), (1, .int (nI f)), (2, .int y)]) hx hb dX2_setScan_38 rfl hl (by decide) rfl (fun ls hl => ?_)
      refine lv_aload_n hx hb dX2_setScan_39 rfl (lv_at hl 1 rfl) ?_
      refine gz (C := RX2) (T := TX2) (N := 7) (v := .ref (a 1)) B hz hinX2 0 rfl rfl 0 (by decide) lk7 rfl rfl dX2_setScan_40 ?_
      refine lv_bipush (v := (nI 9)) hx hb dX2_setScan_43 (by decide) ?_
      refine lv_iload_n hx hb dX2_setScan_45 rfl (lv_at hl 2 rfl) ?_
      refine ln_add hx hb dX2_setScan_46 ?_
      refine lv_iload_n hx hb dX2_setScan_47 rfl (lv_at hl 3 rfl) ?_
      refine istz (n := 624) (j := (9 + f)) (ws1 := (mW cI a (upd s (9 + f) y) (fNp pst s np) (fNn0 np + 1) er od rk hs)) B hz 1 rfl (by omega) (by decide) rfl dX2_setScan_48 (fun H locs hz => ?_)
      refine lv_iload_n hx hb dX2_setScan_49 rfl (lv_at hl 0 rfl) ?_
      exact rz_i B hr hz dX2_setScan_50 (by first | (simp [pSetScan, c4, c15]; done) | (simp [pSetScan, c4, c15, tn5 hf]; done)) (by first | (refine mAft_n ?_; simp [pSetScan, c4, c15]; done) | (refine mAft_s (r := s (9 + f)) ?_; simp [pSetScan, c4, c15, tn5 hf]; first | done | rfl))
    · refine lv_aload_n hx hb dX2_setScan_18 rfl (lv_at hl 0 rfl) ?_
      refine lv_bipush (v := (-2)) hx hb dX2_setScan_19 (by decide) ?_
      refine cV (C := RX2) (T := TX2) (N := 7) (ci := 2) (q0 := 0) (k := 3) (As := [.int (-2)]) (rest := []) (v := .int (-2)) (ws1 := (mW cI a s pst np (upd er (fIx (-2)) (er (fIx (-2)) + nI 1)) od rk hs)) B hz hA (c_X2_fail l D cI cN a s pst np er od rk hs (-2) (by first | exact Or.inl rfl | exact Or.inr rfl)) gX2_setScan_X2_fail rfl rfl hd_X2_fail (by decide) rfl rfl rfl hl.1 rfl (Nat.le_of_ble_eq_true rfl) dX2_setScan_21 (fun H locs hz => ?_)
      exact rz_i B hr hz dX2_setScan_24 (by first | (simp [pSetScan, c4, c15]; done) | (simp [pSetScan, c4, c15, tn5 hf]; done)) (by first | (refine mAft_n ?_; simp [pSetScan, c4, c15]; done) | (refine mAft_s (r := s (9 + f)) ?_; simp [pSetScan, c4, c15, tn5 hf]; first | done | rfl))
theorem hd_X2_setQuality : hdZ yX2_setQuality 4 := by decide +kernel
set_option maxRecDepth 100000 in
set_option maxHeartbeats 4000000 in
theorem c_X2_setQuality (l : Launch) (D : va_G) (cI cN : ClassId) (a : Nat → Nat) (s : Sz) (pst : Sz) (np : Nat) (er : Sz) (od : Sz) (rk : Sz) (hs : Int64) (x : Int32) (y : Int32) (z : Int32) (q : Int32) (hnp : np ≤ 4) : Fn l D cI cN yX2_setQuality wsX2_setQuality 3 (mW cI a s pst np er od rk hs) [.ref (a 0), .int x, .int y, .int z, .int q] (some (.int ((pSetQ x y z q s).1))) (mAft cI a s pst np er od rk hs od rk (pSetQ x y z q s)) := by
  refine Fn.of (cc := cX2_setQuality) (nL := 6) (ret := (some .int)) (lv := [(0, .ref (a 0)), (1, .int x), (2, .int y), (3, .int z), (4, .int q)]) (by decide +kernel) rfl (Nat.le_of_ble_eq_true rfl) rfl ?_
  intro p e s_ m args below meth c A B hr hA H locs ls hz hl
  have hx := B.1.1
  have hb := B.1.2.1
  have hinX2 : ∀ w ∈ u_ws RX2 TX2 7, w ∈ wsX2_setQuality := by decide +kernel
  have lk7 : Cond.fieldLink yX2_setQuality.cls 7 RX2 (TX2 0).2.1 (TX2 0).2.2.1 ∈ wsX2_setQuality := by decide +kernel
  refine lv_iload_n hx hb dX2_setQuality_0 rfl (lv_at hl 1 rfl) ?_
  refine lv_iload_n hx hb dX2_setQuality_1 rfl (lv_at hl 2 rfl) ?_
  refine cS (k := 3) (As := [.int x, .int y]) (rest := []) (v := .int (b2i (fPr x y))) B hz hA (c_X2_arePair l D cI cN x y ) gX2_setQuality_X2_arePair rfl hd_X2_arePair (by decide) rfl hl.1 rfl (Nat.le_of_ble_eq_true rfl) dX2_setQuality_2 (fun H locs hz => ?_)
  refine lb_if_eq (tgt := 26) hx hb dX2_setQuality_5 (by decide) (fun c5 => ?_) (fun c5 => ?_)
  · refine lv_aload_n hx hb dX2_setQuality_26 rfl (lv_at hl 0 rfl) ?_
    refine lv_bipush (v := (-2)) hx hb dX2_setQuality_27 (by decide) ?_
    refine cV (C := RX2) (T := TX2) (N := 7) (ci := 2) (q0 := 0) (k := 3) (As := [.int (-2)]) (rest := []) (v := .int (-2)) (ws1 := (mW cI a s pst np (upd er (fIx (-2)) (er (fIx (-2)) + nI 1)) od rk hs)) B hz hA (c_X2_fail l D cI cN a s pst np er od rk hs (-2) (by first | exact Or.inl rfl | exact Or.inr rfl)) gX2_setQuality_X2_fail rfl rfl hd_X2_fail (by decide) rfl rfl rfl hl.1 rfl (Nat.le_of_ble_eq_true rfl) dX2_setQuality_29 (fun H locs hz => ?_)
    exact rz_i B hr hz dX2_setQuality_32 (by first | (simp [pSetQ, fTh, c5]; done) | (simp [pSetQ, fTh, c5, tn5 hf, tn5 ht, tn8 hc]; done)) (by first | (refine mAft_n ?_; simp [pSetQ, fTh, c5]; done) | (refine mAft_s (r := s (24 + fAt f t ch)) ?_; simp [pSetQ, fTh, c5, tn5 hf, tn5 ht, tn8 hc]; first | done | rfl))
  · refine lv_iload_n hx hb dX2_setQuality_8 rfl (lv_at hl 3 rfl) ?_
    refine cS (k := 3) (As := [.int z]) (rest := []) (v := .int (b2i (fCh z))) B hz hA (c_X2_isChannel l D cI cN z ) gX2_setQuality_X2_isChannel rfl hd_X2_isChannel (by decide) rfl hl.1 rfl (Nat.le_of_ble_eq_true rfl) dX2_setQuality_9 (fun H locs hz => ?_)
    refine lb_if_eq (tgt := 26) hx hb dX2_setQuality_12 (by decide) (fun c12 => ?_) (fun c12 => ?_)
    · refine lv_aload_n hx hb dX2_setQuality_26 rfl (lv_at hl 0 rfl) ?_
      refine lv_bipush (v := (-2)) hx hb dX2_setQuality_27 (by decide) ?_
      refine cV (C := RX2) (T := TX2) (N := 7) (ci := 2) (q0 := 0) (k := 3) (As := [.int (-2)]) (rest := []) (v := .int (-2)) (ws1 := (mW cI a s pst np (upd er (fIx (-2)) (er (fIx (-2)) + nI 1)) od rk hs)) B hz hA (c_X2_fail l D cI cN a s pst np er od rk hs (-2) (by first | exact Or.inl rfl | exact Or.inr rfl)) gX2_setQuality_X2_fail rfl rfl hd_X2_fail (by decide) rfl rfl rfl hl.1 rfl (Nat.le_of_ble_eq_true rfl) dX2_setQuality_29 (fun H locs hz => ?_)
      exact rz_i B hr hz dX2_setQuality_32 (by first | (simp [pSetQ, fTh, c5, c12]; done) | (simp [pSetQ, fTh, c5, c12, tn5 hf, tn5 ht, tn8 hc]; done)) (by first | (refine mAft_n ?_; simp [pSetQ, fTh, c5, c12]; done) | (refine mAft_s (r := s (24 + fAt f t ch)) ?_; simp [pSetQ, fTh, c5, c12, tn5 hf, tn5 ht, tn8 hc]; first | done | rfl))
    · have hth : fTh x y z = true := by simp [fTh, c5, c12]
      obtain ⟨f, t, ch, hf, ht, hc, hft, rfl, rfl, rfl⟩ := fTh_nat hth
      refine lv_iload hx hb dX2_setQuality_15 (lv_at hl 4 rfl) ?_
      refine lv_iconst (v := (nI 0)) hx hb dX2_setQuality_17 (by decide) ?_
      refine lv_bipush (v := (nI 30)) hx hb dX2_setQuality_18 (by decide) ?_
      refine cS (k := 3) (As := [.int q, .int (nI 0), .int (nI 30)]) (rest := []) (v := .int (b2i (fIn q (nI 0) (nI 30)))) B hz hA (c_X2_in l D cI cN q (nI 0) (nI 30) ) gX2_setQuality_X2_in rfl hd_X2_in (by decide) rfl hl.1 rfl (Nat.le_of_ble_eq_true rfl) dX2_setQuality_20 (fun H locs hz => ?_)
      refine lb_if_ne (tgt := 33) hx hb dX2_setQuality_23 (by decide) (fun c23 => ?_) (fun c23 => ?_)
      · refine lv_aload_n hx hb dX2_setQuality_33 rfl (lv_at hl 0 rfl) ?_
        refine cVv (C := RX2) (T := TX2) (N := 7) (ci := 2) (q0 := 0) (k := 3) (As := []) (rest := []) (ws1 := (mW cI a s (fNp pst s np) (fNn0 np + 1) er od rk hs)) B hz hA (c_X2_note l D cI cN a s pst np er od rk hs  (hnp)) gX2_setQuality_X2_note rfl rfl hd_X2_note (by decide) rfl rfl rfl hl.1 rfl (Nat.le_of_ble_eq_true rfl) dX2_setQuality_34 (fun H locs hz => ?_)
        refine lv_aload_n hx hb dX2_setQuality_37 rfl (lv_at hl 0 rfl) ?_
        refine gz (C := RX2) (T := TX2) (N := 7) (v := .ref (a 1)) B hz hinX2 0 rfl rfl 0 (by decide) lk7 rfl rfl dX2_setQuality_38 ?_
        refine lv_bipush (v := (nI 24)) hx hb dX2_setQuality_41 (by decide) ?_
        refine lv_iload_n hx hb dX2_setQuality_43 rfl (lv_at hl 1 rfl) ?_
        refine lv_iload_n hx hb dX2_setQuality_44 rfl (lv_at hl 2 rfl) ?_
        refine lv_iload_n hx hb dX2_setQuality_45 rfl (lv_at hl 3 rfl) ?_
        refine cS (k := 3) (As := [.int (nI f), .int (nI t), .int (nI ch)]) (rest := [.int (nI 24), .ref (a 1)]) (v := .int (nI (fAt f t ch))) B hz hA (c_X2_at l D cI cN f t ch ) gX2_setQuality_X2_at rfl hd_X2_at (by decide) rfl hl.1 rfl (Nat.le_of_ble_eq_true rfl) dX2_setQuality_46 (fun H locs hz => ?_)
        refine ln_add hx hb dX2_setQuality_49 ?_
        refine ildz (n := 624) (j := (24 + (fAt f t ch))) (v := (s (24 + (fAt f t ch)))) B hz 1 rfl (by have hat1 := fAt_lt hf ht hc; have hat2 := fAt_lt ht hf hc; omega) (by decide) rfl dX2_setQuality_50 ?_
        refine lv_istore (lv' := [(5, .int (s (24 + (fAt f t ch)))), (0, .ref (a 0)), (1, .int (nI f)), (2, .int (nI t)), (3, .int (nI ch)), (4, .int q)]) hx hb dX2_setQuality_51 hl (by decide) rfl (fun ls hl => ?_)
        refine lv_aload_n hx hb dX2_setQuality_53 rfl (lv_at hl 1 rfl) ?_
        refine gz (C := RX2) (T := TX2) (N := 7) (v := .ref (a 1)) B hz hinX2 0 rfl rfl 0 (by decide) lk7 rfl rfl dX2_setQuality_54 ?_
        refine lv_bipush (v := (nI 24)) hx hb dX2_setQuality_57 (by decide) ?_
        refine lv_iload_n hx hb dX2_setQuality_59 rfl (lv_at hl 2 rfl) ?_
        refine lv_iload_n hx hb dX2_setQuality_60 rfl (lv_at hl 3 rfl) ?_
        refine lv_iload_n hx hb dX2_setQuality_61 rfl (lv_at hl 4 rfl) ?_
        refine cS (k := 3) (As := [.int (nI f), .int (nI t), .int (nI ch)]) (rest := [.int (nI 24), .ref (a 1)]) (v := .int (nI (fAt f t ch))) B hz hA (c_X2_at l D cI cN f t ch ) gX2_setQuality_X2_at rfl hd_X2_at (by decide) rfl hl.1 rfl (Nat.le_of_ble_eq_true rfl) dX2_setQuality_62 (fun H locs hz => ?_)
        refine ln_add hx hb dX2_setQuality_65 ?_
        refine lv_iload hx hb dX2_setQuality_66 (lv_at hl 5 rfl) ?_
        refine istz (n := 624) (j := (24 + (fAt f t ch))) (ws1 := (mW cI a (upd s (24 + (fAt f t ch)) q) (fNp pst s np) (fNn0 np + 1) er od rk hs)) B hz 1 rfl (by have hat1 := fAt_lt hf ht hc; have hat2 := fAt_lt ht hf hc; omega) (by decide) rfl dX2_setQuality_68 (fun H locs hz => ?_)
        refine lv_aload_n hx hb dX2_setQuality_69 rfl (lv_at hl 1 rfl) ?_
        refine gz (C := RX2) (T := TX2) (N := 7) (v := .ref (a 1)) B hz hinX2 0 rfl rfl 0 (by decide) lk7 rfl rfl dX2_setQuality_70 ?_
        refine lv_bipush (v := (nI 24)) hx hb dX2_setQuality_73 (by decide) ?_
        refine lv_iload_n hx hb dX2_setQuality_75 rfl (lv_at hl 3 rfl) ?_
        refine lv_iload_n hx hb dX2_setQuality_76 rfl (lv_at hl 2 rfl) ?_
        refine lv_iload_n hx hb dX2_setQuality_77 rfl (lv_at hl 4 rfl) ?_
        refine cS (k := 3) (As := [.int (nI t), .int (nI f), .int (nI ch)]) (rest := [.int (nI 24), .ref (a 1)]) (v := .int (nI (fAt t f ch))) B hz hA (c_X2_at l D cI cN t f ch ) gX2_setQuality_X2_at rfl hd_X2_at (by decide) rfl hl.1 rfl (Nat.le_of_ble_eq_true rfl) dX2_setQuality_78 (fun H locs hz => ?_)
        refine ln_add hx hb dX2_setQuality_81 ?_
        refine lv_iload hx hb dX2_setQuality_82 (lv_at hl 5 rfl) ?_
        refine istz (n := 624) (j := (24 + (fAt t f ch))) (ws1 := (mW cI a (upd (upd s (24 + (fAt f t ch)) q) (24 + (fAt t f ch)) q) (fNp pst s np) (fNn0 np + 1) er od rk hs)) B hz 1 rfl (by have hat1 := fAt_lt hf ht hc; have hat2 := fAt_lt ht hf hc; omega) (by decide) rfl dX2_setQuality_84 (fun H locs hz => ?_)
        refine lv_iload hx hb dX2_setQuality_85 (lv_at hl 0 rfl) ?_
        exact rz_i B hr hz dX2_setQuality_87 (by first | (simp [pSetQ, fTh, c5, c12, c23]; done) | (simp [pSetQ, fTh, c5, c12, c23, tn5 hf, tn5 ht, tn8 hc]; done)) (by first | (refine mAft_n ?_; simp [pSetQ, fTh, c5, c12, c23]; done) | (refine mAft_s (r := s (24 + fAt f t ch)) ?_; simp [pSetQ, fTh, c5, c12, c23, tn5 hf, tn5 ht, tn8 hc]; first | done | rfl))
      · refine lv_aload_n hx hb dX2_setQuality_26 rfl (lv_at hl 0 rfl) ?_
        refine lv_bipush (v := (-2)) hx hb dX2_setQuality_27 (by decide) ?_
        refine cV (C := RX2) (T := TX2) (N := 7) (ci := 2) (q0 := 0) (k := 3) (As := [.int (-2)]) (rest := []) (v := .int (-2)) (ws1 := (mW cI a s pst np (upd er (fIx (-2)) (er (fIx (-2)) + nI 1)) od rk hs)) B hz hA (c_X2_fail l D cI cN a s pst np er od rk hs (-2) (by first | exact Or.inl rfl | exact Or.inr rfl)) gX2_setQuality_X2_fail rfl rfl hd_X2_fail (by decide) rfl rfl rfl hl.1 rfl (Nat.le_of_ble_eq_true rfl) dX2_setQuality_29 (fun H locs hz => ?_)
        exact rz_i B hr hz dX2_setQuality_32 (by first | (simp [pSetQ, fTh, c5, c12, c23]; done) | (simp [pSetQ, fTh, c5, c12, c23, tn5 hf, tn5 ht, tn8 hc]; done)) (by first | (refine mAft_n ?_; simp [pSetQ, fTh, c5, c12, c23]; done) | (refine mAft_s (r := s (24 + fAt f t ch)) ?_; simp [pSetQ, fTh, c5, c12, c23, tn5 hf, tn5 ht, tn8 hc]; first | done | rfl))
theorem hd_X2_setAgeing : hdZ yX2_setAgeing 1 := by decide +kernel
set_option maxRecDepth 100000 in
set_option maxHeartbeats 4000000 in
theorem c_X2_setAgeing (l : Launch) (D : va_G) (cI cN : ClassId) (a : Nat → Nat) (s : Sz) (pst : Sz) (np : Nat) (er : Sz) (od : Sz) (rk : Sz) (hs : Int64) (x : Int32) (hnp : np ≤ 4) : Fn l D cI cN yX2_setAgeing wsX2_setAgeing 2 (mW cI a s pst np er od rk hs) [.ref (a 0), .int x] (some (.int ((pAge x s).1))) (mAft cI a s pst np er od rk hs od rk (pAge x s)) := by
  refine Fn.of (cc := cX2_setAgeing) (nL := 3) (ret := (some .int)) (lv := [(0, .ref (a 0)), (1, .int x)]) (by decide +kernel) rfl (Nat.le_of_ble_eq_true rfl) rfl ?_
  intro p e s_ m args below meth c A B hr hA H locs ls hz hl
  have hx := B.1.1
  have hb := B.1.2.1
  have hinX2 : ∀ w ∈ u_ws RX2 TX2 7, w ∈ wsX2_setAgeing := by decide +kernel
  have lk7 : Cond.fieldLink yX2_setAgeing.cls 7 RX2 (TX2 0).2.1 (TX2 0).2.2.1 ∈ wsX2_setAgeing := by decide +kernel
  refine lv_iload_n hx hb dX2_setAgeing_0 rfl (lv_at hl 1 rfl) ?_
  refine lv_iconst (v := (nI 1)) hx hb dX2_setAgeing_1 (by decide) ?_
  refine lv_bipush (v := (nI 99)) hx hb dX2_setAgeing_2 (by decide) ?_
  refine cS (k := 2) (As := [.int x, .int (nI 1), .int (nI 99)]) (rest := []) (v := .int (b2i (fIn x (nI 1) (nI 99)))) B hz hA (c_X2_in l D cI cN x (nI 1) (nI 99) ) gX2_setAgeing_X2_in rfl hd_X2_in (by decide) rfl hl.1 rfl (Nat.le_of_ble_eq_true rfl) dX2_setAgeing_4 (fun H locs hz => ?_)
  refine lb_if_ne (tgt := 17) hx hb dX2_setAgeing_7 (by decide) (fun c7 => ?_) (fun c7 => ?_)
  · refine lv_aload_n hx hb dX2_setAgeing_17 rfl (lv_at hl 0 rfl) ?_
    refine cVv (C := RX2) (T := TX2) (N := 7) (ci := 2) (q0 := 0) (k := 2) (As := []) (rest := []) (ws1 := (mW cI a s (fNp pst s np) (fNn0 np + 1) er od rk hs)) B hz hA (c_X2_note l D cI cN a s pst np er od rk hs  (hnp)) gX2_setAgeing_X2_note rfl rfl hd_X2_note (by decide) rfl rfl rfl hl.1 rfl (Nat.le_of_ble_eq_true rfl) dX2_setAgeing_18 (fun H locs hz => ?_)
    refine lv_aload_n hx hb dX2_setAgeing_21 rfl (lv_at hl 0 rfl) ?_
    refine gz (C := RX2) (T := TX2) (N := 7) (v := .ref (a 1)) B hz hinX2 0 rfl rfl 0 (by decide) lk7 rfl rfl dX2_setAgeing_22 ?_
    refine lv_iconst (v := (nI 2)) hx hb dX2_setAgeing_25 (by decide) ?_
    refine ildz (n := 624) (j := 2) (v := (s 2)) B hz 1 rfl (by omega) (by decide) rfl dX2_setAgeing_26 ?_
    refine lv_istore_n (lv' := [(2, .int (s 2)), (0, .ref (a 0)), (1, .int x)]) hx hb dX2_setAgeing_27 rfl hl (by decide) rfl (fun ls hl => ?_)
    refine lv_aload_n hx hb dX2_setAgeing_28 rfl (lv_at hl 1 rfl) ?_
    refine gz (C := RX2) (T := TX2) (N := 7) (v := .ref (a 1)) B hz hinX2 0 rfl rfl 0 (by decide) lk7 rfl rfl dX2_setAgeing_29 ?_
    refine lv_iconst (v := (nI 2)) hx hb dX2_setAgeing_32 (by decide) ?_
    refine lv_iload_n hx hb dX2_setAgeing_33 rfl (lv_at hl 2 rfl) ?_
    refine istz (n := 624) (j := 2) (ws1 := (mW cI a (upd s 2 x) (fNp pst s np) (fNn0 np + 1) er od rk hs)) B hz 1 rfl (by omega) (by decide) rfl dX2_setAgeing_34 (fun H locs hz => ?_)
    refine lv_iload_n hx hb dX2_setAgeing_35 rfl (lv_at hl 0 rfl) ?_
    exact rz_i B hr hz dX2_setAgeing_36 (by simp [pAge, c7]) (by first | (refine mAft_n ?_; simp [pAge, c7]; done) | (refine mAft_s (r := s 2) ?_; simp [pAge, c7]; first | done | rfl))
  · refine lv_aload_n hx hb dX2_setAgeing_10 rfl (lv_at hl 0 rfl) ?_
    refine lv_bipush (v := (-2)) hx hb dX2_setAgeing_11 (by decide) ?_
    refine cV (C := RX2) (T := TX2) (N := 7) (ci := 2) (q0 := 0) (k := 2) (As := [.int (-2)]) (rest := []) (v := .int (-2)) (ws1 := (mW cI a s pst np (upd er (fIx (-2)) (er (fIx (-2)) + nI 1)) od rk hs)) B hz hA (c_X2_fail l D cI cN a s pst np er od rk hs (-2) (by first | exact Or.inl rfl | exact Or.inr rfl)) gX2_setAgeing_X2_fail rfl rfl hd_X2_fail (by decide) rfl rfl rfl hl.1 rfl (Nat.le_of_ble_eq_true rfl) dX2_setAgeing_13 (fun H locs hz => ?_)
    exact rz_i B hr hz dX2_setAgeing_16 (by simp [pAge, c7]) (by first | (refine mAft_n ?_; simp [pAge, c7]; done) | (refine mAft_s (r := s 2) ?_; simp [pAge, c7]; first | done | rfl))
theorem hd_X2_setNoise : hdZ yX2_setNoise 1 := by decide +kernel
set_option maxRecDepth 100000 in
set_option maxHeartbeats 4000000 in
theorem c_X2_setNoise (l : Launch) (D : va_G) (cI cN : ClassId) (a : Nat → Nat) (s : Sz) (pst : Sz) (np : Nat) (er : Sz) (od : Sz) (rk : Sz) (hs : Int64) (x : Int32) (hnp : np ≤ 4) : Fn l D cI cN yX2_setNoise wsX2_setNoise 2 (mW cI a s pst np er od rk hs) [.ref (a 0), .int x] (some (.int ((pNoise x s).1))) (mAft cI a s pst np er od rk hs od rk (pNoise x s)) := by
  refine Fn.of (cc := cX2_setNoise) (nL := 2) (ret := (some .int)) (lv := [(0, .ref (a 0)), (1, .int x)]) (by decide +kernel) rfl (Nat.le_of_ble_eq_true rfl) rfl ?_
  intro p e s_ m args below meth c A B hr hA H locs ls hz hl
  have hx := B.1.1
  have hb := B.1.2.1
  have hinX2 : ∀ w ∈ u_ws RX2 TX2 7, w ∈ wsX2_setNoise := by decide +kernel
  have lk7 : Cond.fieldLink yX2_setNoise.cls 7 RX2 (TX2 0).2.1 (TX2 0).2.2.1 ∈ wsX2_setNoise := by decide +kernel
  refine lv_iload_n hx hb dX2_setNoise_0 rfl (lv_at hl 1 rfl) ?_
  refine lv_if_ge (tgt := 11) hx hb dX2_setNoise_1 (by decide) (fun c1 => ?_) (fun c1 => ?_)
  · refine lv_aload_n hx hb dX2_setNoise_11 rfl (lv_at hl 0 rfl) ?_
    refine cVv (C := RX2) (T := TX2) (N := 7) (ci := 2) (q0 := 0) (k := 2) (As := []) (rest := []) (ws1 := (mW cI a s (fNp pst s np) (fNn0 np + 1) er od rk hs)) B hz hA (c_X2_note l D cI cN a s pst np er od rk hs  (hnp)) gX2_setNoise_X2_note rfl rfl hd_X2_note (by decide) rfl rfl rfl hl.1 rfl (Nat.le_of_ble_eq_true rfl) dX2_setNoise_12 (fun H locs hz => ?_)
    refine lv_aload_n hx hb dX2_setNoise_15 rfl (lv_at hl 0 rfl) ?_
    refine gz (C := RX2) (T := TX2) (N := 7) (v := .ref (a 1)) B hz hinX2 0 rfl rfl 0 (by decide) lk7 rfl rfl dX2_setNoise_16 ?_
    refine lv_iconst (v := (nI 1)) hx hb dX2_setNoise_19 (by decide) ?_
    refine lv_iload_n hx hb dX2_setNoise_20 rfl (lv_at hl 1 rfl) ?_
    refine istz (n := 624) (j := 1) (ws1 := (mW cI a (upd s 1 x) (fNp pst s np) (fNn0 np + 1) er od rk hs)) B hz 1 rfl (by omega) (by decide) rfl dX2_setNoise_21 (fun H locs hz => ?_)
    refine lv_aload_n hx hb dX2_setNoise_22 rfl (lv_at hl 0 rfl) ?_
    refine gz (C := RX2) (T := TX2) (N := 7) (v := .ref (a 1)) B hz hinX2 0 rfl rfl 0 (by decide) lk7 rfl rfl dX2_setNoise_23 ?_
    refine lv_iconst (v := (nI 0)) hx hb dX2_setNoise_26 (by decide) ?_
    refine ildz (n := 624) (j := 0) (v := ((upd s 1 x) 0)) B hz 1 rfl (by omega) (by decide) rfl dX2_setNoise_27 ?_
    refine cvt (y := (s 0)) (pk_un (by omega)) ?_
    exact rz_i B hr hz dX2_setNoise_28 (by simp [pNoise, c1]) (by first | (refine mAft_n ?_; simp [pNoise, c1]; done) | (refine mAft_s (r := s 0) ?_; simp [pNoise, c1]; first | done | rfl))
  · refine lv_aload_n hx hb dX2_setNoise_4 rfl (lv_at hl 0 rfl) ?_
    refine lv_bipush (v := (-2)) hx hb dX2_setNoise_5 (by decide) ?_
    refine cV (C := RX2) (T := TX2) (N := 7) (ci := 2) (q0 := 0) (k := 2) (As := [.int (-2)]) (rest := []) (v := .int (-2)) (ws1 := (mW cI a s pst np (upd er (fIx (-2)) (er (fIx (-2)) + nI 1)) od rk hs)) B hz hA (c_X2_fail l D cI cN a s pst np er od rk hs (-2) (by first | exact Or.inl rfl | exact Or.inr rfl)) gX2_setNoise_X2_fail rfl rfl hd_X2_fail (by decide) rfl rfl rfl hl.1 rfl (Nat.le_of_ble_eq_true rfl) dX2_setNoise_7 (fun H locs hz => ?_)
    exact rz_i B hr hz dX2_setNoise_10 (by simp [pNoise, c1]) (by first | (refine mAft_n ?_; simp [pNoise, c1]; done) | (refine mAft_s (r := s 0) ?_; simp [pNoise, c1]; first | done | rfl))
theorem hd_X2_pass : hdZ yX2_pass 1 := by decide +kernel
set_option maxRecDepth 100000 in
set_option maxHeartbeats 4000000 in
theorem c_X2_pass (l : Launch) (D : va_G) (cI cN : ClassId) (a : Nat → Nat) (s : Sz) (pst : Sz) (np : Nat) (er : Sz) (od : Sz) (rk : Sz) (hs : Int64) (x : Int32) (hnp : np ≤ 4) : Fn l D cI cN yX2_pass wsX2_pass 2 (mW cI a s pst np er od rk hs) [.ref (a 0), .int x] (some (.int ((pPass x s).1))) (mAft cI a s pst np er od rk hs od rk (pPass x s)) := by
  refine Fn.of (cc := cX2_pass) (nL := 2) (ret := (some .int)) (lv := [(0, .ref (a 0)), (1, .int x)]) (by decide +kernel) rfl (Nat.le_of_ble_eq_true rfl) rfl ?_
  intro p e s_ m args below meth c A B hr hA H locs ls hz hl
  have hx := B.1.1
  have hb := B.1.2.1
  have hinX2 : ∀ w ∈ u_ws RX2 TX2 7, w ∈ wsX2_pass := by decide +kernel
  have lk7 : Cond.fieldLink yX2_pass.cls 7 RX2 (TX2 0).2.1 (TX2 0).2.2.1 ∈ wsX2_pass := by decide +kernel
  refine lv_iload_n hx hb dX2_pass_0 rfl (lv_at hl 1 rfl) ?_
  refine lv_iconst (v := (nI 1)) hx hb dX2_pass_1 (by decide) ?_
  refine lv_sipush (v := (nI 1000)) hx hb dX2_pass_2 (by decide) ?_
  refine cS (k := 2) (As := [.int x, .int (nI 1), .int (nI 1000)]) (rest := []) (v := .int (b2i (fIn x (nI 1) (nI 1000)))) B hz hA (c_X2_in l D cI cN x (nI 1) (nI 1000) ) gX2_pass_X2_in rfl hd_X2_in (by decide) rfl hl.1 rfl (Nat.le_of_ble_eq_true rfl) dX2_pass_5 (fun H locs hz => ?_)
  refine lb_if_ne (tgt := 18) hx hb dX2_pass_8 (by decide) (fun c8 => ?_) (fun c8 => ?_)
  · refine lv_aload_n hx hb dX2_pass_18 rfl (lv_at hl 0 rfl) ?_
    refine cVv (C := RX2) (T := TX2) (N := 7) (ci := 2) (q0 := 0) (k := 2) (As := []) (rest := []) (ws1 := (mW cI a s (fNp pst s np) (fNn0 np + 1) er od rk hs)) B hz hA (c_X2_note l D cI cN a s pst np er od rk hs  (hnp)) gX2_pass_X2_note rfl rfl hd_X2_note (by decide) rfl rfl rfl hl.1 rfl (Nat.le_of_ble_eq_true rfl) dX2_pass_19 (fun H locs hz => ?_)
    refine lv_aload_n hx hb dX2_pass_22 rfl (lv_at hl 0 rfl) ?_
    refine gz (C := RX2) (T := TX2) (N := 7) (v := .ref (a 1)) B hz hinX2 0 rfl rfl 0 (by decide) lk7 rfl rfl dX2_pass_23 ?_
    refine lv_iconst (v := (nI 0)) hx hb dX2_pass_26 (by decide) ?_
    refine lv_dup2_11 hx hb dX2_pass_27 rfl rfl ?_
    refine ildz (n := 624) (j := 0) (v := (s 0)) B hz 1 rfl (by omega) (by decide) rfl dX2_pass_28 ?_
    refine lv_iload_n hx hb dX2_pass_29 rfl (lv_at hl 1 rfl) ?_
    refine lv_iadd hx hb dX2_pass_30 ?_
    refine istz (n := 624) (j := 0) (ws1 := (mW cI a (upd s 0 ((s 0) + x)) (fNp pst s np) (fNn0 np + 1) er od rk hs)) B hz 1 rfl (by omega) (by decide) rfl dX2_pass_31 (fun H locs hz => ?_)
    refine lv_aload_n hx hb dX2_pass_32 rfl (lv_at hl 0 rfl) ?_
    refine gz (C := RX2) (T := TX2) (N := 7) (v := .ref (a 1)) B hz hinX2 0 rfl rfl 0 (by decide) lk7 rfl rfl dX2_pass_33 ?_
    refine lv_iconst (v := (nI 0)) hx hb dX2_pass_36 (by decide) ?_
    refine ildz (n := 624) (j := 0) (v := ((upd s 0 ((s 0) + x)) 0)) B hz 1 rfl (by omega) (by decide) rfl dX2_pass_37 ?_
    refine cvt (y := ((s 0) + x)) pk_us ?_
    exact rz_i B hr hz dX2_pass_38 (by simp [pPass, c8]) (by first | (refine mAft_n ?_; simp [pPass, c8]; done) | (refine mAft_s (r := s 0 + x) ?_; simp [pPass, c8]; first | done | rfl))
  · refine lv_aload_n hx hb dX2_pass_11 rfl (lv_at hl 0 rfl) ?_
    refine lv_bipush (v := (-2)) hx hb dX2_pass_12 (by decide) ?_
    refine cV (C := RX2) (T := TX2) (N := 7) (ci := 2) (q0 := 0) (k := 2) (As := [.int (-2)]) (rest := []) (v := .int (-2)) (ws1 := (mW cI a s pst np (upd er (fIx (-2)) (er (fIx (-2)) + nI 1)) od rk hs)) B hz hA (c_X2_fail l D cI cN a s pst np er od rk hs (-2) (by first | exact Or.inl rfl | exact Or.inr rfl)) gX2_pass_X2_fail rfl rfl hd_X2_fail (by decide) rfl rfl rfl hl.1 rfl (Nat.le_of_ble_eq_true rfl) dX2_pass_14 (fun H locs hz => ?_)
    exact rz_i B hr hz dX2_pass_17 (by simp [pPass, c8]) (by first | (refine mAft_n ?_; simp [pPass, c8]; done) | (refine mAft_s (r := s 0 + x) ?_; simp [pPass, c8]; first | done | rfl))
theorem hd_X2_sound : hdZ yX2_sound 2 := by decide +kernel
set_option maxRecDepth 100000 in
set_option maxHeartbeats 4000000 in
theorem c_X2_sound (l : Launch) (D : va_G) (cI cN : ClassId) (a : Nat → Nat) (s : Sz) (pst : Sz) (np : Nat) (er : Sz) (od : Sz) (rk : Sz) (hs : Int64) (x : Int32) (y : Int32) (hnp : np ≤ 4) (hI : IvS s) (hn : fNn s) (hT : IvT s) : Fn l D cI cN yX2_sound wsX2_sound 4 (mW cI a s pst np er od rk hs) [.ref (a 0), .int x, .int y] (some (.int ((pSound x y s).1))) (mAft cI a s pst np er od rk hs od rk (pSound x y s)) := by
  refine Fn.of (cc := cX2_sound) (nL := 8) (ret := (some .int)) (lv := [(0, .ref (a 0)), (1, .int x), (2, .int y)]) (by decide +kernel) rfl (Nat.le_of_ble_eq_true rfl) rfl ?_
  intro p e s_ m args below meth c A B hr hA H locs ls hz hl
  have hx := B.1.1
  have hb := B.1.2.1
  have hinX2 : ∀ w ∈ u_ws RX2 TX2 7, w ∈ wsX2_sound := by decide +kernel
  have lk7 : Cond.fieldLink yX2_sound.cls 7 RX2 (TX2 0).2.1 (TX2 0).2.2.1 ∈ wsX2_sound := by decide +kernel
  refine lv_iload_n hx hb dX2_sound_0 rfl (lv_at hl 1 rfl) ?_
  refine cS (k := 4) (As := [.int x]) (rest := []) (v := .int (b2i (fSt x))) B hz hA (c_X2_isStation l D cI cN x ) gX2_sound_X2_isStation rfl hd_X2_isStation (by decide) rfl hl.1 rfl (Nat.le_of_ble_eq_true rfl) dX2_sound_1 (fun H locs hz => ?_)
  refine lb_if_eq (tgt := 14) hx hb dX2_sound_4 (by decide) (fun c4 => ?_) (fun c4 => ?_)
  · refine lv_aload_n hx hb dX2_sound_14 rfl (lv_at hl 0 rfl) ?_
    refine lv_bipush (v := (-2)) hx hb dX2_sound_15 (by decide) ?_
    refine cV (C := RX2) (T := TX2) (N := 7) (ci := 2) (q0 := 0) (k := 4) (As := [.int (-2)]) (rest := []) (v := .int (-2)) (ws1 := (mW cI a s pst np (upd er (fIx (-2)) (er (fIx (-2)) + nI 1)) od rk hs)) B hz hA (c_X2_fail l D cI cN a s pst np er od rk hs (-2) (by first | exact Or.inl rfl | exact Or.inr rfl)) gX2_sound_X2_fail rfl rfl hd_X2_fail (by decide) rfl rfl rfl hl.1 rfl (Nat.le_of_ble_eq_true rfl) dX2_sound_17 (fun H locs hz => ?_)
    exact rz_i B hr hz dX2_sound_20 (by first | (simp [pSound, c4]; done) | (simp [pSound, c4, tn5 hf]; done) | (rw [fSm_eq hI hc]; simp [pSound, c4, c11, c26, tn5 hf, tn8 hc]; done)) (by first | (refine mAft_n ?_; simp [pSound, c4, tn5 hf]; done) | (refine mAft_n ?_; simp [pSound, c4]; done) | (rw [fSm_eq hI hc]; (refine mAft_s (r := (fSo f ch (fS0 s) 5).1) ?_; simp [pSound, c4, c11, c26, tn5 hf, tn8 hc]; first | done | rfl)))
  · obtain ⟨f, hf, rfl⟩ := fSt_nat c4
    refine lv_iload_n hx hb dX2_sound_7 rfl (lv_at hl 2 rfl) ?_
    refine cS (k := 4) (As := [.int y]) (rest := []) (v := .int (b2i (fCh y))) B hz hA (c_X2_isChannel l D cI cN y ) gX2_sound_X2_isChannel rfl hd_X2_isChannel (by decide) rfl hl.1 rfl (Nat.le_of_ble_eq_true rfl) dX2_sound_8 (fun H locs hz => ?_)
    refine lb_if_ne (tgt := 21) hx hb dX2_sound_11 (by decide) (fun c11 => ?_) (fun c11 => ?_)
    · obtain ⟨ch, hc, rfl⟩ := fCh_nat c11
      refine lv_aload_n hx hb dX2_sound_21 rfl (lv_at hl 0 rfl) ?_
      refine lv_iload_n hx hb dX2_sound_22 rfl (lv_at hl 1 rfl) ?_
      refine cV (C := RX2) (T := TX2) (N := 7) (ci := 2) (q0 := 0) (k := 4) (As := [.int (nI f)]) (rest := []) (v := .int (b2i (fLk s f))) (ws1 := (mW cI a s pst np er od rk hs)) B hz hA (c_X2_isLinked l D cI cN a s pst np er od rk hs f (hf)) gX2_sound_X2_isLinked rfl rfl hd_X2_isLinked (by decide) rfl rfl rfl hl.1 rfl (Nat.le_of_ble_eq_true rfl) dX2_sound_23 (fun H locs hz => ?_)
      refine lb_if_eq (tgt := 36) hx hb dX2_sound_26 (by decide) (fun c26 => ?_) (fun c26 => ?_)
      · refine lv_aload_n hx hb dX2_sound_36 rfl (lv_at hl 0 rfl) ?_
        refine cVv (C := RX2) (T := TX2) (N := 7) (ci := 2) (q0 := 0) (k := 4) (As := []) (rest := []) (ws1 := (mW cI a s (fNp pst s np) (fNn0 np + 1) er od rk hs)) B hz hA (c_X2_note l D cI cN a s pst np er od rk hs  (hnp)) gX2_sound_X2_note rfl rfl hd_X2_note (by decide) rfl rfl rfl hl.1 rfl (Nat.le_of_ble_eq_true rfl) dX2_sound_37 (fun H locs hz => ?_)
        refine lv_aload_n hx hb dX2_sound_40 rfl (lv_at hl 0 rfl) ?_
        refine lv_bipush (v := (nI 31)) hx hb dX2_sound_41 (by decide) ?_
        refine cV (C := RX2) (T := TX2) (N := 7) (ci := 2) (q0 := 0) (k := 4) (As := [.int (nI 31)]) (rest := []) (v := .int (nI (fMo (nI 31) s 5))) (ws1 := (mW cI a s (fNp pst s np) (fNn0 np + 1) er od rk hs)) B hz hA (c_X2_mostOf l D cI cN a s (fNp pst s np) (fNn0 np + 1) er od rk hs (nI 31) (hI)) gX2_sound_X2_mostOf rfl rfl hd_X2_mostOf (by decide) rfl rfl rfl hl.1 rfl (Nat.le_of_ble_eq_true rfl) dX2_sound_43 (fun H locs hz => ?_)
        refine lv_istore_n (lv' := [(3, .int (nI (fMo (nI 31) s 5))), (0, .ref (a 0)), (1, .int (nI f)), (2, .int (nI ch))]) hx hb dX2_sound_46 rfl hl (by decide) rfl (fun ls hl => ?_)
        refine lv_iconst (v := (nI 0)) hx hb dX2_sound_47 (by decide) ?_
        refine lv_istore (lv' := [(4, .int (nI 0)), (3, .int (nI (fMo (nI 31) s 5))), (0, .ref (a 0)), (1, .int (nI f)), (2, .int (nI ch))]) hx hb dX2_sound_48 hl (by decide) rfl (fun ls hl => ?_)
        refine lv_iconst (v := (nI 0)) hx hb dX2_sound_50 (by decide) ?_
        refine lv_istore (lv' := [(5, .int (nI 0)), (4, .int (nI 0)), (3, .int (nI (fMo (nI 31) s 5))), (0, .ref (a 0)), (1, .int (nI f)), (2, .int (nI ch))]) hx hb dX2_sound_51 hl (by decide) rfl (fun ls hl => ?_)
        have LP53 : ∀ (n_LP53 : Nat) (i : Nat), (i ≤ 5) → 5 - i < n_LP53 → ∀ (H : Heap) (locs : List Loc) (ls : Array Slot), Hz D A s_.heap H locs (mW cI a s (fNp pst s np) (fNn0 np + 1) er od rk hs) → lv_has ls 8 [(0, .ref (a 0)), (1, .int (nI f)), (2, .int (nI ch)), (3, .int (nI (fMo (nI 31) s 5))), (4, .int (fHo f ch s (tmN s) (fMo (nI 31) s 5) i)), (5, .int (nI i))] → Wz p l e 4 s_ m args below meth c D A (some (.int ((pSound (nI f) (nI ch) s).1))) (mAft cI a s pst np er od rk hs od rk (pSound (nI f) (nI ch) s)) H locs (F0 m 53 ls []) := by
          intro n_LP53
          induction n_LP53 with
          | zero => intro i hi hm; exact absurd hm (Nat.not_lt_zero _)
          | succ n_LP53 ih_LP53 =>
            intro i hi hm H locs ls hz hl
            refine lv_iload hx hb dX2_sound_53 (lv_at hl 5 rfl) ?_
            refine lv_iconst (v := (nI 5)) hx hb dX2_sound_55 (by decide) ?_
            refine ln_icmp_ge (tgt := 139) hx hb dX2_sound_56 (by decide) (by constructor <;> omega) (fun c56 => ?_) (fun c56 => ?_)
            · obtain rfl : i = 5 := by omega
              refine lv_aload_n hx hb dX2_sound_139 rfl (lv_at hl 0 rfl) ?_
              refine gz (C := RX2) (T := TX2) (N := 7) (v := .ref (a 1)) B hz hinX2 0 rfl rfl 0 (by decide) lk7 rfl rfl dX2_sound_140 ?_
              refine lv_iconst (v := (nI 0)) hx hb dX2_sound_143 (by decide) ?_
              refine lv_dup2_11 hx hb dX2_sound_144 rfl rfl ?_
              refine ildz (n := 624) (j := 0) (v := (s 0)) B hz 1 rfl (by omega) (by decide) rfl dX2_sound_145 ?_
              refine lv_iload_n hx hb dX2_sound_146 rfl (lv_at hl 3 rfl) ?_
              refine lv_iadd hx hb dX2_sound_147 ?_
              refine istz (n := 624) (j := 0) (ws1 := (mW cI a (upd s 0 ((s 0) + (nI (fMo (nI 31) s 5)))) (fNp pst s np) (fNn0 np + 1) er od rk hs)) B hz 1 rfl (by omega) (by decide) rfl dX2_sound_148 (fun H locs hz => ?_)
              refine lv_iconst (v := (nI 0)) hx hb dX2_sound_149 (by decide) ?_
              refine lv_istore (lv' := [(5, .int (nI 0)), (0, .ref (a 0)), (1, .int (nI f)), (2, .int (nI ch)), (3, .int (nI (fMo (nI 31) s 5))), (4, .int (fHo f ch s (tmN s) (fMo (nI 31) s 5) 5))]) hx hb dX2_sound_150 hl (by decide) rfl (fun ls hl => ?_)
              refine lv_iconst (v := (nI 0)) hx hb dX2_sound_152 (by decide) ?_
              refine lv_istore (lv' := [(6, .int (nI 0)), (5, .int (nI 0)), (0, .ref (a 0)), (1, .int (nI f)), (2, .int (nI ch)), (3, .int (nI (fMo (nI 31) s 5))), (4, .int (fHo f ch s (tmN s) (fMo (nI 31) s 5) 5))]) hx hb dX2_sound_153 hl (by decide) rfl (fun ls hl => ?_)
              have LP155 : ∀ (n_LP155 : Nat) (j : Nat), (j ≤ 5) → 5 - j < n_LP155 → ∀ (H : Heap) (locs : List Loc) (ls : Array Slot), Hz D A s_.heap H locs (mW cI a ((fSm f ch (fHm f ch s) (fS0 s) j).2) (fNp pst s np) (fNn0 np + 1) er od rk hs) → lv_has ls 8 [(0, .ref (a 0)), (1, .int (nI f)), (2, .int (nI ch)), (4, .int (fHm f ch s)), (5, .int ((fSm f ch (fHm f ch s) (fS0 s) j).1)), (6, .int (nI j))] → Wz p l e 4 s_ m args below meth c D A (some (.int ((pSound (nI f) (nI ch) s).1))) (mAft cI a s pst np er od rk hs od rk (pSound (nI f) (nI ch) s)) H locs (F0 m 155 ls []) := by
                intro n_LP155
                induction n_LP155 with
                | zero => intro j hj hm; exact absurd hm (Nat.not_lt_zero _)
                | succ n_LP155 ih_LP155 =>
                  intro j hj hm H locs ls hz hl
                  refine lv_iload hx hb dX2_sound_155 (lv_at hl 5 rfl) ?_
                  refine lv_iconst (v := (nI 5)) hx hb dX2_sound_157 (by decide) ?_
                  refine ln_icmp_ge (tgt := 201) hx hb dX2_sound_158 (by decide) (by constructor <;> omega) (fun c158 => ?_) (fun c158 => ?_)
                  · obtain rfl : j = 5 := by omega
                    refine lv_iload hx hb dX2_sound_201 (lv_at hl 4 rfl) ?_
                    exact rz_i B hr hz dX2_sound_203 (by first | (simp [pSound, c4, c11, c26, c56, c158]; done) | (simp [pSound, c4, c11, c26, c56, c158, tn5 hf]; done) | (rw [fSm_eq hI hc]; simp [pSound, c4, c11, c26, tn5 hf, tn8 hc]; done)) (by first | (refine mAft_n ?_; simp [pSound, c4, c11, c26, c56, c158, tn5 hf]; done) | (refine mAft_n ?_; simp [pSound, c4, c11, c26, c56, c158]; done) | (rw [fSm_eq hI hc]; (refine mAft_s (r := (fSo f ch (fS0 s) 5).1) ?_; simp [pSound, c4, c11, c26, tn5 hf, tn8 hc]; first | done | rfl)))
                  · refine lv_iload hx hb dX2_sound_161 (lv_at hl 3 rfl) ?_
                    refine lv_iload hx hb dX2_sound_163 (lv_at hl 5 rfl) ?_
                    refine cS (k := 4) (As := [.int (fHm f ch s), .int (nI j)]) (rest := []) (v := .int (b2i (fHas (fHm f ch s) (nI j)))) B hz hA (c_X2_has l D cI cN (fHm f ch s) (nI j) ) gX2_sound_X2_has rfl hd_X2_has (by decide) rfl hl.1 rfl (Nat.le_of_ble_eq_true rfl) dX2_sound_165 (fun H locs hz => ?_)
                    refine lb_if_eq (tgt := 195) hx hb dX2_sound_168 (by decide) (fun c168 => ?_) (fun c168 => ?_)
                    · refine lv_iinc (v := nI (j + 1)) (lv' := [(6, .int (nI (j + 1))), (0, .ref (a 0)), (1, .int (nI f)), (2, .int (nI ch)), (4, .int (fHm f ch s)), (5, .int ((fSm f ch (fHm f ch s) (fS0 s) j).1))]) hx hb dX2_sound_195 hl (k := 5) rfl (nI_add j 1) (by decide) rfl (fun ls hl => ?_)
                      refine lv_goto (tgt := 155) hx hb dX2_sound_198 (by decide) ?_
                      exact ih_LP155 (j + 1) (by omega) (by omega) H locs ls (hz.cast (by first | (simp [fSm, c168]; done) | (simp [fSm, c168, c183]; done))) (lv_cast (lv_sub hl [1, 2, 3, 4, 5, 0] (l' := [(0, .ref (a 0)), (1, .int (nI f)), (2, .int (nI ch)), (4, .int (fHm f ch s)), (5, .int ((fSm f ch (fHm f ch s) (fS0 s) j).1)), (6, .int (nI (j + 1)))]) rfl) (by first | (simp [fSm, c168]; done) | (simp [fSm, c168, c183]; done)))
                    · refine lv_aload_n hx hb dX2_sound_171 rfl (lv_at hl 0 rfl) ?_
                      refine lv_iconst (v := (nI 1)) hx hb dX2_sound_172 (by decide) ?_
                      refine lv_iload_n hx hb dX2_sound_173 rfl (lv_at hl 1 rfl) ?_
                      refine lv_iload hx hb dX2_sound_174 (lv_at hl 5 rfl) ?_
                      refine lv_sipush (v := (nI 255)) hx hb dX2_sound_176 (by decide) ?_
                      refine lv_iload_n hx hb dX2_sound_179 rfl (lv_at hl 2 rfl) ?_
                      refine cV (C := RX2) (T := TX2) (N := 7) (ci := 2) (q0 := 0) (k := 4) (As := [.int (nI 1), .int (nI f), .int (nI j), .int (nI 255), .int (nI ch)]) (rest := []) (v := .int (b2i ((fTr 1 f j 255 ch ((fSm f ch (fHm f ch s) (fS0 s) j).2)).1))) (ws1 := (mW cI a ((fTr 1 f j 255 ch ((fSm f ch (fHm f ch s) (fS0 s) j).2)).2) (fNp pst s np) (fNn0 np + 1) er od rk hs)) B hz hA (c_X2_transmit l D cI cN a ((fSm f ch (fHm f ch s) (fS0 s) j).2) (fNp pst s np) (fNn0 np + 1) er od rk hs 1 f j 255 ch (hf) (by omega) (hc) (fSm_nn (nn_upd hn (by decide)) j)) gX2_sound_X2_transmit rfl rfl hd_X2_transmit (by decide) rfl rfl rfl hl.1 rfl (Nat.le_of_ble_eq_true rfl) dX2_sound_180 (fun H locs hz => ?_)
                      refine lb_if_eq (tgt := 195) hx hb dX2_sound_183 (by decide) (fun c183 => ?_) (fun c183 => ?_)
                      · refine lv_iinc (v := nI (j + 1)) (lv' := [(6, .int (nI (j + 1))), (0, .ref (a 0)), (1, .int (nI f)), (2, .int (nI ch)), (4, .int (fHm f ch s)), (5, .int ((fSm f ch (fHm f ch s) (fS0 s) j).1))]) hx hb dX2_sound_195 hl (k := 5) rfl (nI_add j 1) (by decide) rfl (fun ls hl => ?_)
                        refine lv_goto (tgt := 155) hx hb dX2_sound_198 (by decide) ?_
                        exact ih_LP155 (j + 1) (by omega) (by omega) H locs ls (hz.cast (by first | (simp [fSm, c168]; done) | (simp [fSm, c168, c183]; done))) (lv_cast (lv_sub hl [1, 2, 3, 4, 5, 0] (l' := [(0, .ref (a 0)), (1, .int (nI f)), (2, .int (nI ch)), (4, .int (fHm f ch s)), (5, .int ((fSm f ch (fHm f ch s) (fS0 s) j).1)), (6, .int (nI (j + 1)))]) rfl) (by first | (simp [fSm, c168]; done) | (simp [fSm, c168, c183]; done)))
                      · refine lv_iload hx hb dX2_sound_186 (lv_at hl 4 rfl) ?_
                        refine lv_iconst (v := (nI 1)) hx hb dX2_sound_188 (by decide) ?_
                        refine lv_iload hx hb dX2_sound_189 (lv_at hl 5 rfl) ?_
                        refine lv_ishl hx hb dX2_sound_191 ?_
                        refine lv_ior hx hb dX2_sound_192 ?_
                        refine lv_istore (lv' := [(5, .int (((fSm f ch (fHm f ch s) (fS0 s) j).1) ||| ((nI 1) <<< ((nI j) &&& 31)))), (0, .ref (a 0)), (1, .int (nI f)), (2, .int (nI ch)), (4, .int (fHm f ch s)), (6, .int (nI j))]) hx hb dX2_sound_193 hl (by decide) rfl (fun ls hl => ?_)
                        refine lv_iinc (v := nI (j + 1)) (lv' := [(6, .int (nI (j + 1))), (5, .int (((fSm f ch (fHm f ch s) (fS0 s) j).1) ||| ((nI 1) <<< ((nI j) &&& 31)))), (0, .ref (a 0)), (1, .int (nI f)), (2, .int (nI ch)), (4, .int (fHm f ch s))]) hx hb dX2_sound_195 hl (k := 5) rfl (nI_add j 1) (by decide) rfl (fun ls hl => ?_)
                        refine lv_goto (tgt := 155) hx hb dX2_sound_198 (by decide) ?_
                        exact ih_LP155 (j + 1) (by omega) (by omega) H locs ls (hz.cast (by first | (simp [fSm, c168]; done) | (simp [fSm, c168, c183]; done))) (lv_cast (lv_sub hl [2, 3, 4, 5, 1, 0] (l' := [(0, .ref (a 0)), (1, .int (nI f)), (2, .int (nI ch)), (4, .int (fHm f ch s)), (5, .int (((fSm f ch (fHm f ch s) (fS0 s) j).1) ||| ((nI 1) <<< ((nI j) &&& 31)))), (6, .int (nI (j + 1)))]) rfl) (by first | (simp [fSm, c168]; done) | (simp [fSm, c168, c183]; done)))
              exact LP155 _ 0 (by omega) (Nat.lt_succ_self _) H locs ls (hz.cast (by rfl)) (lv_cast (lv_sub hl [2, 3, 4, 6, 1, 0] (l' := [(0, .ref (a 0)), (1, .int (nI f)), (2, .int (nI ch)), (4, .int (fHo f ch s (tmN s) (fMo (nI 31) s 5) 5)), (5, .int (nI 0)), (6, .int (nI 0))]) rfl) (by rfl))
            · refine lv_iconst (v := (nI 0)) hx hb dX2_sound_59 (by decide) ?_
              refine lv_istore (lv' := [(6, .int (nI 0)), (0, .ref (a 0)), (1, .int (nI f)), (2, .int (nI ch)), (3, .int (nI (fMo (nI 31) s 5))), (4, .int (fHo f ch s (tmN s) (fMo (nI 31) s 5) i)), (5, .int (nI i))]) hx hb dX2_sound_60 hl (by decide) rfl (fun ls hl => ?_)
              have LP62 : ∀ (n_LP62 : Nat) (u : Nat), (u ≤ fMo (nI 31) s 5) → (fMo (nI 31) s 5) - u < n_LP62 → ∀ (H : Heap) (locs : List Loc) (ls : Array Slot), Hz D A s_.heap H locs (mW cI a s (fNp pst s np) (fNn0 np + 1) er od rk hs) → lv_has ls 8 [(0, .ref (a 0)), (1, .int (nI f)), (2, .int (nI ch)), (3, .int (nI (fMo (nI 31) s 5))), (4, .int (fHi f ch s (tmN s) i (fHo f ch s (tmN s) (fMo (nI 31) s 5) i) u)), (5, .int (nI i)), (6, .int (nI u))] → Wz p l e 4 s_ m args below meth c D A (some (.int ((pSound (nI f) (nI ch) s).1))) (mAft cI a s pst np er od rk hs od rk (pSound (nI f) (nI ch) s)) H locs (F0 m 62 ls []) := by
                intro n_LP62
                induction n_LP62 with
                | zero => intro u hu hm; exact absurd hm (Nat.not_lt_zero _)
                | succ n_LP62 ih_LP62 =>
                  intro u hu hm H locs ls hz hl
                  refine lv_iload hx hb dX2_sound_62 (lv_at hl 6 rfl) ?_
                  refine lv_iload_n hx hb dX2_sound_64 rfl (lv_at hl 3 rfl) ?_
                  refine ln_icmp_ge (tgt := 133) hx hb dX2_sound_65 (by decide) (by have := fMo_le (ms := nI 31) hI 5 (by omega); constructor <;> omega) (fun c65 => ?_) (fun c65 => ?_)
                  · obtain rfl : u = fMo (nI 31) s 5 := by omega
                    refine lv_iinc (v := nI (i + 1)) (lv' := [(5, .int (nI (i + 1))), (0, .ref (a 0)), (1, .int (nI f)), (2, .int (nI ch)), (3, .int (nI (fMo (nI 31) s 5))), (4, .int (fHi f ch s (tmN s) i (fHo f ch s (tmN s) (fMo (nI 31) s 5) i) (fMo (nI 31) s 5))), (6, .int (nI (fMo (nI 31) s 5)))]) hx hb dX2_sound_133 hl (k := 5) rfl (nI_add i 1) (by decide) rfl (fun ls hl => ?_)
                    refine lv_goto (tgt := 53) hx hb dX2_sound_136 (by decide) ?_
                    exact ih_LP53 (i + 1) (by omega) (by omega) H locs ls (hz.cast (by rfl)) (lv_cast (lv_sub hl [1, 2, 3, 4, 5, 0] (l' := [(0, .ref (a 0)), (1, .int (nI f)), (2, .int (nI ch)), (3, .int (nI (fMo (nI 31) s 5))), (4, .int (fHi f ch s (tmN s) i (fHo f ch s (tmN s) (fMo (nI 31) s 5) i) (fMo (nI 31) s 5))), (5, .int (nI (i + 1)))]) rfl) (by rfl))
                  · refine lv_iload hx hb dX2_sound_68 (lv_at hl 5 rfl) ?_
                    refine lv_iload_n hx hb dX2_sound_70 rfl (lv_at hl 1 rfl) ?_
                    refine ln_icmp_eq (tgt := 106) hx hb dX2_sound_71 (by decide) (by constructor <;> omega) (fun c71 => ?_) (fun c71 => ?_)
                    · refine lv_iconst (v := (nI 0)) hx hb dX2_sound_106 (by decide) ?_
                      have LPj : ∀ (hv2 : Bool), (hv2 = fHa f ch s (tmN s) i u) → ∀ (H : Heap) (locs : List Loc) (ls : Array Slot), Hz D A s_.heap H locs (mW cI a s (fNp pst s np) (fNn0 np + 1) er od rk hs) → lv_has ls 8 [(0, .ref (a 0)), (1, .int (nI f)), (2, .int (nI ch)), (3, .int (nI (fMo (nI 31) s 5))), (4, .int (fHi f ch s (tmN s) i (fHo f ch s (tmN s) (fMo (nI 31) s 5) i) u)), (5, .int (nI i)), (6, .int (nI u))] → Wz p l e 4 s_ m args below meth c D A (some (.int ((pSound (nI f) (nI ch) s).1))) (mAft cI a s pst np er od rk hs od rk (pSound (nI f) (nI ch) s)) H locs (F0 m 107 ls [.int (b2i hv2)]) := by
                        intro hv2 hhv H locs ls hz hl
                        refine lv_istore (lv' := [(7, .int (b2i hv2)), (0, .ref (a 0)), (1, .int (nI f)), (2, .int (nI ch)), (3, .int (nI (fMo (nI 31) s 5))), (4, .int (fHi f ch s (tmN s) i (fHo f ch s (tmN s) (fMo (nI 31) s 5) i) u)), (5, .int (nI i)), (6, .int (nI u))]) hx hb dX2_sound_107 hl (by decide) rfl (fun ls hl => ?_)
                        refine lv_iload hx hb dX2_sound_109 (lv_at hl 5 rfl) ?_
                        refine lv_iload hx hb dX2_sound_111 (lv_at hl 0 rfl) ?_
                        refine lb_if_eq (tgt := 123) hx hb dX2_sound_113 (by decide) (fun c113 => ?_) (fun c113 => ?_)
                        · refine lv_iconst (v := (nI 0)) hx hb dX2_sound_123 (by decide) ?_
                          refine lv_ior hx hb dX2_sound_124 ?_
                          refine lv_istore (lv' := [(4, .int ((fHi f ch s (tmN s) i (fHo f ch s (tmN s) (fMo (nI 31) s 5) i) u) ||| (nI 0))), (7, .int (b2i hv2)), (0, .ref (a 0)), (1, .int (nI f)), (2, .int (nI ch)), (3, .int (nI (fMo (nI 31) s 5))), (5, .int (nI i)), (6, .int (nI u))]) hx hb dX2_sound_125 hl (by decide) rfl (fun ls hl => ?_)
                          refine lv_iinc (v := nI (u + 1)) (lv' := [(6, .int (nI (u + 1))), (4, .int ((fHi f ch s (tmN s) i (fHo f ch s (tmN s) (fMo (nI 31) s 5) i) u) ||| (nI 0))), (7, .int (b2i hv2)), (0, .ref (a 0)), (1, .int (nI f)), (2, .int (nI ch)), (3, .int (nI (fMo (nI 31) s 5))), (5, .int (nI i))]) hx hb dX2_sound_127 hl (k := 7) rfl (nI_add u 1) (by decide) rfl (fun ls hl => ?_)
                          refine lv_goto (tgt := 62) hx hb dX2_sound_130 (by decide) ?_
                          exact ih_LP62 (u + 1) (by omega) (by omega) H locs ls (hz.cast (by rfl)) (lv_cast (lv_sub hl [3, 4, 5, 6, 1, 7, 0] (l' := [(0, .ref (a 0)), (1, .int (nI f)), (2, .int (nI ch)), (3, .int (nI (fMo (nI 31) s 5))), (4, .int ((fHi f ch s (tmN s) i (fHo f ch s (tmN s) (fMo (nI 31) s 5) i) u) ||| (nI 0))), (5, .int (nI i)), (6, .int (nI (u + 1)))]) rfl) (by simp [fHi, ← hhv, c113]))
                        · refine lv_iconst (v := (nI 1)) hx hb dX2_sound_116 (by decide) ?_
                          refine lv_iload hx hb dX2_sound_117 (lv_at hl 6 rfl) ?_
                          refine lv_ishl hx hb dX2_sound_119 ?_
                          refine lv_goto (tgt := 124) hx hb dX2_sound_120 (by decide) ?_
                          refine lv_ior hx hb dX2_sound_124 ?_
                          refine lv_istore (lv' := [(4, .int ((fHi f ch s (tmN s) i (fHo f ch s (tmN s) (fMo (nI 31) s 5) i) u) ||| ((nI 1) <<< ((nI i) &&& 31)))), (7, .int (b2i hv2)), (0, .ref (a 0)), (1, .int (nI f)), (2, .int (nI ch)), (3, .int (nI (fMo (nI 31) s 5))), (5, .int (nI i)), (6, .int (nI u))]) hx hb dX2_sound_125 hl (by decide) rfl (fun ls hl => ?_)
                          refine lv_iinc (v := nI (u + 1)) (lv' := [(6, .int (nI (u + 1))), (4, .int ((fHi f ch s (tmN s) i (fHo f ch s (tmN s) (fMo (nI 31) s 5) i) u) ||| ((nI 1) <<< ((nI i) &&& 31)))), (7, .int (b2i hv2)), (0, .ref (a 0)), (1, .int (nI f)), (2, .int (nI ch)), (3, .int (nI (fMo (nI 31) s 5))), (5, .int (nI i))]) hx hb dX2_sound_127 hl (k := 7) rfl (nI_add u 1) (by decide) rfl (fun ls hl => ?_)
                          refine lv_goto (tgt := 62) hx hb dX2_sound_130 (by decide) ?_
                          exact ih_LP62 (u + 1) (by omega) (by omega) H locs ls (hz.cast (by rfl)) (lv_cast (lv_sub hl [3, 4, 5, 6, 1, 7, 0] (l' := [(0, .ref (a 0)), (1, .int (nI f)), (2, .int (nI ch)), (3, .int (nI (fMo (nI 31) s 5))), (4, .int ((fHi f ch s (tmN s) i (fHo f ch s (tmN s) (fMo (nI 31) s 5) i) u) ||| ((nI 1) <<< ((nI i) &&& 31)))), (5, .int (nI i)), (6, .int (nI (u + 1)))]) rfl) (by simp [fHi, ← hhv, c113]))
                      exact LPj  false (by simp [fHa, c71])  H locs ls (hz.cast (by rfl)) (lv_cast (lv_sub hl [0, 1, 2, 3, 4, 5, 6] (l' := [(0, .ref (a 0)), (1, .int (nI f)), (2, .int (nI ch)), (3, .int (nI (fMo (nI 31) s 5))), (4, .int (fHi f ch s (tmN s) i (fHo f ch s (tmN s) (fMo (nI 31) s 5) i) u)), (5, .int (nI i)), (6, .int (nI u))]) rfl) (by rfl))
                    · refine lv_aload_n hx hb dX2_sound_74 rfl (lv_at hl 0 rfl) ?_
                      refine lv_iload hx hb dX2_sound_75 (lv_at hl 5 rfl) ?_
                      refine cV (C := RX2) (T := TX2) (N := 7) (ci := 2) (q0 := 0) (k := 4) (As := [.int (nI i)]) (rest := []) (v := .int (b2i (fLk s i))) (ws1 := (mW cI a s (fNp pst s np) (fNn0 np + 1) er od rk hs)) B hz hA (c_X2_isLinked l D cI cN a s (fNp pst s np) (fNn0 np + 1) er od rk hs i (by omega)) gX2_sound_X2_isLinked rfl rfl hd_X2_isLinked (by decide) rfl rfl rfl hl.1 rfl (Nat.le_of_ble_eq_true rfl) dX2_sound_77 (fun H locs hz => ?_)
                      refine lb_if_ne (tgt := 106) hx hb dX2_sound_80 (by decide) (fun c80 => ?_) (fun c80 => ?_)
                      · refine lv_iconst (v := (nI 0)) hx hb dX2_sound_106 (by decide) ?_
                        have LPj : ∀ (hv2 : Bool), (hv2 = fHa f ch s (tmN s) i u) → ∀ (H : Heap) (locs : List Loc) (ls : Array Slot), Hz D A s_.heap H locs (mW cI a s (fNp pst s np) (fNn0 np + 1) er od rk hs) → lv_has ls 8 [(0, .ref (a 0)), (1, .int (nI f)), (2, .int (nI ch)), (3, .int (nI (fMo (nI 31) s 5))), (4, .int (fHi f ch s (tmN s) i (fHo f ch s (tmN s) (fMo (nI 31) s 5) i) u)), (5, .int (nI i)), (6, .int (nI u))] → Wz p l e 4 s_ m args below meth c D A (some (.int ((pSound (nI f) (nI ch) s).1))) (mAft cI a s pst np er od rk hs od rk (pSound (nI f) (nI ch) s)) H locs (F0 m 107 ls [.int (b2i hv2)]) := by
                          intro hv2 hhv H locs ls hz hl
                          refine lv_istore (lv' := [(7, .int (b2i hv2)), (0, .ref (a 0)), (1, .int (nI f)), (2, .int (nI ch)), (3, .int (nI (fMo (nI 31) s 5))), (4, .int (fHi f ch s (tmN s) i (fHo f ch s (tmN s) (fMo (nI 31) s 5) i) u)), (5, .int (nI i)), (6, .int (nI u))]) hx hb dX2_sound_107 hl (by decide) rfl (fun ls hl => ?_)
                          refine lv_iload hx hb dX2_sound_109 (lv_at hl 5 rfl) ?_
                          refine lv_iload hx hb dX2_sound_111 (lv_at hl 0 rfl) ?_
                          refine lb_if_eq (tgt := 123) hx hb dX2_sound_113 (by decide) (fun c113 => ?_) (fun c113 => ?_)
                          · refine lv_iconst (v := (nI 0)) hx hb dX2_sound_123 (by decide) ?_
                            refine lv_ior hx hb dX2_sound_124 ?_
                            refine lv_istore (lv' := [(4, .int ((fHi f ch s (tmN s) i (fHo f ch s (tmN s) (fMo (nI 31) s 5) i) u) ||| (nI 0))), (7, .int (b2i hv2)), (0, .ref (a 0)), (1, .int (nI f)), (2, .int (nI ch)), (3, .int (nI (fMo (nI 31) s 5))), (5, .int (nI i)), (6, .int (nI u))]) hx hb dX2_sound_125 hl (by decide) rfl (fun ls hl => ?_)
                            refine lv_iinc (v := nI (u + 1)) (lv' := [(6, .int (nI (u + 1))), (4, .int ((fHi f ch s (tmN s) i (fHo f ch s (tmN s) (fMo (nI 31) s 5) i) u) ||| (nI 0))), (7, .int (b2i hv2)), (0, .ref (a 0)), (1, .int (nI f)), (2, .int (nI ch)), (3, .int (nI (fMo (nI 31) s 5))), (5, .int (nI i))]) hx hb dX2_sound_127 hl (k := 7) rfl (nI_add u 1) (by decide) rfl (fun ls hl => ?_)
                            refine lv_goto (tgt := 62) hx hb dX2_sound_130 (by decide) ?_
                            exact ih_LP62 (u + 1) (by omega) (by omega) H locs ls (hz.cast (by rfl)) (lv_cast (lv_sub hl [3, 4, 5, 6, 1, 7, 0] (l' := [(0, .ref (a 0)), (1, .int (nI f)), (2, .int (nI ch)), (3, .int (nI (fMo (nI 31) s 5))), (4, .int ((fHi f ch s (tmN s) i (fHo f ch s (tmN s) (fMo (nI 31) s 5) i) u) ||| (nI 0))), (5, .int (nI i)), (6, .int (nI (u + 1)))]) rfl) (by simp [fHi, ← hhv, c113]))
                          · refine lv_iconst (v := (nI 1)) hx hb dX2_sound_116 (by decide) ?_
                            refine lv_iload hx hb dX2_sound_117 (lv_at hl 6 rfl) ?_
                            refine lv_ishl hx hb dX2_sound_119 ?_
                            refine lv_goto (tgt := 124) hx hb dX2_sound_120 (by decide) ?_
                            refine lv_ior hx hb dX2_sound_124 ?_
                            refine lv_istore (lv' := [(4, .int ((fHi f ch s (tmN s) i (fHo f ch s (tmN s) (fMo (nI 31) s 5) i) u) ||| ((nI 1) <<< ((nI i) &&& 31)))), (7, .int (b2i hv2)), (0, .ref (a 0)), (1, .int (nI f)), (2, .int (nI ch)), (3, .int (nI (fMo (nI 31) s 5))), (5, .int (nI i)), (6, .int (nI u))]) hx hb dX2_sound_125 hl (by decide) rfl (fun ls hl => ?_)
                            refine lv_iinc (v := nI (u + 1)) (lv' := [(6, .int (nI (u + 1))), (4, .int ((fHi f ch s (tmN s) i (fHo f ch s (tmN s) (fMo (nI 31) s 5) i) u) ||| ((nI 1) <<< ((nI i) &&& 31)))), (7, .int (b2i hv2)), (0, .ref (a 0)), (1, .int (nI f)), (2, .int (nI ch)), (3, .int (nI (fMo (nI 31) s 5))), (5, .int (nI i))]) hx hb dX2_sound_127 hl (k := 7) rfl (nI_add u 1) (by decide) rfl (fun ls hl => ?_)
                            refine lv_goto (tgt := 62) hx hb dX2_sound_130 (by decide) ?_
                            exact ih_LP62 (u + 1) (by omega) (by omega) H locs ls (hz.cast (by rfl)) (lv_cast (lv_sub hl [3, 4, 5, 6, 1, 7, 0] (l' := [(0, .ref (a 0)), (1, .int (nI f)), (2, .int (nI ch)), (3, .int (nI (fMo (nI 31) s 5))), (4, .int ((fHi f ch s (tmN s) i (fHo f ch s (tmN s) (fMo (nI 31) s 5) i) u) ||| ((nI 1) <<< ((nI i) &&& 31)))), (5, .int (nI i)), (6, .int (nI (u + 1)))]) rfl) (by simp [fHi, ← hhv, c113]))
                        exact LPj  false (by simp [fHa, c71, c80])  H locs ls (hz.cast (by rfl)) (lv_cast (lv_sub hl [0, 1, 2, 3, 4, 5, 6] (l' := [(0, .ref (a 0)), (1, .int (nI f)), (2, .int (nI ch)), (3, .int (nI (fMo (nI 31) s 5))), (4, .int (fHi f ch s (tmN s) i (fHo f ch s (tmN s) (fMo (nI 31) s 5) i) u)), (5, .int (nI i)), (6, .int (nI u))]) rfl) (by rfl))
                      · refine lv_aload_n hx hb dX2_sound_83 rfl (lv_at hl 0 rfl) ?_
                        refine lv_iload hx hb dX2_sound_84 (lv_at hl 5 rfl) ?_
                        refine lv_aload_n hx hb dX2_sound_86 rfl (lv_at hl 0 rfl) ?_
                        refine gz (C := RX2) (T := TX2) (N := 7) (v := .ref (a 1)) B hz hinX2 0 rfl rfl 0 (by decide) lk7 rfl rfl dX2_sound_87 ?_
                        refine lv_iconst (v := (nI 0)) hx hb dX2_sound_90 (by decide) ?_
                        refine ildz (n := 624) (j := 0) (v := (s 0)) B hz 1 rfl (by omega) (by decide) rfl dX2_sound_91 ?_
                        refine cvt (y := nI (tmN s)) (show IvT s by assumption).1 ?_
                        refine lv_iload hx hb dX2_sound_92 (lv_at hl 6 rfl) ?_
                        refine ln_add hx hb dX2_sound_94 ?_
                        refine cV (C := RX2) (T := TX2) (N := 7) (ci := 2) (q0 := 0) (k := 4) (As := [.int (nI i), .int (nI ((tmN s) + u))]) (rest := []) (v := .int (nI (fLs (scn s i) ((tmN s) + u)))) (ws1 := (mW cI a s (fNp pst s np) (fNn0 np + 1) er od rk hs)) B hz hA (c_X2_listens l D cI cN a s (fNp pst s np) (fNn0 np + 1) er od rk hs i ((tmN s) + u) (by omega) (hI) (by have := hT.2; have := fMo_le (ms := nI 31) hI 5 (by omega); omega)) gX2_sound_X2_listens rfl rfl hd_X2_listens (by decide) rfl rfl rfl hl.1 rfl (Nat.le_of_ble_eq_true rfl) dX2_sound_95 (fun H locs hz => ?_)
                        refine lv_iload_n hx hb dX2_sound_98 rfl (lv_at hl 2 rfl) ?_
                        refine ln_icmp_ne (tgt := 106) hx hb dX2_sound_99 (by decide) (by have := (nth_ok (hI i (by omega)).2.1 (Nat.mod_lt (tmN s + u) (cnt_pos (hI i (by omega)).1 (hI i (by omega)).2.1))).1; unfold fLs; constructor <;> omega) (fun c99 => ?_) (fun c99 => ?_)
                        · refine lv_iconst (v := (nI 0)) hx hb dX2_sound_106 (by decide) ?_
                          have LPj : ∀ (hv2 : Bool), (hv2 = fHa f ch s (tmN s) i u) → ∀ (H : Heap) (locs : List Loc) (ls : Array Slot), Hz D A s_.heap H locs (mW cI a s (fNp pst s np) (fNn0 np + 1) er od rk hs) → lv_has ls 8 [(0, .ref (a 0)), (1, .int (nI f)), (2, .int (nI ch)), (3, .int (nI (fMo (nI 31) s 5))), (4, .int (fHi f ch s (tmN s) i (fHo f ch s (tmN s) (fMo (nI 31) s 5) i) u)), (5, .int (nI i)), (6, .int (nI u))] → Wz p l e 4 s_ m args below meth c D A (some (.int ((pSound (nI f) (nI ch) s).1))) (mAft cI a s pst np er od rk hs od rk (pSound (nI f) (nI ch) s)) H locs (F0 m 107 ls [.int (b2i hv2)]) := by
                            intro hv2 hhv H locs ls hz hl
                            refine lv_istore (lv' := [(7, .int (b2i hv2)), (0, .ref (a 0)), (1, .int (nI f)), (2, .int (nI ch)), (3, .int (nI (fMo (nI 31) s 5))), (4, .int (fHi f ch s (tmN s) i (fHo f ch s (tmN s) (fMo (nI 31) s 5) i) u)), (5, .int (nI i)), (6, .int (nI u))]) hx hb dX2_sound_107 hl (by decide) rfl (fun ls hl => ?_)
                            refine lv_iload hx hb dX2_sound_109 (lv_at hl 5 rfl) ?_
                            refine lv_iload hx hb dX2_sound_111 (lv_at hl 0 rfl) ?_
                            refine lb_if_eq (tgt := 123) hx hb dX2_sound_113 (by decide) (fun c113 => ?_) (fun c113 => ?_)
                            · refine lv_iconst (v := (nI 0)) hx hb dX2_sound_123 (by decide) ?_
                              refine lv_ior hx hb dX2_sound_124 ?_
                              refine lv_istore (lv' := [(4, .int ((fHi f ch s (tmN s) i (fHo f ch s (tmN s) (fMo (nI 31) s 5) i) u) ||| (nI 0))), (7, .int (b2i hv2)), (0, .ref (a 0)), (1, .int (nI f)), (2, .int (nI ch)), (3, .int (nI (fMo (nI 31) s 5))), (5, .int (nI i)), (6, .int (nI u))]) hx hb dX2_sound_125 hl (by decide) rfl (fun ls hl => ?_)
                              refine lv_iinc (v := nI (u + 1)) (lv' := [(6, .int (nI (u + 1))), (4, .int ((fHi f ch s (tmN s) i (fHo f ch s (tmN s) (fMo (nI 31) s 5) i) u) ||| (nI 0))), (7, .int (b2i hv2)), (0, .ref (a 0)), (1, .int (nI f)), (2, .int (nI ch)), (3, .int (nI (fMo (nI 31) s 5))), (5, .int (nI i))]) hx hb dX2_sound_127 hl (k := 7) rfl (nI_add u 1) (by decide) rfl (fun ls hl => ?_)
                              refine lv_goto (tgt := 62) hx hb dX2_sound_130 (by decide) ?_
                              exact ih_LP62 (u + 1) (by omega) (by omega) H locs ls (hz.cast (by rfl)) (lv_cast (lv_sub hl [3, 4, 5, 6, 1, 7, 0] (l' := [(0, .ref (a 0)), (1, .int (nI f)), (2, .int (nI ch)), (3, .int (nI (fMo (nI 31) s 5))), (4, .int ((fHi f ch s (tmN s) i (fHo f ch s (tmN s) (fMo (nI 31) s 5) i) u) ||| (nI 0))), (5, .int (nI i)), (6, .int (nI (u + 1)))]) rfl) (by simp [fHi, ← hhv, c113]))
                            · refine lv_iconst (v := (nI 1)) hx hb dX2_sound_116 (by decide) ?_
                              refine lv_iload hx hb dX2_sound_117 (lv_at hl 6 rfl) ?_
                              refine lv_ishl hx hb dX2_sound_119 ?_
                              refine lv_goto (tgt := 124) hx hb dX2_sound_120 (by decide) ?_
                              refine lv_ior hx hb dX2_sound_124 ?_
                              refine lv_istore (lv' := [(4, .int ((fHi f ch s (tmN s) i (fHo f ch s (tmN s) (fMo (nI 31) s 5) i) u) ||| ((nI 1) <<< ((nI i) &&& 31)))), (7, .int (b2i hv2)), (0, .ref (a 0)), (1, .int (nI f)), (2, .int (nI ch)), (3, .int (nI (fMo (nI 31) s 5))), (5, .int (nI i)), (6, .int (nI u))]) hx hb dX2_sound_125 hl (by decide) rfl (fun ls hl => ?_)
                              refine lv_iinc (v := nI (u + 1)) (lv' := [(6, .int (nI (u + 1))), (4, .int ((fHi f ch s (tmN s) i (fHo f ch s (tmN s) (fMo (nI 31) s 5) i) u) ||| ((nI 1) <<< ((nI i) &&& 31)))), (7, .int (b2i hv2)), (0, .ref (a 0)), (1, .int (nI f)), (2, .int (nI ch)), (3, .int (nI (fMo (nI 31) s 5))), (5, .int (nI i))]) hx hb dX2_sound_127 hl (k := 7) rfl (nI_add u 1) (by decide) rfl (fun ls hl => ?_)
                              refine lv_goto (tgt := 62) hx hb dX2_sound_130 (by decide) ?_
                              exact ih_LP62 (u + 1) (by omega) (by omega) H locs ls (hz.cast (by rfl)) (lv_cast (lv_sub hl [3, 4, 5, 6, 1, 7, 0] (l' := [(0, .ref (a 0)), (1, .int (nI f)), (2, .int (nI ch)), (3, .int (nI (fMo (nI 31) s 5))), (4, .int ((fHi f ch s (tmN s) i (fHo f ch s (tmN s) (fMo (nI 31) s 5) i) u) ||| ((nI 1) <<< ((nI i) &&& 31)))), (5, .int (nI i)), (6, .int (nI (u + 1)))]) rfl) (by simp [fHi, ← hhv, c113]))
                          exact LPj  false (by simp [fHa, c71, c80, c99])  H locs ls (hz.cast (by rfl)) (lv_cast (lv_sub hl [0, 1, 2, 3, 4, 5, 6] (l' := [(0, .ref (a 0)), (1, .int (nI f)), (2, .int (nI ch)), (3, .int (nI (fMo (nI 31) s 5))), (4, .int (fHi f ch s (tmN s) i (fHo f ch s (tmN s) (fMo (nI 31) s 5) i) u)), (5, .int (nI i)), (6, .int (nI u))]) rfl) (by rfl))
                        · refine lv_iconst (v := (nI 1)) hx hb dX2_sound_102 (by decide) ?_
                          refine lv_goto (tgt := 107) hx hb dX2_sound_103 (by decide) ?_
                          have LPj : ∀ (hv2 : Bool), (hv2 = fHa f ch s (tmN s) i u) → ∀ (H : Heap) (locs : List Loc) (ls : Array Slot), Hz D A s_.heap H locs (mW cI a s (fNp pst s np) (fNn0 np + 1) er od rk hs) → lv_has ls 8 [(0, .ref (a 0)), (1, .int (nI f)), (2, .int (nI ch)), (3, .int (nI (fMo (nI 31) s 5))), (4, .int (fHi f ch s (tmN s) i (fHo f ch s (tmN s) (fMo (nI 31) s 5) i) u)), (5, .int (nI i)), (6, .int (nI u))] → Wz p l e 4 s_ m args below meth c D A (some (.int ((pSound (nI f) (nI ch) s).1))) (mAft cI a s pst np er od rk hs od rk (pSound (nI f) (nI ch) s)) H locs (F0 m 107 ls [.int (b2i hv2)]) := by
                            intro hv2 hhv H locs ls hz hl
                            refine lv_istore (lv' := [(7, .int (b2i hv2)), (0, .ref (a 0)), (1, .int (nI f)), (2, .int (nI ch)), (3, .int (nI (fMo (nI 31) s 5))), (4, .int (fHi f ch s (tmN s) i (fHo f ch s (tmN s) (fMo (nI 31) s 5) i) u)), (5, .int (nI i)), (6, .int (nI u))]) hx hb dX2_sound_107 hl (by decide) rfl (fun ls hl => ?_)
                            refine lv_iload hx hb dX2_sound_109 (lv_at hl 5 rfl) ?_
                            refine lv_iload hx hb dX2_sound_111 (lv_at hl 0 rfl) ?_
                            refine lb_if_eq (tgt := 123) hx hb dX2_sound_113 (by decide) (fun c113 => ?_) (fun c113 => ?_)
                            · refine lv_iconst (v := (nI 0)) hx hb dX2_sound_123 (by decide) ?_
                              refine lv_ior hx hb dX2_sound_124 ?_
                              refine lv_istore (lv' := [(4, .int ((fHi f ch s (tmN s) i (fHo f ch s (tmN s) (fMo (nI 31) s 5) i) u) ||| (nI 0))), (7, .int (b2i hv2)), (0, .ref (a 0)), (1, .int (nI f)), (2, .int (nI ch)), (3, .int (nI (fMo (nI 31) s 5))), (5, .int (nI i)), (6, .int (nI u))]) hx hb dX2_sound_125 hl (by decide) rfl (fun ls hl => ?_)
                              refine lv_iinc (v := nI (u + 1)) (lv' := [(6, .int (nI (u + 1))), (4, .int ((fHi f ch s (tmN s) i (fHo f ch s (tmN s) (fMo (nI 31) s 5) i) u) ||| (nI 0))), (7, .int (b2i hv2)), (0, .ref (a 0)), (1, .int (nI f)), (2, .int (nI ch)), (3, .int (nI (fMo (nI 31) s 5))), (5, .int (nI i))]) hx hb dX2_sound_127 hl (k := 7) rfl (nI_add u 1) (by decide) rfl (fun ls hl => ?_)
                              refine lv_goto (tgt := 62) hx hb dX2_sound_130 (by decide) ?_
                              exact ih_LP62 (u + 1) (by omega) (by omega) H locs ls (hz.cast (by rfl)) (lv_cast (lv_sub hl [3, 4, 5, 6, 1, 7, 0] (l' := [(0, .ref (a 0)), (1, .int (nI f)), (2, .int (nI ch)), (3, .int (nI (fMo (nI 31) s 5))), (4, .int ((fHi f ch s (tmN s) i (fHo f ch s (tmN s) (fMo (nI 31) s 5) i) u) ||| (nI 0))), (5, .int (nI i)), (6, .int (nI (u + 1)))]) rfl) (by simp [fHi, ← hhv, c113]))
                            · refine lv_iconst (v := (nI 1)) hx hb dX2_sound_116 (by decide) ?_
                              refine lv_iload hx hb dX2_sound_117 (lv_at hl 6 rfl) ?_
                              refine lv_ishl hx hb dX2_sound_119 ?_
                              refine lv_goto (tgt := 124) hx hb dX2_sound_120 (by decide) ?_
                              refine lv_ior hx hb dX2_sound_124 ?_
                              refine lv_istore (lv' := [(4, .int ((fHi f ch s (tmN s) i (fHo f ch s (tmN s) (fMo (nI 31) s 5) i) u) ||| ((nI 1) <<< ((nI i) &&& 31)))), (7, .int (b2i hv2)), (0, .ref (a 0)), (1, .int (nI f)), (2, .int (nI ch)), (3, .int (nI (fMo (nI 31) s 5))), (5, .int (nI i)), (6, .int (nI u))]) hx hb dX2_sound_125 hl (by decide) rfl (fun ls hl => ?_)
                              refine lv_iinc (v := nI (u + 1)) (lv' := [(6, .int (nI (u + 1))), (4, .int ((fHi f ch s (tmN s) i (fHo f ch s (tmN s) (fMo (nI 31) s 5) i) u) ||| ((nI 1) <<< ((nI i) &&& 31)))), (7, .int (b2i hv2)), (0, .ref (a 0)), (1, .int (nI f)), (2, .int (nI ch)), (3, .int (nI (fMo (nI 31) s 5))), (5, .int (nI i))]) hx hb dX2_sound_127 hl (k := 7) rfl (nI_add u 1) (by decide) rfl (fun ls hl => ?_)
                              refine lv_goto (tgt := 62) hx hb dX2_sound_130 (by decide) ?_
                              exact ih_LP62 (u + 1) (by omega) (by omega) H locs ls (hz.cast (by rfl)) (lv_cast (lv_sub hl [3, 4, 5, 6, 1, 7, 0] (l' := [(0, .ref (a 0)), (1, .int (nI f)), (2, .int (nI ch)), (3, .int (nI (fMo (nI 31) s 5))), (4, .int ((fHi f ch s (tmN s) i (fHo f ch s (tmN s) (fMo (nI 31) s 5) i) u) ||| ((nI 1) <<< ((nI i) &&& 31)))), (5, .int (nI i)), (6, .int (nI (u + 1)))]) rfl) (by simp [fHi, ← hhv, c113]))
                          exact LPj  true (by simp [fHa, c71, c80, c99])  H locs ls (hz.cast (by rfl)) (lv_cast (lv_sub hl [0, 1, 2, 3, 4, 5, 6] (l' := [(0, .ref (a 0)), (1, .int (nI f)), (2, .int (nI ch)), (3, .int (nI (fMo (nI 31) s 5))), (4, .int (fHi f ch s (tmN s) i (fHo f ch s (tmN s) (fMo (nI 31) s 5) i) u)), (5, .int (nI i)), (6, .int (nI u))]) rfl) (by rfl))
              exact LP62 _ 0 (Nat.zero_le _) (Nat.lt_succ_self _) H locs ls (hz.cast (by rfl)) (lv_cast (lv_sub hl [1, 2, 3, 4, 5, 6, 0] (l' := [(0, .ref (a 0)), (1, .int (nI f)), (2, .int (nI ch)), (3, .int (nI (fMo (nI 31) s 5))), (4, .int (fHo f ch s (tmN s) (fMo (nI 31) s 5) i)), (5, .int (nI i)), (6, .int (nI 0))]) rfl) (by rfl))
        exact LP53 _ 0 (by omega) (Nat.lt_succ_self _) H locs ls (hz.cast (by rfl)) (lv_cast (lv_sub hl [3, 4, 5, 2, 1, 0] (l' := [(0, .ref (a 0)), (1, .int (nI f)), (2, .int (nI ch)), (3, .int (nI (fMo (nI 31) s 5))), (4, .int (nI 0)), (5, .int (nI 0))]) rfl) (by rfl))
      · refine lv_aload_n hx hb dX2_sound_29 rfl (lv_at hl 0 rfl) ?_
        refine lv_bipush (v := (-3)) hx hb dX2_sound_30 (by decide) ?_
        refine cV (C := RX2) (T := TX2) (N := 7) (ci := 2) (q0 := 0) (k := 4) (As := [.int (-3)]) (rest := []) (v := .int (-3)) (ws1 := (mW cI a s pst np (upd er (fIx (-3)) (er (fIx (-3)) + nI 1)) od rk hs)) B hz hA (c_X2_fail l D cI cN a s pst np er od rk hs (-3) (by first | exact Or.inl rfl | exact Or.inr rfl)) gX2_sound_X2_fail rfl rfl hd_X2_fail (by decide) rfl rfl rfl hl.1 rfl (Nat.le_of_ble_eq_true rfl) dX2_sound_32 (fun H locs hz => ?_)
        exact rz_i B hr hz dX2_sound_35 (by first | (simp [pSound, c4, c11, c26]; done) | (simp [pSound, c4, c11, c26, tn5 hf]; done) | (rw [fSm_eq hI hc]; simp [pSound, c4, c11, c26, tn5 hf, tn8 hc]; done)) (by first | (refine mAft_n ?_; simp [pSound, c4, c11, c26, tn5 hf]; done) | (refine mAft_n ?_; simp [pSound, c4, c11, c26]; done) | (rw [fSm_eq hI hc]; (refine mAft_s (r := (fSo f ch (fS0 s) 5).1) ?_; simp [pSound, c4, c11, c26, tn5 hf, tn8 hc]; first | done | rfl)))
    · refine lv_aload_n hx hb dX2_sound_14 rfl (lv_at hl 0 rfl) ?_
      refine lv_bipush (v := (-2)) hx hb dX2_sound_15 (by decide) ?_
      refine cV (C := RX2) (T := TX2) (N := 7) (ci := 2) (q0 := 0) (k := 4) (As := [.int (-2)]) (rest := []) (v := .int (-2)) (ws1 := (mW cI a s pst np (upd er (fIx (-2)) (er (fIx (-2)) + nI 1)) od rk hs)) B hz hA (c_X2_fail l D cI cN a s pst np er od rk hs (-2) (by first | exact Or.inl rfl | exact Or.inr rfl)) gX2_sound_X2_fail rfl rfl hd_X2_fail (by decide) rfl rfl rfl hl.1 rfl (Nat.le_of_ble_eq_true rfl) dX2_sound_17 (fun H locs hz => ?_)
      exact rz_i B hr hz dX2_sound_20 (by first | (simp [pSound, c4, c11]; done) | (simp [pSound, c4, c11, tn5 hf]; done) | (rw [fSm_eq hI hc]; simp [pSound, c4, c11, c26, tn5 hf, tn8 hc]; done)) (by first | (refine mAft_n ?_; simp [pSound, c4, c11, tn5 hf]; done) | (refine mAft_n ?_; simp [pSound, c4, c11]; done) | (rw [fSm_eq hI hc]; (refine mAft_s (r := (fSo f ch (fS0 s) 5).1) ?_; simp [pSound, c4, c11, c26, tn5 hf, tn8 hc]; first | done | rfl)))
theorem hd_X2_call : hdZ yX2_call 2 := by decide +kernel
set_option maxRecDepth 100000 in
set_option maxHeartbeats 4000000 in
theorem c_X2_call (l : Launch) (D : va_G) (cI cN : ClassId) (a : Nat → Nat) (s : Sz) (pst : Sz) (np : Nat) (er : Sz) (od : Sz) (rk : Sz) (hs : Int64) (x : Int32) (y : Int32) (hnp : np ≤ 4) (hI : IvS s) (hv : IvA s) (hn : fNn s) : Fn l D cI cN yX2_call wsX2_call 4 (mW cI a s pst np er od rk hs) [.ref (a 0), .int x, .int y] (some (.int ((pCall (mCl s od rk) x y s).1))) (mAft cI a s pst np er od rk hs ((fSc (tn x) (tn y) s od rk 8).2.1) ((fSc (tn x) (tn y) s od rk 8).2.2) (pCall (mCl s od rk) x y s)) := by
  refine Fn.of (cc := cX2_call) (nL := 5) (ret := (some .int)) (lv := [(0, .ref (a 0)), (1, .int x), (2, .int y)]) (by decide +kernel) rfl (Nat.le_of_ble_eq_true rfl) rfl ?_
  intro p e s_ m args below meth c A B hr hA H locs ls hz hl
  have hx := B.1.1
  have hb := B.1.2.1
  have hinX2 : ∀ w ∈ u_ws RX2 TX2 7, w ∈ wsX2_call := by decide +kernel
  have lk7 : Cond.fieldLink yX2_call.cls 7 RX2 (TX2 0).2.1 (TX2 0).2.2.1 ∈ wsX2_call := by decide +kernel
  have lk19 : Cond.fieldLink yX2_call.cls 19 RX2 (TX2 4).2.1 (TX2 4).2.2.1 ∈ wsX2_call := by decide +kernel
  refine lv_iload_n hx hb dX2_call_0 rfl (lv_at hl 1 rfl) ?_
  refine lv_iload_n hx hb dX2_call_1 rfl (lv_at hl 2 rfl) ?_
  refine cS (k := 4) (As := [.int x, .int y]) (rest := []) (v := .int (b2i (fPr x y))) B hz hA (c_X2_arePair l D cI cN x y ) gX2_call_X2_arePair rfl hd_X2_arePair (by decide) rfl hl.1 rfl (Nat.le_of_ble_eq_true rfl) dX2_call_2 (fun H locs hz => ?_)
  refine lb_if_ne (tgt := 15) hx hb dX2_call_5 (by decide) (fun c5 => ?_) (fun c5 => ?_)
  · obtain ⟨f, t, hf, ht, hft, rfl, rfl⟩ := fPr_nat c5
    refine lv_aload_n hx hb dX2_call_15 rfl (lv_at hl 0 rfl) ?_
    refine lv_iload_n hx hb dX2_call_16 rfl (lv_at hl 1 rfl) ?_
    refine cV (C := RX2) (T := TX2) (N := 7) (ci := 2) (q0 := 0) (k := 4) (As := [.int (nI f)]) (rest := []) (v := .int (b2i (fLk s f))) (ws1 := (mW cI a s pst np er od rk hs)) B hz hA (c_X2_isLinked l D cI cN a s pst np er od rk hs f (hf)) gX2_call_X2_isLinked rfl rfl hd_X2_isLinked (by decide) rfl rfl rfl hl.1 rfl (Nat.le_of_ble_eq_true rfl) dX2_call_17 (fun H locs hz => ?_)
    refine lb_if_ne (tgt := 31) hx hb dX2_call_20 (by decide) (fun c20 => ?_) (fun c20 => ?_)
    · refine lv_aload_n hx hb dX2_call_31 rfl (lv_at hl 0 rfl) ?_
      refine lv_bipush (v := (-3)) hx hb dX2_call_32 (by decide) ?_
      refine cV (C := RX2) (T := TX2) (N := 7) (ci := 2) (q0 := 0) (k := 4) (As := [.int (-3)]) (rest := []) (v := .int (-3)) (ws1 := (mW cI a s pst np (upd er (fIx (-3)) (er (fIx (-3)) + nI 1)) od rk hs)) B hz hA (c_X2_fail l D cI cN a s pst np er od rk hs (-3) (by first | exact Or.inl rfl | exact Or.inr rfl)) gX2_call_X2_fail rfl rfl hd_X2_fail (by decide) rfl rfl rfl hl.1 rfl (Nat.le_of_ble_eq_true rfl) dX2_call_34 (fun H locs hz => ?_)
      exact rz_i B hr hz dX2_call_37 (by first | (simp [pCall, c5, c20, tn5 hf]; done) | (simp [pCall, c5, c20, c28, tn5 hf, tn5 ht]; done)) (by first | (refine mAft_n ?_; simp [pCall, c5]; done) | (refine mAft_n ?_; simp [pCall, c5, c20, tn5 hf]; done) | (refine mAft_n ?_; simp [pCall, c5, c20, c28, tn5 hf, tn5 ht]; done) | (rw [tn5 hf, tn5 ht]; (refine mAft_s (r := -1) ?_; simp [pCall, c5, c20, c28, tn5 hf, tn5 ht, mCl, ← hR, fCl_0 (show (fSc f t s od rk 8).1 - j = 0 by omega)]; first | done | rfl)) | (rw [tn5 hf, tn5 ht]; (refine mAft_s (r := nI (fOl f t s od rk j)) ?_; simp [pCall, c5, c20, c28, tn5 hf, tn5 ht, mCl, ← hR, fCl_t (show 0 < (fSc f t s od rk 8).1 - j by omega) c102]; first | done | rfl)))
    · refine lv_aload_n hx hb dX2_call_23 rfl (lv_at hl 0 rfl) ?_
      refine lv_iload_n hx hb dX2_call_24 rfl (lv_at hl 2 rfl) ?_
      refine cV (C := RX2) (T := TX2) (N := 7) (ci := 2) (q0 := 0) (k := 4) (As := [.int (nI t)]) (rest := []) (v := .int (b2i (fLk s t))) (ws1 := (mW cI a s pst np er od rk hs)) B hz hA (c_X2_isLinked l D cI cN a s pst np er od rk hs t (ht)) gX2_call_X2_isLinked rfl rfl hd_X2_isLinked (by decide) rfl rfl rfl hl.1 rfl (Nat.le_of_ble_eq_true rfl) dX2_call_25 (fun H locs hz => ?_)
      refine lb_if_eq (tgt := 38) hx hb dX2_call_28 (by decide) (fun c28 => ?_) (fun c28 => ?_)
      · refine lv_aload_n hx hb dX2_call_38 rfl (lv_at hl 0 rfl) ?_
        refine cVv (C := RX2) (T := TX2) (N := 7) (ci := 2) (q0 := 0) (k := 4) (As := []) (rest := []) (ws1 := (mW cI a s (fNp pst s np) (fNn0 np + 1) er od rk hs)) B hz hA (c_X2_note l D cI cN a s pst np er od rk hs  (hnp)) gX2_call_X2_note rfl rfl hd_X2_note (by decide) rfl rfl rfl hl.1 rfl (Nat.le_of_ble_eq_true rfl) dX2_call_39 (fun H locs hz => ?_)
        refine lv_aload_n hx hb dX2_call_42 rfl (lv_at hl 0 rfl) ?_
        refine lv_iload_n hx hb dX2_call_43 rfl (lv_at hl 1 rfl) ?_
        refine lv_iload_n hx hb dX2_call_44 rfl (lv_at hl 2 rfl) ?_
        refine cV (C := RX2) (T := TX2) (N := 7) (ci := 2) (q0 := 0) (k := 4) (As := [.int (nI f), .int (nI t)]) (rest := []) (v := .int (nI ((fSc f t s od rk 8).1))) (ws1 := (mW cI a s (fNp pst s np) (fNn0 np + 1) er ((fSc f t s od rk 8).2.1) ((fSc f t s od rk 8).2.2) hs)) B hz hA (c_X2_sortChannels l D cI cN a s (fNp pst s np) (fNn0 np + 1) er od rk hs f t (hf) (ht) (hv)) gX2_call_X2_sortChannels rfl rfl hd_X2_sortChannels (by decide) rfl rfl rfl hl.1 rfl (Nat.le_of_ble_eq_true rfl) dX2_call_45 (fun H locs hz => ?_)
        refine lv_istore_n (lv' := [(3, .int (nI ((fSc f t s od rk 8).1))), (0, .ref (a 0)), (1, .int (nI f)), (2, .int (nI t))]) hx hb dX2_call_48 rfl hl (by decide) rfl (fun ls hl => ?_)
        refine lv_aload_n hx hb dX2_call_49 rfl (lv_at hl 1 rfl) ?_
        refine gz (C := RX2) (T := TX2) (N := 7) (v := .ref (a 1)) B hz hinX2 0 rfl rfl 0 (by decide) lk7 rfl rfl dX2_call_50 ?_
        refine lv_iconst (v := (nI 5)) hx hb dX2_call_53 (by decide) ?_
        refine lv_iconst (v := (nI 0)) hx hb dX2_call_54 (by decide) ?_
        refine istz (n := 624) (j := 5) (ws1 := (mW cI a (upd s 5 (nI 0)) (fNp pst s np) (fNn0 np + 1) er ((fSc f t s od rk 8).2.1) ((fSc f t s od rk 8).2.2) hs)) B hz 1 rfl (by omega) (by decide) rfl dX2_call_55 (fun H locs hz => ?_)
        refine lv_iconst (v := (nI 0)) hx hb dX2_call_56 (by decide) ?_
        refine lv_istore (lv' := [(4, .int (nI 0)), (3, .int (nI ((fSc f t s od rk 8).1))), (0, .ref (a 0)), (1, .int (nI f)), (2, .int (nI t))]) hx hb dX2_call_57 hl (by decide) rfl (fun ls hl => ?_)
        have LP : ∀ (n_LP : Nat) (j : Nat) (S : Sz), (j ≤ (fSc f t s od rk 8).1) → (IvS S) → (fNn S) → (fCl f t (fOl f t s od rk) ((fSc f t s od rk 8).1 - j) j S = fCl f t (fOl f t s od rk) (fSc f t s od rk 8).1 0 (upd s 5 (nI 0))) → (fSc f t s od rk 8).1 - j < n_LP → ∀ (H : Heap) (locs : List Loc) (ls : Array Slot), Hz D A s_.heap H locs (mW cI a S (fNp pst s np) (fNn0 np + 1) er ((fSc f t s od rk 8).2.1) ((fSc f t s od rk 8).2.2) hs) → lv_has ls 5 [(0, .ref (a 0)), (1, .int (nI f)), (2, .int (nI t)), (3, .int (nI ((fSc f t s od rk 8).1))), (4, .int (nI j))] → Wz p l e 4 s_ m args below meth c D A (some (.int ((pCall (mCl s od rk) (nI f) (nI t) s).1))) (mAft cI a s pst np er od rk hs ((fSc (tn (nI f)) (tn (nI t)) s od rk 8).2.1) ((fSc (tn (nI f)) (tn (nI t)) s od rk 8).2.2) (pCall (mCl s od rk) (nI f) (nI t) s)) H locs (F0 m 59 ls []) := by
          intro n_LP
          induction n_LP with
          | zero => intro j S hjle hIS hNS hR hm; exact absurd hm (Nat.not_lt_zero _)
          | succ n_LP ih_LP =>
            intro j S hjle hIS hNS hR hm H locs ls hz hl
            refine lv_iload hx hb dX2_call_59 (lv_at hl 4 rfl) ?_
            refine lv_iload_n hx hb dX2_call_61 rfl (lv_at hl 3 rfl) ?_
            refine ln_icmp_ge (tgt := 137) hx hb dX2_call_62 (by decide) (by have := fSc_le f t s od rk 8; constructor <;> omega) (fun c62 => ?_) (fun c62 => ?_)
            · refine lv_iconst (v := (-1)) hx hb dX2_call_137 (by decide) ?_
              exact rz_i B hr hz dX2_call_138 (by simp [pCall, c5, c20, c28, tn5 hf, tn5 ht, mCl, ← hR, fCl_0 (show (fSc f t s od rk 8).1 - j = 0 by omega)]) (by first | (refine mAft_n ?_; simp [pCall, c5]; done) | (refine mAft_n ?_; simp [pCall, c5, c20, tn5 hf]; done) | (refine mAft_n ?_; simp [pCall, c5, c20, c28, tn5 hf, tn5 ht]; done) | (rw [tn5 hf, tn5 ht]; (refine mAft_s (r := -1) ?_; simp [pCall, c5, c20, c28, tn5 hf, tn5 ht, mCl, ← hR, fCl_0 (show (fSc f t s od rk 8).1 - j = 0 by omega)]; first | done | rfl)) | (rw [tn5 hf, tn5 ht]; (refine mAft_s (r := nI (fOl f t s od rk j)) ?_; simp [pCall, c5, c20, c28, tn5 hf, tn5 ht, mCl, ← hR, fCl_t (show 0 < (fSc f t s od rk 8).1 - j by omega) c102]; first | done | rfl)))
            · have hjn : j < (fSc f t s od rk 8).1 := c62
              refine lv_aload_n hx hb dX2_call_65 rfl (lv_at hl 0 rfl) ?_
              refine gz (C := RX2) (T := TX2) (N := 7) (v := .ref (a 1)) B hz hinX2 0 rfl rfl 0 (by decide) lk7 rfl rfl dX2_call_66 ?_
              refine lv_iconst (v := (nI 5)) hx hb dX2_call_69 (by decide) ?_
              refine lv_dup2_11 hx hb dX2_call_70 rfl rfl ?_
              refine ildz (n := 624) (j := 5) (v := (S 5)) B hz 1 rfl (by omega) (by decide) rfl dX2_call_71 ?_
              refine lv_iconst (v := (nI 1)) hx hb dX2_call_72 (by decide) ?_
              refine lv_iadd hx hb dX2_call_73 ?_
              refine istz (n := 624) (j := 5) (ws1 := (mW cI a (upd S 5 ((S 5) + (nI 1))) (fNp pst s np) (fNn0 np + 1) er ((fSc f t s od rk 8).2.1) ((fSc f t s od rk 8).2.2) hs)) B hz 1 rfl (by omega) (by decide) rfl dX2_call_74 (fun H locs hz => ?_)
              refine lv_aload_n hx hb dX2_call_75 rfl (lv_at hl 0 rfl) ?_
              refine gz (C := RX2) (T := TX2) (N := 7) (v := .ref (a 1)) B hz hinX2 0 rfl rfl 0 (by decide) lk7 rfl rfl dX2_call_76 ?_
              refine lv_bipush (v := (nI 6)) hx hb dX2_call_79 (by decide) ?_
              refine lv_aload_n hx hb dX2_call_81 rfl (lv_at hl 0 rfl) ?_
              refine gz (C := RX2) (T := TX2) (N := 7) (v := .ref (a 4)) B hz hinX2 0 rfl rfl 4 (by decide) lk19 rfl rfl dX2_call_82 ?_
              refine lv_iload hx hb dX2_call_85 (lv_at hl 4 rfl) ?_
              refine ildz (n := 8) (j := j) (v := (((fSc f t s od rk 8).2.1) j)) B hz 4 rfl (by have := fSc_le f t s od rk 8; omega) (by decide) rfl dX2_call_87 ?_
              refine cvt (y := nI (fOl f t s od rk j)) ((fOl_ok hjn).1) ?_
              refine istz (n := 624) (j := 6) (ws1 := (mW cI a (upd (upd S 5 ((S 5) + (nI 1))) 6 (nI (fOl f t s od rk j))) (fNp pst s np) (fNn0 np + 1) er ((fSc f t s od rk 8).2.1) ((fSc f t s od rk 8).2.2) hs)) B hz 1 rfl (by omega) (by decide) rfl dX2_call_88 (fun H locs hz => ?_)
              refine lv_aload_n hx hb dX2_call_89 rfl (lv_at hl 0 rfl) ?_
              refine lv_iload_n hx hb dX2_call_90 rfl (lv_at hl 1 rfl) ?_
              refine lv_iload_n hx hb dX2_call_91 rfl (lv_at hl 2 rfl) ?_
              refine lv_aload_n hx hb dX2_call_92 rfl (lv_at hl 0 rfl) ?_
              refine gz (C := RX2) (T := TX2) (N := 7) (v := .ref (a 4)) B hz hinX2 0 rfl rfl 4 (by decide) lk19 rfl rfl dX2_call_93 ?_
              refine lv_iload hx hb dX2_call_96 (lv_at hl 4 rfl) ?_
              refine ildz (n := 8) (j := j) (v := (((fSc f t s od rk 8).2.1) j)) B hz 4 rfl (by have := fSc_le f t s od rk 8; omega) (by decide) rfl dX2_call_98 ?_
              refine cvt (y := nI (fOl f t s od rk j)) ((fOl_ok hjn).1) ?_
              refine cV (C := RX2) (T := TX2) (N := 7) (ci := 2) (q0 := 0) (k := 4) (As := [.int (nI f), .int (nI t), .int (nI (fOl f t s od rk j))]) (rest := []) (v := .int (b2i ((fAm f t (fOl f t s od rk j) (upd (upd S 5 ((S 5) + (nI 1))) 6 (nI (fOl f t s od rk j)))).1))) (ws1 := (mW cI a ((fAm f t (fOl f t s od rk j) (upd (upd S 5 ((S 5) + (nI 1))) 6 (nI (fOl f t s od rk j)))).2) (fNp pst s np) (fNn0 np + 1) er ((fSc f t s od rk 8).2.1) ((fSc f t s od rk 8).2.2) hs)) B hz hA (c_X2_attempt l D cI cN a (upd (upd S 5 ((S 5) + (nI 1))) 6 (nI (fOl f t s od rk j))) (fNp pst s np) (fNn0 np + 1) er ((fSc f t s od rk 8).2.1) ((fSc f t s od rk 8).2.2) hs f t (fOl f t s od rk j) (hf) (ht) ((fOl_ok hjn).2) (IvS_upd (IvS_upd hIS (by omega)) (by omega)) (nn_upd (nn_upd hNS (by decide)) (by decide))) gX2_call_X2_attempt rfl rfl hd_X2_attempt (by decide) rfl rfl rfl hl.1 rfl (Nat.le_of_ble_eq_true rfl) dX2_call_99 (fun H locs hz => ?_)
              refine lb_if_eq (tgt := 131) hx hb dX2_call_102 (by decide) (fun c102 => ?_) (fun c102 => ?_)
              · refine lv_iinc (v := nI (j + 1)) (lv' := [(4, .int (nI (j + 1))), (0, .ref (a 0)), (1, .int (nI f)), (2, .int (nI t)), (3, .int (nI ((fSc f t s od rk 8).1)))]) hx hb dX2_call_131 hl (k := 4) rfl (nI_add j 1) (by decide) rfl (fun ls hl => ?_)
                refine lv_goto (tgt := 59) hx hb dX2_call_134 (by decide) ?_
                exact ih_LP (j + 1) ((fAm f t (fOl f t s od rk j) (fC1 (fOl f t s od rk j) S)).2) (by omega) (IvS_am hIS) (fAm_nn (nn_upd (nn_upd hNS (by decide)) (by decide))) ((fCl_f (n := (fSc f t s od rk 8).1 - j) (by omega) c102).symm.trans hR) (by omega) H locs ls (hz.cast (by rfl)) (lv_cast (lv_sub hl [1, 2, 3, 4, 0] (l' := [(0, .ref (a 0)), (1, .int (nI f)), (2, .int (nI t)), (3, .int (nI ((fSc f t s od rk 8).1))), (4, .int (nI (j + 1)))]) rfl) (by rfl))
              · refine lv_aload_n hx hb dX2_call_105 rfl (lv_at hl 0 rfl) ?_
                refine lv_iconst (v := (nI 1)) hx hb dX2_call_106 (by decide) ?_
                refine lv_iload_n hx hb dX2_call_107 rfl (lv_at hl 1 rfl) ?_
                refine lv_ishl hx hb dX2_call_108 ?_
                refine lv_iconst (v := (nI 1)) hx hb dX2_call_109 (by decide) ?_
                refine lv_iload_n hx hb dX2_call_110 rfl (lv_at hl 2 rfl) ?_
                refine lv_ishl hx hb dX2_call_111 ?_
                refine lv_ior hx hb dX2_call_112 ?_
                refine lv_aload_n hx hb dX2_call_113 rfl (lv_at hl 0 rfl) ?_
                refine gz (C := RX2) (T := TX2) (N := 7) (v := .ref (a 4)) B hz hinX2 0 rfl rfl 4 (by decide) lk19 rfl rfl dX2_call_114 ?_
                refine lv_iload hx hb dX2_call_117 (lv_at hl 4 rfl) ?_
                refine ildz (n := 8) (j := j) (v := (((fSc f t s od rk 8).2.1) j)) B hz 4 rfl (by have := fSc_le f t s od rk 8; omega) (by decide) rfl dX2_call_119 ?_
                refine cvt (y := nI (fOl f t s od rk j)) ((fOl_ok hjn).1) ?_
                refine cVv (C := RX2) (T := TX2) (N := 7) (ci := 2) (q0 := 0) (k := 4) (As := [.int (((nI 1) <<< ((nI f) &&& 31)) ||| ((nI 1) <<< ((nI t) &&& 31))), .int (nI (fOl f t s od rk j))]) (rest := []) (ws1 := (mW cI a (fJn (((nI 1) <<< ((nI f) &&& 31)) ||| ((nI 1) <<< ((nI t) &&& 31))) (nI (fOl f t s od rk j)) ((fAm f t (fOl f t s od rk j) (upd (upd S 5 ((S 5) + (nI 1))) 6 (nI (fOl f t s od rk j)))).2) 5) (fNp pst s np) (fNn0 np + 1) er ((fSc f t s od rk 8).2.1) ((fSc f t s od rk 8).2.2) hs)) B hz hA (c_X2_join l D cI cN a ((fAm f t (fOl f t s od rk j) (upd (upd S 5 ((S 5) + (nI 1))) 6 (nI (fOl f t s od rk j)))).2) (fNp pst s np) (fNn0 np + 1) er ((fSc f t s od rk 8).2.1) ((fSc f t s od rk 8).2.2) hs (((nI 1) <<< ((nI f) &&& 31)) ||| ((nI 1) <<< ((nI t) &&& 31))) (nI (fOl f t s od rk j)) ) gX2_call_X2_join rfl rfl hd_X2_join (by decide) rfl rfl rfl hl.1 rfl (Nat.le_of_ble_eq_true rfl) dX2_call_120 (fun H locs hz => ?_)
                refine lv_aload_n hx hb dX2_call_123 rfl (lv_at hl 0 rfl) ?_
                refine gz (C := RX2) (T := TX2) (N := 7) (v := .ref (a 4)) B hz hinX2 0 rfl rfl 4 (by decide) lk19 rfl rfl dX2_call_124 ?_
                refine lv_iload hx hb dX2_call_127 (lv_at hl 4 rfl) ?_
                refine ildz (n := 8) (j := j) (v := (((fSc f t s od rk 8).2.1) j)) B hz 4 rfl (by have := fSc_le f t s od rk 8; omega) (by decide) rfl dX2_call_129 ?_
                refine cvt (y := nI (fOl f t s od rk j)) ((fOl_ok hjn).1) ?_
                exact rz_i B hr hz dX2_call_130 (by simp [pCall, c5, c20, c28, tn5 hf, tn5 ht, mCl, ← hR, fCl_t (show 0 < (fSc f t s od rk 8).1 - j by omega) c102]) (by first | (refine mAft_n ?_; simp [pCall, c5]; done) | (refine mAft_n ?_; simp [pCall, c5, c20, tn5 hf]; done) | (refine mAft_n ?_; simp [pCall, c5, c20, c28, tn5 hf, tn5 ht]; done) | (rw [tn5 hf, tn5 ht]; (refine mAft_s (r := -1) ?_; simp [pCall, c5, c20, c28, tn5 hf, tn5 ht, mCl, ← hR, fCl_0 (show (fSc f t s od rk 8).1 - j = 0 by omega)]; first | done | rfl)) | (rw [tn5 hf, tn5 ht]; (refine mAft_s (r := nI (fOl f t s od rk j)) ?_; simp [pCall, c5, c20, c28, tn5 hf, tn5 ht, mCl, ← hR, fCl_t (show 0 < (fSc f t s od rk 8).1 - j by omega) c102]; first | done | rfl)))
        exact LP _ 0 (upd s 5 (nI 0)) (by omega) (IvS_upd hI (by omega)) (nn_upd hn (by decide)) (rfl) (Nat.lt_succ_self _) H locs ls (hz.cast (by rfl)) (lv_cast (lv_sub hl [2, 3, 4, 1, 0] (l' := [(0, .ref (a 0)), (1, .int (nI f)), (2, .int (nI t)), (3, .int (nI ((fSc f t s od rk 8).1))), (4, .int (nI 0))]) rfl) (by rfl))
      · refine lv_aload_n hx hb dX2_call_31 rfl (lv_at hl 0 rfl) ?_
        refine lv_bipush (v := (-3)) hx hb dX2_call_32 (by decide) ?_
        refine cV (C := RX2) (T := TX2) (N := 7) (ci := 2) (q0 := 0) (k := 4) (As := [.int (-3)]) (rest := []) (v := .int (-3)) (ws1 := (mW cI a s pst np (upd er (fIx (-3)) (er (fIx (-3)) + nI 1)) od rk hs)) B hz hA (c_X2_fail l D cI cN a s pst np er od rk hs (-3) (by first | exact Or.inl rfl | exact Or.inr rfl)) gX2_call_X2_fail rfl rfl hd_X2_fail (by decide) rfl rfl rfl hl.1 rfl (Nat.le_of_ble_eq_true rfl) dX2_call_34 (fun H locs hz => ?_)
        exact rz_i B hr hz dX2_call_37 (by first | (simp [pCall, c5, c20, tn5 hf]; done) | (simp [pCall, c5, c20, c28, tn5 hf, tn5 ht]; done)) (by first | (refine mAft_n ?_; simp [pCall, c5]; done) | (refine mAft_n ?_; simp [pCall, c5, c20, tn5 hf]; done) | (refine mAft_n ?_; simp [pCall, c5, c20, c28, tn5 hf, tn5 ht]; done) | (rw [tn5 hf, tn5 ht]; (refine mAft_s (r := -1) ?_; simp [pCall, c5, c20, c28, tn5 hf, tn5 ht, mCl, ← hR, fCl_0 (show (fSc f t s od rk 8).1 - j = 0 by omega)]; first | done | rfl)) | (rw [tn5 hf, tn5 ht]; (refine mAft_s (r := nI (fOl f t s od rk j)) ?_; simp [pCall, c5, c20, c28, tn5 hf, tn5 ht, mCl, ← hR, fCl_t (show 0 < (fSc f t s od rk 8).1 - j by omega) c102]; first | done | rfl)))
  · refine lv_aload_n hx hb dX2_call_8 rfl (lv_at hl 0 rfl) ?_
    refine lv_bipush (v := (-2)) hx hb dX2_call_9 (by decide) ?_
    refine cV (C := RX2) (T := TX2) (N := 7) (ci := 2) (q0 := 0) (k := 4) (As := [.int (-2)]) (rest := []) (v := .int (-2)) (ws1 := (mW cI a s pst np (upd er (fIx (-2)) (er (fIx (-2)) + nI 1)) od rk hs)) B hz hA (c_X2_fail l D cI cN a s pst np er od rk hs (-2) (by first | exact Or.inl rfl | exact Or.inr rfl)) gX2_call_X2_fail rfl rfl hd_X2_fail (by decide) rfl rfl rfl hl.1 rfl (Nat.le_of_ble_eq_true rfl) dX2_call_11 (fun H locs hz => ?_)
    exact rz_i B hr hz dX2_call_14 (by simp [pCall, c5]) (by first | (refine mAft_n ?_; simp [pCall, c5]; done) | (refine mAft_n ?_; simp [pCall, c5, c20, tn5 hf]; done) | (refine mAft_n ?_; simp [pCall, c5, c20, c28, tn5 hf, tn5 ht]; done) | (rw [tn5 hf, tn5 ht]; (refine mAft_s (r := -1) ?_; simp [pCall, c5, c20, c28, tn5 hf, tn5 ht, mCl, ← hR, fCl_0 (show (fSc f t s od rk 8).1 - j = 0 by omega)]; first | done | rfl)) | (rw [tn5 hf, tn5 ht]; (refine mAft_s (r := nI (fOl f t s od rk j)) ?_; simp [pCall, c5, c20, c28, tn5 hf, tn5 ht, mCl, ← hR, fCl_t (show 0 < (fSc f t s od rk 8).1 - j by omega) c102]; first | done | rfl)))
theorem hd_X2_netCall : hdZ yX2_netCall 2 := by decide +kernel
set_option maxRecDepth 100000 in
set_option maxHeartbeats 4000000 in
theorem c_X2_netCall (l : Launch) (D : va_G) (cI cN : ClassId) (a : Nat → Nat) (s : Sz) (pst : Sz) (np : Nat) (er : Sz) (od : Sz) (rk : Sz) (hs : Int64) (x : Int32) (y : Int32) (hnp : np ≤ 4) (hI : IvS s) (hv : IvA s) (hn : fNn s) : Fn l D cI cN yX2_netCall wsX2_netCall 4 (mW cI a s pst np er od rk hs) [.ref (a 0), .int x, .int y] (some (.int ((pNet (fun f => frn (fun ch => fNs (nI 31) y f ch s 5) (scn s f)) x y s).1))) (mAft cI a s pst np er od rk hs od rk (pNet (fun f => frn (fun ch => fNs (nI 31) y f ch s 5) (scn s f)) x y s)) := by
  refine Fn.of (cc := cX2_netCall) (nL := 7) (ret := (some .int)) (lv := [(0, .ref (a 0)), (1, .int x), (2, .int y)]) (by decide +kernel) rfl (Nat.le_of_ble_eq_true rfl) rfl ?_
  intro p e s_ m args below meth c A B hr hA H locs ls hz hl
  have hx := B.1.1
  have hb := B.1.2.1
  have hinX2 : ∀ w ∈ u_ws RX2 TX2 7, w ∈ wsX2_netCall := by decide +kernel
  have lk7 : Cond.fieldLink yX2_netCall.cls 7 RX2 (TX2 0).2.1 (TX2 0).2.2.1 ∈ wsX2_netCall := by decide +kernel
  refine lv_iload_n hx hb dX2_netCall_0 rfl (lv_at hl 1 rfl) ?_
  refine lv_iload_n hx hb dX2_netCall_1 rfl (lv_at hl 2 rfl) ?_
  refine cS (k := 4) (As := [.int x, .int y]) (rest := []) (v := .int (b2i (fNet x y))) B hz hA (c_X2_isNet l D cI cN x y ) gX2_netCall_X2_isNet rfl hd_X2_isNet (by decide) rfl hl.1 rfl (Nat.le_of_ble_eq_true rfl) dX2_netCall_2 (fun H locs hz => ?_)
  refine lb_if_ne (tgt := 15) hx hb dX2_netCall_5 (by decide) (fun c5 => ?_) (fun c5 => ?_)
  · obtain ⟨f, tm, hf, htm1, htm2, hfm, rfl, rfl⟩ := fNet_nat c5
    refine lv_aload_n hx hb dX2_netCall_15 rfl (lv_at hl 0 rfl) ?_
    refine lv_iload_n hx hb dX2_netCall_16 rfl (lv_at hl 1 rfl) ?_
    refine cV (C := RX2) (T := TX2) (N := 7) (ci := 2) (q0 := 0) (k := 4) (As := [.int (nI f)]) (rest := []) (v := .int (b2i (fLk s f))) (ws1 := (mW cI a s pst np er od rk hs)) B hz hA (c_X2_isLinked l D cI cN a s pst np er od rk hs f (hf)) gX2_netCall_X2_isLinked rfl rfl hd_X2_isLinked (by decide) rfl rfl rfl hl.1 rfl (Nat.le_of_ble_eq_true rfl) dX2_netCall_17 (fun H locs hz => ?_)
    refine lb_if_eq (tgt := 30) hx hb dX2_netCall_20 (by decide) (fun c20 => ?_) (fun c20 => ?_)
    · have hs1 := (hI f hf).1
      have hs2 := (hI f hf).2.1
      have hfo := frn_ok (rk := (fun ch => fNs (nI 31) (nI tm) f ch s 5)) hs2 (by omega)
      have hch := hfo.2.1
      refine lv_aload_n hx hb dX2_netCall_30 rfl (lv_at hl 0 rfl) ?_
      refine cVv (C := RX2) (T := TX2) (N := 7) (ci := 2) (q0 := 0) (k := 4) (As := []) (rest := []) (ws1 := (mW cI a s (fNp pst s np) (fNn0 np + 1) er od rk hs)) B hz hA (c_X2_note l D cI cN a s pst np er od rk hs  (hnp)) gX2_netCall_X2_note rfl rfl hd_X2_note (by decide) rfl rfl rfl hl.1 rfl (Nat.le_of_ble_eq_true rfl) dX2_netCall_31 (fun H locs hz => ?_)
      refine lv_aload_n hx hb dX2_netCall_34 rfl (lv_at hl 0 rfl) ?_
      refine lv_iload_n hx hb dX2_netCall_35 rfl (lv_at hl 1 rfl) ?_
      refine lv_iload_n hx hb dX2_netCall_36 rfl (lv_at hl 2 rfl) ?_
      refine cV (C := RX2) (T := TX2) (N := 7) (ci := 2) (q0 := 0) (k := 4) (As := [.int (nI f), .int (nI tm)]) (rest := []) (v := .int (oI (fFr (fun ch => fNs (nI 31) (nI tm) f ch s 5) (s (9 + f)) 8))) (ws1 := (mW cI a s (fNp pst s np) (fNn0 np + 1) er od rk hs)) B hz hA (c_X2_netChannelOf l D cI cN a s (fNp pst s np) (fNn0 np + 1) er od rk hs f (nI tm) (hf) (hv)) gX2_netCall_X2_netChannelOf rfl rfl hd_X2_netChannelOf (by decide) rfl rfl rfl hl.1 rfl (Nat.le_of_ble_eq_true rfl) dX2_netCall_37 (fun H locs hz => ?_)
      refine cvt (y := nI (frn (fun ch => fNs (nI 31) (nI tm) f ch s 5) (scn s f))) (by rw [(hI f hf).2.2, hfo.1]; rfl) ?_
      refine lv_istore_n (lv' := [(3, .int (nI (frn (fun ch => fNs (nI 31) (nI tm) f ch s 5) (scn s f)))), (0, .ref (a 0)), (1, .int (nI f)), (2, .int (nI tm))]) hx hb dX2_netCall_40 rfl hl (by decide) rfl (fun ls hl => ?_)
      refine lv_aload_n hx hb dX2_netCall_41 rfl (lv_at hl 1 rfl) ?_
      refine gz (C := RX2) (T := TX2) (N := 7) (v := .ref (a 1)) B hz hinX2 0 rfl rfl 0 (by decide) lk7 rfl rfl dX2_netCall_42 ?_
      refine lv_iconst (v := (nI 5)) hx hb dX2_netCall_45 (by decide) ?_
      refine lv_iconst (v := (nI 1)) hx hb dX2_netCall_46 (by decide) ?_
      refine istz (n := 624) (j := 5) (ws1 := (mW cI a (upd s 5 (nI 1)) (fNp pst s np) (fNn0 np + 1) er od rk hs)) B hz 1 rfl (by omega) (by decide) rfl dX2_netCall_47 (fun H locs hz => ?_)
      refine lv_aload_n hx hb dX2_netCall_48 rfl (lv_at hl 1 rfl) ?_
      refine gz (C := RX2) (T := TX2) (N := 7) (v := .ref (a 1)) B hz hinX2 0 rfl rfl 0 (by decide) lk7 rfl rfl dX2_netCall_49 ?_
      refine lv_bipush (v := (nI 6)) hx hb dX2_netCall_52 (by decide) ?_
      refine lv_iload_n hx hb dX2_netCall_54 rfl (lv_at hl 0 rfl) ?_
      refine istz (n := 624) (j := 6) (ws1 := (mW cI a (upd (upd s 5 (nI 1)) 6 (nI (frn (fun ch => fNs (nI 31) (nI tm) f ch s 5) (scn s f)))) (fNp pst s np) (fNn0 np + 1) er od rk hs)) B hz 1 rfl (by omega) (by decide) rfl dX2_netCall_55 (fun H locs hz => ?_)
      refine lv_aload_n hx hb dX2_netCall_56 rfl (lv_at hl 1 rfl) ?_
      refine gz (C := RX2) (T := TX2) (N := 7) (v := .ref (a 1)) B hz hinX2 0 rfl rfl 0 (by decide) lk7 rfl rfl dX2_netCall_57 ?_
      refine lv_iconst (v := (nI 0)) hx hb dX2_netCall_60 (by decide) ?_
      refine lv_dup2_11 hx hb dX2_netCall_61 rfl rfl ?_
      refine ildz (n := 624) (j := 0) (v := ((upd (upd s 5 (nI 1)) 6 (nI (frn (fun ch => fNs (nI 31) (nI tm) f ch s 5) (scn s f)))) 0)) B hz 1 rfl (by omega) (by decide) rfl dX2_netCall_62 ?_
      refine cvt (y := (s 0)) ((pk_un (by omega)).trans (pk_un (by omega))) ?_
      refine lv_aload_n hx hb dX2_netCall_63 rfl (lv_at hl 1 rfl) ?_
      refine lv_iload_n hx hb dX2_netCall_64 rfl (lv_at hl 3 rfl) ?_
      refine cV (C := RX2) (T := TX2) (N := 7) (ci := 2) (q0 := 0) (k := 4) (As := [.int (nI tm)]) (rest := [.int (s 0), .int (nI 0), .ref (a 1)]) (v := .int (nI (fMo (nI tm) (upd (upd s 5 (nI 1)) 6 (nI (frn (fun ch => fNs (nI 31) (nI tm) f ch s 5) (scn s f)))) 5))) (ws1 := (mW cI a (upd (upd s 5 (nI 1)) 6 (nI (frn (fun ch => fNs (nI 31) (nI tm) f ch s 5) (scn s f)))) (fNp pst s np) (fNn0 np + 1) er od rk hs)) B hz hA (c_X2_mostOf l D cI cN a (upd (upd s 5 (nI 1)) 6 (nI (frn (fun ch => fNs (nI 31) (nI tm) f ch s 5) (scn s f)))) (fNp pst s np) (fNn0 np + 1) er od rk hs (nI tm) (IvS_upd (IvS_upd hI (by omega)) (by omega))) gX2_netCall_X2_mostOf rfl rfl hd_X2_mostOf (by decide) rfl rfl rfl hl.1 rfl (Nat.le_of_ble_eq_true rfl) dX2_netCall_65 (fun H locs hz => ?_)
      refine lv_iadd hx hb dX2_netCall_68 ?_
      refine istz (n := 624) (j := 0) (ws1 := (mW cI a (upd (upd (upd s 5 (nI 1)) 6 (nI (frn (fun ch => fNs (nI 31) (nI tm) f ch s 5) (scn s f)))) 0 ((s 0) + (nI (fMo (nI tm) (upd (upd s 5 (nI 1)) 6 (nI (frn (fun ch => fNs (nI 31) (nI tm) f ch s 5) (scn s f)))) 5)))) (fNp pst s np) (fNn0 np + 1) er od rk hs)) B hz 1 rfl (by omega) (by decide) rfl dX2_netCall_69 (fun H locs hz => ?_)
      refine lv_iconst (v := (nI 0)) hx hb dX2_netCall_70 (by decide) ?_
      refine lv_istore (lv' := [(4, .int (nI 0)), (3, .int (nI (frn (fun ch => fNs (nI 31) (nI tm) f ch s 5) (scn s f)))), (0, .ref (a 0)), (1, .int (nI f)), (2, .int (nI tm))]) hx hb dX2_netCall_71 hl (by decide) rfl (fun ls hl => ?_)
      refine lv_iconst (v := (nI 0)) hx hb dX2_netCall_73 (by decide) ?_
      refine lv_istore (lv' := [(5, .int (nI 0)), (4, .int (nI 0)), (3, .int (nI (frn (fun ch => fNs (nI 31) (nI tm) f ch s 5) (scn s f)))), (0, .ref (a 0)), (1, .int (nI f)), (2, .int (nI tm))]) hx hb dX2_netCall_74 hl (by decide) rfl (fun ls hl => ?_)
      have LP76 : ∀ (n_LP76 : Nat) (i : Nat), (i ≤ 5) → 5 - i < n_LP76 → ∀ (H : Heap) (locs : List Loc) (ls : Array Slot), Hz D A s_.heap H locs (mW cI a ((fN1 f (frn (fun ch => fNs (nI 31) (nI tm) f ch s 5) (scn s f)) (nI tm) (fNa (frn (fun ch => fNs (nI 31) (nI tm) f ch s 5) (scn s f)) (nI tm) s) i).2) (fNp pst s np) (fNn0 np + 1) er od rk hs) → lv_has ls 7 [(0, .ref (a 0)), (1, .int (nI f)), (2, .int (nI tm)), (3, .int (nI (frn (fun ch => fNs (nI 31) (nI tm) f ch s 5) (scn s f)))), (4, .int ((fN1 f (frn (fun ch => fNs (nI 31) (nI tm) f ch s 5) (scn s f)) (nI tm) (fNa (frn (fun ch => fNs (nI 31) (nI tm) f ch s 5) (scn s f)) (nI tm) s) i).1)), (5, .int (nI i))] → Wz p l e 4 s_ m args below meth c D A (some (.int ((pNet (fun f => frn (fun ch => fNs (nI 31) (nI tm) f ch s 5) (scn s f)) (nI f) (nI tm) s).1))) (mAft cI a s pst np er od rk hs od rk (pNet (fun f => frn (fun ch => fNs (nI 31) (nI tm) f ch s 5) (scn s f)) (nI f) (nI tm) s)) H locs (F0 m 76 ls []) := by
        intro n_LP76
        induction n_LP76 with
        | zero => intro i hi hm; exact absurd hm (Nat.not_lt_zero _)
        | succ n_LP76 ih_LP76 =>
          intro i hi hm H locs ls hz hl
          refine lv_iload hx hb dX2_netCall_76 (lv_at hl 5 rfl) ?_
          refine lv_iconst (v := (nI 5)) hx hb dX2_netCall_78 (by decide) ?_
          refine ln_icmp_ge (tgt := 117) hx hb dX2_netCall_79 (by decide) (by constructor <;> omega) (fun c79 => ?_) (fun c79 => ?_)
          · obtain rfl : i = 5 := by omega
            refine lv_aload_n hx hb dX2_netCall_117 rfl (lv_at hl 0 rfl) ?_
            refine gz (C := RX2) (T := TX2) (N := 7) (v := .ref (a 1)) B hz hinX2 0 rfl rfl 0 (by decide) lk7 rfl rfl dX2_netCall_118 ?_
            refine lv_iconst (v := (nI 0)) hx hb dX2_netCall_121 (by decide) ?_
            refine lv_dup2_11 hx hb dX2_netCall_122 rfl rfl ?_
            refine ildz (n := 624) (j := 0) (v := (((fN1 f (frn (fun ch => fNs (nI 31) (nI tm) f ch s 5) (scn s f)) (nI tm) (fNa (frn (fun ch => fNs (nI 31) (nI tm) f ch s 5) (scn s f)) (nI tm) s) 5).2) 0)) B hz 1 rfl (by omega) (by decide) rfl dX2_netCall_123 ?_
            refine lv_iconst (v := (nI 1)) hx hb dX2_netCall_124 (by decide) ?_
            refine lv_iadd hx hb dX2_netCall_125 ?_
            refine istz (n := 624) (j := 0) (ws1 := (mW cI a (upd ((fN1 f (frn (fun ch => fNs (nI 31) (nI tm) f ch s 5) (scn s f)) (nI tm) (fNa (frn (fun ch => fNs (nI 31) (nI tm) f ch s 5) (scn s f)) (nI tm) s) 5).2) 0 ((((fN1 f (frn (fun ch => fNs (nI 31) (nI tm) f ch s 5) (scn s f)) (nI tm) (fNa (frn (fun ch => fNs (nI 31) (nI tm) f ch s 5) (scn s f)) (nI tm) s) 5).2) 0) + (nI 1))) (fNp pst s np) (fNn0 np + 1) er od rk hs)) B hz 1 rfl (by omega) (by decide) rfl dX2_netCall_126 (fun H locs hz => ?_)
            refine lv_iconst (v := (nI 0)) hx hb dX2_netCall_127 (by decide) ?_
            refine lv_istore (lv' := [(5, .int (nI 0)), (0, .ref (a 0)), (1, .int (nI f)), (2, .int (nI tm)), (3, .int (nI (frn (fun ch => fNs (nI 31) (nI tm) f ch s 5) (scn s f)))), (4, .int ((fN1 f (frn (fun ch => fNs (nI 31) (nI tm) f ch s 5) (scn s f)) (nI tm) (fNa (frn (fun ch => fNs (nI 31) (nI tm) f ch s 5) (scn s f)) (nI tm) s) 5).1))]) hx hb dX2_netCall_128 hl (by decide) rfl (fun ls hl => ?_)
            refine lv_iconst (v := (nI 0)) hx hb dX2_netCall_130 (by decide) ?_
            refine lv_istore (lv' := [(6, .int (nI 0)), (5, .int (nI 0)), (0, .ref (a 0)), (1, .int (nI f)), (2, .int (nI tm)), (3, .int (nI (frn (fun ch => fNs (nI 31) (nI tm) f ch s 5) (scn s f)))), (4, .int ((fN1 f (frn (fun ch => fNs (nI 31) (nI tm) f ch s 5) (scn s f)) (nI tm) (fNa (frn (fun ch => fNs (nI 31) (nI tm) f ch s 5) (scn s f)) (nI tm) s) 5).1))]) hx hb dX2_netCall_131 hl (by decide) rfl (fun ls hl => ?_)
            have LP133 : ∀ (n_LP133 : Nat) (j : Nat), (j ≤ 5) → 5 - j < n_LP133 → ∀ (H : Heap) (locs : List Loc) (ls : Array Slot), Hz D A s_.heap H locs (mW cI a ((fN2 f (frn (fun ch => fNs (nI 31) (nI tm) f ch s 5) (scn s f)) (fN1 f (frn (fun ch => fNs (nI 31) (nI tm) f ch s 5) (scn s f)) (nI tm) (fNa (frn (fun ch => fNs (nI 31) (nI tm) f ch s 5) (scn s f)) (nI tm) s) 5).1 (fNb f (frn (fun ch => fNs (nI 31) (nI tm) f ch s 5) (scn s f)) (nI tm) s) j).2) (fNp pst s np) (fNn0 np + 1) er od rk hs) → lv_has ls 7 [(0, .ref (a 0)), (1, .int (nI f)), (2, .int (nI tm)), (3, .int (nI (frn (fun ch => fNs (nI 31) (nI tm) f ch s 5) (scn s f)))), (4, .int ((fN1 f (frn (fun ch => fNs (nI 31) (nI tm) f ch s 5) (scn s f)) (nI tm) (fNa (frn (fun ch => fNs (nI 31) (nI tm) f ch s 5) (scn s f)) (nI tm) s) 5).1)), (5, .int ((fN2 f (frn (fun ch => fNs (nI 31) (nI tm) f ch s 5) (scn s f)) (fN1 f (frn (fun ch => fNs (nI 31) (nI tm) f ch s 5) (scn s f)) (nI tm) (fNa (frn (fun ch => fNs (nI 31) (nI tm) f ch s 5) (scn s f)) (nI tm) s) 5).1 (fNb f (frn (fun ch => fNs (nI 31) (nI tm) f ch s 5) (scn s f)) (nI tm) s) j).1)), (6, .int (nI j))] → Wz p l e 4 s_ m args below meth c D A (some (.int ((pNet (fun f => frn (fun ch => fNs (nI 31) (nI tm) f ch s 5) (scn s f)) (nI f) (nI tm) s).1))) (mAft cI a s pst np er od rk hs od rk (pNet (fun f => frn (fun ch => fNs (nI 31) (nI tm) f ch s 5) (scn s f)) (nI f) (nI tm) s)) H locs (F0 m 133 ls []) := by
              intro n_LP133
              induction n_LP133 with
              | zero => intro j hj hm; exact absurd hm (Nat.not_lt_zero _)
              | succ n_LP133 ih_LP133 =>
                intro j hj hm H locs ls hz hl
                refine lv_iload hx hb dX2_netCall_133 (lv_at hl 6 rfl) ?_
                refine lv_iconst (v := (nI 5)) hx hb dX2_netCall_135 (by decide) ?_
                refine ln_icmp_ge (tgt := 179) hx hb dX2_netCall_136 (by decide) (by constructor <;> omega) (fun c136 => ?_) (fun c136 => ?_)
                · obtain rfl : j = 5 := by omega
                  refine lv_iload hx hb dX2_netCall_179 (lv_at hl 5 rfl) ?_
                  refine lv_if_eq (tgt := 195) hx hb dX2_netCall_181 (by decide) (fun c181 => ?_) (fun c181 => ?_)
                  · refine lv_iload hx hb dX2_netCall_195 (lv_at hl 5 rfl) ?_
                    exact rz_i B hr hz dX2_netCall_197 (by simp [pNet, c5, c20, tn5 hf]; rfl) (by first | (refine mAft_n ?_; simp [pNet, c5]; done) | (refine mAft_n ?_; simp [pNet, c5, c20, tn5 hf]; done) | (refine (congrArg (fun z => mW cI a z (fNp pst s np) (fNn0 np + 1) er od rk hs) (fNt_0 c181).symm).trans (mAft_s (r := (fNt f (frn (fun ch => fNs (nI 31) (nI tm) f ch s 5) (scn s f)) (nI tm) s).1) ?_); simp [pNet, c5, c20, tn5 hf]; first | done | rfl) | (refine (congrArg (fun z => mW cI a z (fNp pst s np) (fNn0 np + 1) er od rk hs) (fNt_1 c181).symm).trans (mAft_s (r := (fNt f (frn (fun ch => fNs (nI 31) (nI tm) f ch s 5) (scn s f)) (nI tm) s).1) ?_); simp [pNet, c5, c20, tn5 hf]; first | done | rfl))
                  · refine lv_aload_n hx hb dX2_netCall_184 rfl (lv_at hl 0 rfl) ?_
                    refine lv_iload hx hb dX2_netCall_185 (lv_at hl 5 rfl) ?_
                    refine lv_iconst (v := (nI 1)) hx hb dX2_netCall_187 (by decide) ?_
                    refine lv_iload_n hx hb dX2_netCall_188 rfl (lv_at hl 1 rfl) ?_
                    refine lv_ishl hx hb dX2_netCall_189 ?_
                    refine lv_ior hx hb dX2_netCall_190 ?_
                    refine lv_iload_n hx hb dX2_netCall_191 rfl (lv_at hl 3 rfl) ?_
                    refine cVv (C := RX2) (T := TX2) (N := 7) (ci := 2) (q0 := 0) (k := 4) (As := [.int (((fN2 f (frn (fun ch => fNs (nI 31) (nI tm) f ch s 5) (scn s f)) (fN1 f (frn (fun ch => fNs (nI 31) (nI tm) f ch s 5) (scn s f)) (nI tm) (fNa (frn (fun ch => fNs (nI 31) (nI tm) f ch s 5) (scn s f)) (nI tm) s) 5).1 (fNb f (frn (fun ch => fNs (nI 31) (nI tm) f ch s 5) (scn s f)) (nI tm) s) 5).1) ||| ((nI 1) <<< ((nI f) &&& 31))), .int (nI (frn (fun ch => fNs (nI 31) (nI tm) f ch s 5) (scn s f)))]) (rest := []) (ws1 := (mW cI a (fJn (((fN2 f (frn (fun ch => fNs (nI 31) (nI tm) f ch s 5) (scn s f)) (fN1 f (frn (fun ch => fNs (nI 31) (nI tm) f ch s 5) (scn s f)) (nI tm) (fNa (frn (fun ch => fNs (nI 31) (nI tm) f ch s 5) (scn s f)) (nI tm) s) 5).1 (fNb f (frn (fun ch => fNs (nI 31) (nI tm) f ch s 5) (scn s f)) (nI tm) s) 5).1) ||| ((nI 1) <<< ((nI f) &&& 31))) (nI (frn (fun ch => fNs (nI 31) (nI tm) f ch s 5) (scn s f))) ((fN2 f (frn (fun ch => fNs (nI 31) (nI tm) f ch s 5) (scn s f)) (fN1 f (frn (fun ch => fNs (nI 31) (nI tm) f ch s 5) (scn s f)) (nI tm) (fNa (frn (fun ch => fNs (nI 31) (nI tm) f ch s 5) (scn s f)) (nI tm) s) 5).1 (fNb f (frn (fun ch => fNs (nI 31) (nI tm) f ch s 5) (scn s f)) (nI tm) s) 5).2) 5) (fNp pst s np) (fNn0 np + 1) er od rk hs)) B hz hA (c_X2_join l D cI cN a ((fN2 f (frn (fun ch => fNs (nI 31) (nI tm) f ch s 5) (scn s f)) (fN1 f (frn (fun ch => fNs (nI 31) (nI tm) f ch s 5) (scn s f)) (nI tm) (fNa (frn (fun ch => fNs (nI 31) (nI tm) f ch s 5) (scn s f)) (nI tm) s) 5).1 (fNb f (frn (fun ch => fNs (nI 31) (nI tm) f ch s 5) (scn s f)) (nI tm) s) 5).2) (fNp pst s np) (fNn0 np + 1) er od rk hs (((fN2 f (frn (fun ch => fNs (nI 31) (nI tm) f ch s 5) (scn s f)) (fN1 f (frn (fun ch => fNs (nI 31) (nI tm) f ch s 5) (scn s f)) (nI tm) (fNa (frn (fun ch => fNs (nI 31) (nI tm) f ch s 5) (scn s f)) (nI tm) s) 5).1 (fNb f (frn (fun ch => fNs (nI 31) (nI tm) f ch s 5) (scn s f)) (nI tm) s) 5).1) ||| ((nI 1) <<< ((nI f) &&& 31))) (nI (frn (fun ch => fNs (nI 31) (nI tm) f ch s 5) (scn s f))) ) gX2_netCall_X2_join rfl rfl hd_X2_join (by decide) rfl rfl rfl hl.1 rfl (Nat.le_of_ble_eq_true rfl) dX2_netCall_192 (fun H locs hz => ?_)
                    refine lv_iload hx hb dX2_netCall_195 (lv_at hl 5 rfl) ?_
                    exact rz_i B hr hz dX2_netCall_197 (by simp [pNet, c5, c20, tn5 hf]; rfl) (by first | (refine mAft_n ?_; simp [pNet, c5]; done) | (refine mAft_n ?_; simp [pNet, c5, c20, tn5 hf]; done) | (refine (congrArg (fun z => mW cI a z (fNp pst s np) (fNn0 np + 1) er od rk hs) (fNt_0 c181).symm).trans (mAft_s (r := (fNt f (frn (fun ch => fNs (nI 31) (nI tm) f ch s 5) (scn s f)) (nI tm) s).1) ?_); simp [pNet, c5, c20, tn5 hf]; first | done | rfl) | (refine (congrArg (fun z => mW cI a z (fNp pst s np) (fNn0 np + 1) er od rk hs) (fNt_1 c181).symm).trans (mAft_s (r := (fNt f (frn (fun ch => fNs (nI 31) (nI tm) f ch s 5) (scn s f)) (nI tm) s).1) ?_); simp [pNet, c5, c20, tn5 hf]; first | done | rfl))
                · refine lv_iload hx hb dX2_netCall_139 (lv_at hl 4 rfl) ?_
                  refine lv_iload hx hb dX2_netCall_141 (lv_at hl 6 rfl) ?_
                  refine cS (k := 4) (As := [.int ((fN1 f (frn (fun ch => fNs (nI 31) (nI tm) f ch s 5) (scn s f)) (nI tm) (fNa (frn (fun ch => fNs (nI 31) (nI tm) f ch s 5) (scn s f)) (nI tm) s) 5).1), .int (nI j)]) (rest := []) (v := .int (b2i (fHas ((fN1 f (frn (fun ch => fNs (nI 31) (nI tm) f ch s 5) (scn s f)) (nI tm) (fNa (frn (fun ch => fNs (nI 31) (nI tm) f ch s 5) (scn s f)) (nI tm) s) 5).1) (nI j)))) B hz hA (c_X2_has l D cI cN ((fN1 f (frn (fun ch => fNs (nI 31) (nI tm) f ch s 5) (scn s f)) (nI tm) (fNa (frn (fun ch => fNs (nI 31) (nI tm) f ch s 5) (scn s f)) (nI tm) s) 5).1) (nI j) ) gX2_netCall_X2_has rfl hd_X2_has (by decide) rfl hl.1 rfl (Nat.le_of_ble_eq_true rfl) dX2_netCall_143 (fun H locs hz => ?_)
                  refine lb_if_eq (tgt := 173) hx hb dX2_netCall_146 (by decide) (fun c146 => ?_) (fun c146 => ?_)
                  · refine lv_iinc (v := nI (j + 1)) (lv' := [(6, .int (nI (j + 1))), (0, .ref (a 0)), (1, .int (nI f)), (2, .int (nI tm)), (3, .int (nI (frn (fun ch => fNs (nI 31) (nI tm) f ch s 5) (scn s f)))), (4, .int ((fN1 f (frn (fun ch => fNs (nI 31) (nI tm) f ch s 5) (scn s f)) (nI tm) (fNa (frn (fun ch => fNs (nI 31) (nI tm) f ch s 5) (scn s f)) (nI tm) s) 5).1)), (5, .int ((fN2 f (frn (fun ch => fNs (nI 31) (nI tm) f ch s 5) (scn s f)) (fN1 f (frn (fun ch => fNs (nI 31) (nI tm) f ch s 5) (scn s f)) (nI tm) (fNa (frn (fun ch => fNs (nI 31) (nI tm) f ch s 5) (scn s f)) (nI tm) s) 5).1 (fNb f (frn (fun ch => fNs (nI 31) (nI tm) f ch s 5) (scn s f)) (nI tm) s) j).1))]) hx hb dX2_netCall_173 hl (k := 6) rfl (nI_add j 1) (by decide) rfl (fun ls hl => ?_)
                    refine lv_goto (tgt := 133) hx hb dX2_netCall_176 (by decide) ?_
                    exact ih_LP133 (j + 1) (by omega) (by omega) H locs ls (hz.cast (by first | (simp [fN2, c146]; done) | (simp [fN2, c146, c161]; done))) (lv_cast (lv_sub hl [1, 2, 3, 4, 5, 6, 0] (l' := [(0, .ref (a 0)), (1, .int (nI f)), (2, .int (nI tm)), (3, .int (nI (frn (fun ch => fNs (nI 31) (nI tm) f ch s 5) (scn s f)))), (4, .int ((fN1 f (frn (fun ch => fNs (nI 31) (nI tm) f ch s 5) (scn s f)) (nI tm) (fNa (frn (fun ch => fNs (nI 31) (nI tm) f ch s 5) (scn s f)) (nI tm) s) 5).1)), (5, .int ((fN2 f (frn (fun ch => fNs (nI 31) (nI tm) f ch s 5) (scn s f)) (fN1 f (frn (fun ch => fNs (nI 31) (nI tm) f ch s 5) (scn s f)) (nI tm) (fNa (frn (fun ch => fNs (nI 31) (nI tm) f ch s 5) (scn s f)) (nI tm) s) 5).1 (fNb f (frn (fun ch => fNs (nI 31) (nI tm) f ch s 5) (scn s f)) (nI tm) s) j).1)), (6, .int (nI (j + 1)))]) rfl) (by first | (simp [fN2, c146]; done) | (simp [fN2, c146, c161]; done)))
                  · refine lv_aload_n hx hb dX2_netCall_149 rfl (lv_at hl 0 rfl) ?_
                    refine lv_iconst (v := (nI 4)) hx hb dX2_netCall_150 (by decide) ?_
                    refine lv_iload_n hx hb dX2_netCall_151 rfl (lv_at hl 1 rfl) ?_
                    refine lv_iload hx hb dX2_netCall_152 (lv_at hl 6 rfl) ?_
                    refine lv_sipush (v := (nI 255)) hx hb dX2_netCall_154 (by decide) ?_
                    refine lv_iload_n hx hb dX2_netCall_157 rfl (lv_at hl 3 rfl) ?_
                    refine cV (C := RX2) (T := TX2) (N := 7) (ci := 2) (q0 := 0) (k := 4) (As := [.int (nI 4), .int (nI f), .int (nI j), .int (nI 255), .int (nI (frn (fun ch => fNs (nI 31) (nI tm) f ch s 5) (scn s f)))]) (rest := []) (v := .int (b2i ((fTr 4 f j 255 (frn (fun ch => fNs (nI 31) (nI tm) f ch s 5) (scn s f)) ((fN2 f (frn (fun ch => fNs (nI 31) (nI tm) f ch s 5) (scn s f)) (fN1 f (frn (fun ch => fNs (nI 31) (nI tm) f ch s 5) (scn s f)) (nI tm) (fNa (frn (fun ch => fNs (nI 31) (nI tm) f ch s 5) (scn s f)) (nI tm) s) 5).1 (fNb f (frn (fun ch => fNs (nI 31) (nI tm) f ch s 5) (scn s f)) (nI tm) s) j).2)).1))) (ws1 := (mW cI a ((fTr 4 f j 255 (frn (fun ch => fNs (nI 31) (nI tm) f ch s 5) (scn s f)) ((fN2 f (frn (fun ch => fNs (nI 31) (nI tm) f ch s 5) (scn s f)) (fN1 f (frn (fun ch => fNs (nI 31) (nI tm) f ch s 5) (scn s f)) (nI tm) (fNa (frn (fun ch => fNs (nI 31) (nI tm) f ch s 5) (scn s f)) (nI tm) s) 5).1 (fNb f (frn (fun ch => fNs (nI 31) (nI tm) f ch s 5) (scn s f)) (nI tm) s) j).2)).2) (fNp pst s np) (fNn0 np + 1) er od rk hs)) B hz hA (c_X2_transmit l D cI cN a ((fN2 f (frn (fun ch => fNs (nI 31) (nI tm) f ch s 5) (scn s f)) (fN1 f (frn (fun ch => fNs (nI 31) (nI tm) f ch s 5) (scn s f)) (nI tm) (fNa (frn (fun ch => fNs (nI 31) (nI tm) f ch s 5) (scn s f)) (nI tm) s) 5).1 (fNb f (frn (fun ch => fNs (nI 31) (nI tm) f ch s 5) (scn s f)) (nI tm) s) j).2) (fNp pst s np) (fNn0 np + 1) er od rk hs 4 f j 255 (frn (fun ch => fNs (nI 31) (nI tm) f ch s 5) (scn s f)) (hf) (by omega) (hch) (fN2_nn (nn_upd (fN1_nn (nn_upd (nn_upd (nn_upd hn (by decide)) (by decide)) (by decide)) 5) (by decide)) j)) gX2_netCall_X2_transmit rfl rfl hd_X2_transmit (by decide) rfl rfl rfl hl.1 rfl (Nat.le_of_ble_eq_true rfl) dX2_netCall_158 (fun H locs hz => ?_)
                    refine lb_if_eq (tgt := 173) hx hb dX2_netCall_161 (by decide) (fun c161 => ?_) (fun c161 => ?_)
                    · refine lv_iinc (v := nI (j + 1)) (lv' := [(6, .int (nI (j + 1))), (0, .ref (a 0)), (1, .int (nI f)), (2, .int (nI tm)), (3, .int (nI (frn (fun ch => fNs (nI 31) (nI tm) f ch s 5) (scn s f)))), (4, .int ((fN1 f (frn (fun ch => fNs (nI 31) (nI tm) f ch s 5) (scn s f)) (nI tm) (fNa (frn (fun ch => fNs (nI 31) (nI tm) f ch s 5) (scn s f)) (nI tm) s) 5).1)), (5, .int ((fN2 f (frn (fun ch => fNs (nI 31) (nI tm) f ch s 5) (scn s f)) (fN1 f (frn (fun ch => fNs (nI 31) (nI tm) f ch s 5) (scn s f)) (nI tm) (fNa (frn (fun ch => fNs (nI 31) (nI tm) f ch s 5) (scn s f)) (nI tm) s) 5).1 (fNb f (frn (fun ch => fNs (nI 31) (nI tm) f ch s 5) (scn s f)) (nI tm) s) j).1))]) hx hb dX2_netCall_173 hl (k := 6) rfl (nI_add j 1) (by decide) rfl (fun ls hl => ?_)
                      refine lv_goto (tgt := 133) hx hb dX2_netCall_176 (by decide) ?_
                      exact ih_LP133 (j + 1) (by omega) (by omega) H locs ls (hz.cast (by first | (simp [fN2, c146]; done) | (simp [fN2, c146, c161]; done))) (lv_cast (lv_sub hl [1, 2, 3, 4, 5, 6, 0] (l' := [(0, .ref (a 0)), (1, .int (nI f)), (2, .int (nI tm)), (3, .int (nI (frn (fun ch => fNs (nI 31) (nI tm) f ch s 5) (scn s f)))), (4, .int ((fN1 f (frn (fun ch => fNs (nI 31) (nI tm) f ch s 5) (scn s f)) (nI tm) (fNa (frn (fun ch => fNs (nI 31) (nI tm) f ch s 5) (scn s f)) (nI tm) s) 5).1)), (5, .int ((fN2 f (frn (fun ch => fNs (nI 31) (nI tm) f ch s 5) (scn s f)) (fN1 f (frn (fun ch => fNs (nI 31) (nI tm) f ch s 5) (scn s f)) (nI tm) (fNa (frn (fun ch => fNs (nI 31) (nI tm) f ch s 5) (scn s f)) (nI tm) s) 5).1 (fNb f (frn (fun ch => fNs (nI 31) (nI tm) f ch s 5) (scn s f)) (nI tm) s) j).1)), (6, .int (nI (j + 1)))]) rfl) (by first | (simp [fN2, c146]; done) | (simp [fN2, c146, c161]; done)))
                    · refine lv_iload hx hb dX2_netCall_164 (lv_at hl 5 rfl) ?_
                      refine lv_iconst (v := (nI 1)) hx hb dX2_netCall_166 (by decide) ?_
                      refine lv_iload hx hb dX2_netCall_167 (lv_at hl 6 rfl) ?_
                      refine lv_ishl hx hb dX2_netCall_169 ?_
                      refine lv_ior hx hb dX2_netCall_170 ?_
                      refine lv_istore (lv' := [(5, .int (((fN2 f (frn (fun ch => fNs (nI 31) (nI tm) f ch s 5) (scn s f)) (fN1 f (frn (fun ch => fNs (nI 31) (nI tm) f ch s 5) (scn s f)) (nI tm) (fNa (frn (fun ch => fNs (nI 31) (nI tm) f ch s 5) (scn s f)) (nI tm) s) 5).1 (fNb f (frn (fun ch => fNs (nI 31) (nI tm) f ch s 5) (scn s f)) (nI tm) s) j).1) ||| ((nI 1) <<< ((nI j) &&& 31)))), (0, .ref (a 0)), (1, .int (nI f)), (2, .int (nI tm)), (3, .int (nI (frn (fun ch => fNs (nI 31) (nI tm) f ch s 5) (scn s f)))), (4, .int ((fN1 f (frn (fun ch => fNs (nI 31) (nI tm) f ch s 5) (scn s f)) (nI tm) (fNa (frn (fun ch => fNs (nI 31) (nI tm) f ch s 5) (scn s f)) (nI tm) s) 5).1)), (6, .int (nI j))]) hx hb dX2_netCall_171 hl (by decide) rfl (fun ls hl => ?_)
                      refine lv_iinc (v := nI (j + 1)) (lv' := [(6, .int (nI (j + 1))), (5, .int (((fN2 f (frn (fun ch => fNs (nI 31) (nI tm) f ch s 5) (scn s f)) (fN1 f (frn (fun ch => fNs (nI 31) (nI tm) f ch s 5) (scn s f)) (nI tm) (fNa (frn (fun ch => fNs (nI 31) (nI tm) f ch s 5) (scn s f)) (nI tm) s) 5).1 (fNb f (frn (fun ch => fNs (nI 31) (nI tm) f ch s 5) (scn s f)) (nI tm) s) j).1) ||| ((nI 1) <<< ((nI j) &&& 31)))), (0, .ref (a 0)), (1, .int (nI f)), (2, .int (nI tm)), (3, .int (nI (frn (fun ch => fNs (nI 31) (nI tm) f ch s 5) (scn s f)))), (4, .int ((fN1 f (frn (fun ch => fNs (nI 31) (nI tm) f ch s 5) (scn s f)) (nI tm) (fNa (frn (fun ch => fNs (nI 31) (nI tm) f ch s 5) (scn s f)) (nI tm) s) 5).1))]) hx hb dX2_netCall_173 hl (k := 6) rfl (nI_add j 1) (by decide) rfl (fun ls hl => ?_)
                      refine lv_goto (tgt := 133) hx hb dX2_netCall_176 (by decide) ?_
                      exact ih_LP133 (j + 1) (by omega) (by omega) H locs ls (hz.cast (by first | (simp [fN2, c146]; done) | (simp [fN2, c146, c161]; done))) (lv_cast (lv_sub hl [2, 3, 4, 5, 6, 1, 0] (l' := [(0, .ref (a 0)), (1, .int (nI f)), (2, .int (nI tm)), (3, .int (nI (frn (fun ch => fNs (nI 31) (nI tm) f ch s 5) (scn s f)))), (4, .int ((fN1 f (frn (fun ch => fNs (nI 31) (nI tm) f ch s 5) (scn s f)) (nI tm) (fNa (frn (fun ch => fNs (nI 31) (nI tm) f ch s 5) (scn s f)) (nI tm) s) 5).1)), (5, .int (((fN2 f (frn (fun ch => fNs (nI 31) (nI tm) f ch s 5) (scn s f)) (fN1 f (frn (fun ch => fNs (nI 31) (nI tm) f ch s 5) (scn s f)) (nI tm) (fNa (frn (fun ch => fNs (nI 31) (nI tm) f ch s 5) (scn s f)) (nI tm) s) 5).1 (fNb f (frn (fun ch => fNs (nI 31) (nI tm) f ch s 5) (scn s f)) (nI tm) s) j).1) ||| ((nI 1) <<< ((nI j) &&& 31)))), (6, .int (nI (j + 1)))]) rfl) (by first | (simp [fN2, c146]; done) | (simp [fN2, c146, c161]; done)))
            exact LP133 _ 0 (by omega) (Nat.lt_succ_self _) H locs ls (hz.cast (by rfl)) (lv_cast (lv_sub hl [2, 3, 4, 5, 6, 1, 0] (l' := [(0, .ref (a 0)), (1, .int (nI f)), (2, .int (nI tm)), (3, .int (nI (frn (fun ch => fNs (nI 31) (nI tm) f ch s 5) (scn s f)))), (4, .int ((fN1 f (frn (fun ch => fNs (nI 31) (nI tm) f ch s 5) (scn s f)) (nI tm) (fNa (frn (fun ch => fNs (nI 31) (nI tm) f ch s 5) (scn s f)) (nI tm) s) 5).1)), (5, .int (nI 0)), (6, .int (nI 0))]) rfl) (by rfl))
          · refine lv_iload_n hx hb dX2_netCall_82 rfl (lv_at hl 2 rfl) ?_
            refine lv_iload hx hb dX2_netCall_83 (lv_at hl 5 rfl) ?_
            refine cS (k := 4) (As := [.int (nI tm), .int (nI i)]) (rest := []) (v := .int (b2i (fHas (nI tm) (nI i)))) B hz hA (c_X2_has l D cI cN (nI tm) (nI i) ) gX2_netCall_X2_has rfl hd_X2_has (by decide) rfl hl.1 rfl (Nat.le_of_ble_eq_true rfl) dX2_netCall_85 (fun H locs hz => ?_)
            refine lb_if_eq (tgt := 111) hx hb dX2_netCall_88 (by decide) (fun c88 => ?_) (fun c88 => ?_)
            · refine lv_iinc (v := nI (i + 1)) (lv' := [(5, .int (nI (i + 1))), (0, .ref (a 0)), (1, .int (nI f)), (2, .int (nI tm)), (3, .int (nI (frn (fun ch => fNs (nI 31) (nI tm) f ch s 5) (scn s f)))), (4, .int ((fN1 f (frn (fun ch => fNs (nI 31) (nI tm) f ch s 5) (scn s f)) (nI tm) (fNa (frn (fun ch => fNs (nI 31) (nI tm) f ch s 5) (scn s f)) (nI tm) s) i).1))]) hx hb dX2_netCall_111 hl (k := 5) rfl (nI_add i 1) (by decide) rfl (fun ls hl => ?_)
              refine lv_goto (tgt := 76) hx hb dX2_netCall_114 (by decide) ?_
              exact ih_LP76 (i + 1) (by omega) (by omega) H locs ls (hz.cast (by first | (simp [fN1, c88]; done) | (simp [fN1, c88, c99]; done))) (lv_cast (lv_sub hl [1, 2, 3, 4, 5, 0] (l' := [(0, .ref (a 0)), (1, .int (nI f)), (2, .int (nI tm)), (3, .int (nI (frn (fun ch => fNs (nI 31) (nI tm) f ch s 5) (scn s f)))), (4, .int ((fN1 f (frn (fun ch => fNs (nI 31) (nI tm) f ch s 5) (scn s f)) (nI tm) (fNa (frn (fun ch => fNs (nI 31) (nI tm) f ch s 5) (scn s f)) (nI tm) s) i).1)), (5, .int (nI (i + 1)))]) rfl) (by first | (simp [fN1, c88]; done) | (simp [fN1, c88, c99]; done)))
            · refine lv_aload_n hx hb dX2_netCall_91 rfl (lv_at hl 0 rfl) ?_
              refine lv_iload_n hx hb dX2_netCall_92 rfl (lv_at hl 1 rfl) ?_
              refine lv_iload hx hb dX2_netCall_93 (lv_at hl 5 rfl) ?_
              refine lv_iload_n hx hb dX2_netCall_95 rfl (lv_at hl 3 rfl) ?_
              refine cV (C := RX2) (T := TX2) (N := 7) (ci := 2) (q0 := 0) (k := 4) (As := [.int (nI f), .int (nI i), .int (nI (frn (fun ch => fNs (nI 31) (nI tm) f ch s 5) (scn s f)))]) (rest := []) (v := .int (b2i ((fAn f i (frn (fun ch => fNs (nI 31) (nI tm) f ch s 5) (scn s f)) ((fN1 f (frn (fun ch => fNs (nI 31) (nI tm) f ch s 5) (scn s f)) (nI tm) (fNa (frn (fun ch => fNs (nI 31) (nI tm) f ch s 5) (scn s f)) (nI tm) s) i).2)).1))) (ws1 := (mW cI a ((fAn f i (frn (fun ch => fNs (nI 31) (nI tm) f ch s 5) (scn s f)) ((fN1 f (frn (fun ch => fNs (nI 31) (nI tm) f ch s 5) (scn s f)) (nI tm) (fNa (frn (fun ch => fNs (nI 31) (nI tm) f ch s 5) (scn s f)) (nI tm) s) i).2)).2) (fNp pst s np) (fNn0 np + 1) er od rk hs)) B hz hA (c_X2_answers l D cI cN a ((fN1 f (frn (fun ch => fNs (nI 31) (nI tm) f ch s 5) (scn s f)) (nI tm) (fNa (frn (fun ch => fNs (nI 31) (nI tm) f ch s 5) (scn s f)) (nI tm) s) i).2) (fNp pst s np) (fNn0 np + 1) er od rk hs f i (frn (fun ch => fNs (nI 31) (nI tm) f ch s 5) (scn s f)) (hf) (by omega) (hch) (fN1_nn (nn_upd (nn_upd (nn_upd hn (by decide)) (by decide)) (by decide)) i)) gX2_netCall_X2_answers rfl rfl hd_X2_answers (by decide) rfl rfl rfl hl.1 rfl (Nat.le_of_ble_eq_true rfl) dX2_netCall_96 (fun H locs hz => ?_)
              refine lb_if_eq (tgt := 111) hx hb dX2_netCall_99 (by decide) (fun c99 => ?_) (fun c99 => ?_)
              · refine lv_iinc (v := nI (i + 1)) (lv' := [(5, .int (nI (i + 1))), (0, .ref (a 0)), (1, .int (nI f)), (2, .int (nI tm)), (3, .int (nI (frn (fun ch => fNs (nI 31) (nI tm) f ch s 5) (scn s f)))), (4, .int ((fN1 f (frn (fun ch => fNs (nI 31) (nI tm) f ch s 5) (scn s f)) (nI tm) (fNa (frn (fun ch => fNs (nI 31) (nI tm) f ch s 5) (scn s f)) (nI tm) s) i).1))]) hx hb dX2_netCall_111 hl (k := 5) rfl (nI_add i 1) (by decide) rfl (fun ls hl => ?_)
                refine lv_goto (tgt := 76) hx hb dX2_netCall_114 (by decide) ?_
                exact ih_LP76 (i + 1) (by omega) (by omega) H locs ls (hz.cast (by first | (simp [fN1, c88]; done) | (simp [fN1, c88, c99]; done))) (lv_cast (lv_sub hl [1, 2, 3, 4, 5, 0] (l' := [(0, .ref (a 0)), (1, .int (nI f)), (2, .int (nI tm)), (3, .int (nI (frn (fun ch => fNs (nI 31) (nI tm) f ch s 5) (scn s f)))), (4, .int ((fN1 f (frn (fun ch => fNs (nI 31) (nI tm) f ch s 5) (scn s f)) (nI tm) (fNa (frn (fun ch => fNs (nI 31) (nI tm) f ch s 5) (scn s f)) (nI tm) s) i).1)), (5, .int (nI (i + 1)))]) rfl) (by first | (simp [fN1, c88]; done) | (simp [fN1, c88, c99]; done)))
              · refine lv_iload hx hb dX2_netCall_102 (lv_at hl 4 rfl) ?_
                refine lv_iconst (v := (nI 1)) hx hb dX2_netCall_104 (by decide) ?_
                refine lv_iload hx hb dX2_netCall_105 (lv_at hl 5 rfl) ?_
                refine lv_ishl hx hb dX2_netCall_107 ?_
                refine lv_ior hx hb dX2_netCall_108 ?_
                refine lv_istore (lv' := [(4, .int (((fN1 f (frn (fun ch => fNs (nI 31) (nI tm) f ch s 5) (scn s f)) (nI tm) (fNa (frn (fun ch => fNs (nI 31) (nI tm) f ch s 5) (scn s f)) (nI tm) s) i).1) ||| ((nI 1) <<< ((nI i) &&& 31)))), (0, .ref (a 0)), (1, .int (nI f)), (2, .int (nI tm)), (3, .int (nI (frn (fun ch => fNs (nI 31) (nI tm) f ch s 5) (scn s f)))), (5, .int (nI i))]) hx hb dX2_netCall_109 hl (by decide) rfl (fun ls hl => ?_)
                refine lv_iinc (v := nI (i + 1)) (lv' := [(5, .int (nI (i + 1))), (4, .int (((fN1 f (frn (fun ch => fNs (nI 31) (nI tm) f ch s 5) (scn s f)) (nI tm) (fNa (frn (fun ch => fNs (nI 31) (nI tm) f ch s 5) (scn s f)) (nI tm) s) i).1) ||| ((nI 1) <<< ((nI i) &&& 31)))), (0, .ref (a 0)), (1, .int (nI f)), (2, .int (nI tm)), (3, .int (nI (frn (fun ch => fNs (nI 31) (nI tm) f ch s 5) (scn s f))))]) hx hb dX2_netCall_111 hl (k := 5) rfl (nI_add i 1) (by decide) rfl (fun ls hl => ?_)
                refine lv_goto (tgt := 76) hx hb dX2_netCall_114 (by decide) ?_
                exact ih_LP76 (i + 1) (by omega) (by omega) H locs ls (hz.cast (by first | (simp [fN1, c88]; done) | (simp [fN1, c88, c99]; done))) (lv_cast (lv_sub hl [2, 3, 4, 5, 1, 0] (l' := [(0, .ref (a 0)), (1, .int (nI f)), (2, .int (nI tm)), (3, .int (nI (frn (fun ch => fNs (nI 31) (nI tm) f ch s 5) (scn s f)))), (4, .int (((fN1 f (frn (fun ch => fNs (nI 31) (nI tm) f ch s 5) (scn s f)) (nI tm) (fNa (frn (fun ch => fNs (nI 31) (nI tm) f ch s 5) (scn s f)) (nI tm) s) i).1) ||| ((nI 1) <<< ((nI i) &&& 31)))), (5, .int (nI (i + 1)))]) rfl) (by first | (simp [fN1, c88]; done) | (simp [fN1, c88, c99]; done)))
      exact LP76 _ 0 (by omega) (Nat.lt_succ_self _) H locs ls (hz.cast (by rfl)) (lv_cast (lv_sub hl [3, 4, 5, 2, 1, 0] (l' := [(0, .ref (a 0)), (1, .int (nI f)), (2, .int (nI tm)), (3, .int (nI (frn (fun ch => fNs (nI 31) (nI tm) f ch s 5) (scn s f)))), (4, .int (nI 0)), (5, .int (nI 0))]) rfl) (by rfl))
    · refine lv_aload_n hx hb dX2_netCall_23 rfl (lv_at hl 0 rfl) ?_
      refine lv_bipush (v := (-3)) hx hb dX2_netCall_24 (by decide) ?_
      refine cV (C := RX2) (T := TX2) (N := 7) (ci := 2) (q0 := 0) (k := 4) (As := [.int (-3)]) (rest := []) (v := .int (-3)) (ws1 := (mW cI a s pst np (upd er (fIx (-3)) (er (fIx (-3)) + nI 1)) od rk hs)) B hz hA (c_X2_fail l D cI cN a s pst np er od rk hs (-3) (by first | exact Or.inl rfl | exact Or.inr rfl)) gX2_netCall_X2_fail rfl rfl hd_X2_fail (by decide) rfl rfl rfl hl.1 rfl (Nat.le_of_ble_eq_true rfl) dX2_netCall_26 (fun H locs hz => ?_)
      exact rz_i B hr hz dX2_netCall_29 (by simp [pNet, c5, c20, tn5 hf]) (by first | (refine mAft_n ?_; simp [pNet, c5]; done) | (refine mAft_n ?_; simp [pNet, c5, c20, tn5 hf]; done) | (refine (congrArg (fun z => mW cI a z (fNp pst s np) (fNn0 np + 1) er od rk hs) (fNt_0 c181).symm).trans (mAft_s (r := (fNt f (frn (fun ch => fNs (nI 31) (nI tm) f ch s 5) (scn s f)) (nI tm) s).1) ?_); simp [pNet, c5, c20, tn5 hf]; first | done | rfl) | (refine (congrArg (fun z => mW cI a z (fNp pst s np) (fNn0 np + 1) er od rk hs) (fNt_1 c181).symm).trans (mAft_s (r := (fNt f (frn (fun ch => fNs (nI 31) (nI tm) f ch s 5) (scn s f)) (nI tm) s).1) ?_); simp [pNet, c5, c20, tn5 hf]; first | done | rfl))
  · refine lv_aload_n hx hb dX2_netCall_8 rfl (lv_at hl 0 rfl) ?_
    refine lv_bipush (v := (-2)) hx hb dX2_netCall_9 (by decide) ?_
    refine cV (C := RX2) (T := TX2) (N := 7) (ci := 2) (q0 := 0) (k := 4) (As := [.int (-2)]) (rest := []) (v := .int (-2)) (ws1 := (mW cI a s pst np (upd er (fIx (-2)) (er (fIx (-2)) + nI 1)) od rk hs)) B hz hA (c_X2_fail l D cI cN a s pst np er od rk hs (-2) (by first | exact Or.inl rfl | exact Or.inr rfl)) gX2_netCall_X2_fail rfl rfl hd_X2_fail (by decide) rfl rfl rfl hl.1 rfl (Nat.le_of_ble_eq_true rfl) dX2_netCall_11 (fun H locs hz => ?_)
    exact rz_i B hr hz dX2_netCall_14 (by simp [pNet, c5]) (by first | (refine mAft_n ?_; simp [pNet, c5]; done) | (refine mAft_n ?_; simp [pNet, c5, c20, tn5 hf]; done) | (refine (congrArg (fun z => mW cI a z (fNp pst s np) (fNn0 np + 1) er od rk hs) (fNt_0 c181).symm).trans (mAft_s (r := (fNt f (frn (fun ch => fNs (nI 31) (nI tm) f ch s 5) (scn s f)) (nI tm) s).1) ?_); simp [pNet, c5, c20, tn5 hf]; first | done | rfl) | (refine (congrArg (fun z => mW cI a z (fNp pst s np) (fNn0 np + 1) er od rk hs) (fNt_1 c181).symm).trans (mAft_s (r := (fNt f (frn (fun ch => fNs (nI 31) (nI tm) f ch s 5) (scn s f)) (nI tm) s).1) ?_); simp [pNet, c5, c20, tn5 hf]; first | done | rfl))
theorem hd_X2_hangUp : hdZ yX2_hangUp 1 := by decide +kernel
set_option maxRecDepth 100000 in
set_option maxHeartbeats 4000000 in
theorem c_X2_hangUp (l : Launch) (D : va_G) (cI cN : ClassId) (a : Nat → Nat) (s : Sz) (pst : Sz) (np : Nat) (er : Sz) (od : Sz) (rk : Sz) (hs : Int64) (x : Int32) (hnp : np ≤ 4) (hL : IvL s) : Fn l D cI cN yX2_hangUp wsX2_hangUp 3 (mW cI a s pst np er od rk hs) [.ref (a 0), .int x] (some (.int ((pHang x s).1))) (mAft cI a s pst np er od rk hs od rk (pHang x s)) := by
  refine Fn.of (cc := cX2_hangUp) (nL := 5) (ret := (some .int)) (lv := [(0, .ref (a 0)), (1, .int x)]) (by decide +kernel) rfl (Nat.le_of_ble_eq_true rfl) rfl ?_
  intro p e s_ m args below meth c A B hr hA H locs ls hz hl
  have hx := B.1.1
  have hb := B.1.2.1
  have hinX2 : ∀ w ∈ u_ws RX2 TX2 7, w ∈ wsX2_hangUp := by decide +kernel
  have lk7 : Cond.fieldLink yX2_hangUp.cls 7 RX2 (TX2 0).2.1 (TX2 0).2.2.1 ∈ wsX2_hangUp := by decide +kernel
  refine lv_iload_n hx hb dX2_hangUp_0 rfl (lv_at hl 1 rfl) ?_
  refine cS (k := 3) (As := [.int x]) (rest := []) (v := .int (b2i (fSt x))) B hz hA (c_X2_isStation l D cI cN x ) gX2_hangUp_X2_isStation rfl hd_X2_isStation (by decide) rfl hl.1 rfl (Nat.le_of_ble_eq_true rfl) dX2_hangUp_1 (fun H locs hz => ?_)
  refine lb_if_ne (tgt := 14) hx hb dX2_hangUp_4 (by decide) (fun c4 => ?_) (fun c4 => ?_)
  · obtain ⟨f, hf, rfl⟩ := fSt_nat c4
    refine lv_aload_n hx hb dX2_hangUp_14 rfl (lv_at hl 0 rfl) ?_
    refine lv_iload_n hx hb dX2_hangUp_15 rfl (lv_at hl 1 rfl) ?_
    refine cV (C := RX2) (T := TX2) (N := 7) (ci := 2) (q0 := 0) (k := 3) (As := [.int (nI f)]) (rest := []) (v := .int (b2i (fLk s f))) (ws1 := (mW cI a s pst np er od rk hs)) B hz hA (c_X2_isLinked l D cI cN a s pst np er od rk hs f (hf)) gX2_hangUp_X2_isLinked rfl rfl hd_X2_isLinked (by decide) rfl rfl rfl hl.1 rfl (Nat.le_of_ble_eq_true rfl) dX2_hangUp_16 (fun H locs hz => ?_)
    refine lb_if_ne (tgt := 29) hx hb dX2_hangUp_19 (by decide) (fun c19 => ?_) (fun c19 => ?_)
    · have hl2 : lnk s f < 256 := by have := (hL f hf).1; omega
      have hcl := clr_ok _ hl2 f (by omega)
      refine lv_aload_n hx hb dX2_hangUp_29 rfl (lv_at hl 0 rfl) ?_
      refine cVv (C := RX2) (T := TX2) (N := 7) (ci := 2) (q0 := 0) (k := 3) (As := []) (rest := []) (ws1 := (mW cI a s (fNp pst s np) (fNn0 np + 1) er od rk hs)) B hz hA (c_X2_note l D cI cN a s pst np er od rk hs  (hnp)) gX2_hangUp_X2_note rfl rfl hd_X2_note (by decide) rfl rfl rfl hl.1 rfl (Nat.le_of_ble_eq_true rfl) dX2_hangUp_30 (fun H locs hz => ?_)
      refine lv_aload_n hx hb dX2_hangUp_33 rfl (lv_at hl 0 rfl) ?_
      refine gz (C := RX2) (T := TX2) (N := 7) (v := .ref (a 1)) B hz hinX2 0 rfl rfl 0 (by decide) lk7 rfl rfl dX2_hangUp_34 ?_
      refine lv_bipush (v := (nI 14)) hx hb dX2_hangUp_37 (by decide) ?_
      refine lv_iload_n hx hb dX2_hangUp_39 rfl (lv_at hl 1 rfl) ?_
      refine ln_add hx hb dX2_hangUp_40 ?_
      refine ildz (n := 624) (j := (14 + f)) (v := (s (14 + f))) B hz 1 rfl (by omega) (by decide) rfl dX2_hangUp_41 ?_
      refine cvt (y := nI (lnk s f)) ((show IvL s by assumption) f (by omega)).2 ?_
      refine lv_iconst (v := (nI 1)) hx hb dX2_hangUp_42 (by decide) ?_
      refine lv_iload_n hx hb dX2_hangUp_43 rfl (lv_at hl 1 rfl) ?_
      refine lv_ishl hx hb dX2_hangUp_44 ?_
      refine lv_iconst (v := (-1)) hx hb dX2_hangUp_45 (by decide) ?_
      refine lv_ixor hx hb dX2_hangUp_46 ?_
      refine lv_iand hx hb dX2_hangUp_47 ?_
      refine cvt (y := nI (clr (lnk s f) f)) (hcl.1) ?_
      refine lv_istore_n (lv' := [(2, .int (nI (clr (lnk s f) f))), (0, .ref (a 0)), (1, .int (nI f))]) hx hb dX2_hangUp_48 rfl hl (by decide) rfl (fun ls hl => ?_)
      refine lv_aload_n hx hb dX2_hangUp_49 rfl (lv_at hl 1 rfl) ?_
      refine lv_iload_n hx hb dX2_hangUp_50 rfl (lv_at hl 2 rfl) ?_
      refine cVv (C := RX2) (T := TX2) (N := 7) (ci := 2) (q0 := 0) (k := 3) (As := [.int (nI f)]) (rest := []) (ws1 := (mW cI a (fLv f s) (fNp pst s np) (fNn0 np + 1) er od rk hs)) B hz hA (c_X2_leave l D cI cN a s (fNp pst s np) (fNn0 np + 1) er od rk hs f (hf)) gX2_hangUp_X2_leave rfl rfl hd_X2_leave (by decide) rfl rfl rfl hl.1 rfl (Nat.le_of_ble_eq_true rfl) dX2_hangUp_51 (fun H locs hz => ?_)
      refine lv_iload_n hx hb dX2_hangUp_54 rfl (lv_at hl 0 rfl) ?_
      refine cS (k := 3) (As := [.int (nI (clr (lnk s f) f))]) (rest := []) (v := .int (nI (cnt (clr (lnk s f) f)))) B hz hA (c_X2_count l D cI cN (clr (lnk s f) f) (hcl.2)) gX2_hangUp_X2_count rfl hd_X2_count (by decide) rfl hl.1 rfl (Nat.le_of_ble_eq_true rfl) dX2_hangUp_55 (fun H locs hz => ?_)
      refine lv_iconst (v := (nI 2)) hx hb dX2_hangUp_58 (by decide) ?_
      refine ln_icmp_ge (tgt := 66) hx hb dX2_hangUp_59 (by decide) (by have := cnt_le _ hcl.2; constructor <;> omega) (fun c59 => ?_) (fun c59 => ?_)
      · refine lv_iconst (v := (nI 0)) hx hb dX2_hangUp_66 (by decide) ?_
        have LPj : ∀ (en : Bool), (en = fHe2 f s) → ∀ (H : Heap) (locs : List Loc) (ls : Array Slot), Hz D A s_.heap H locs (mW cI a (fLv f s) (fNp pst s np) (fNn0 np + 1) er od rk hs) → lv_has ls 5 [(0, .ref (a 0)), (1, .int (nI f)), (2, .int (nI (clr (lnk s f) f)))] → Wz p l e 3 s_ m args below meth c D A (some (.int ((pHang (nI f) s).1))) (mAft cI a s pst np er od rk hs od rk (pHang (nI f) s)) H locs (F0 m 67 ls [.int (b2i en)]) := by
          intro en hen H locs ls hz hl
          refine lv_istore_n (lv' := [(3, .int (b2i en)), (0, .ref (a 0)), (1, .int (nI f)), (2, .int (nI (clr (lnk s f) f)))]) hx hb dX2_hangUp_67 rfl hl (by decide) rfl (fun ls hl => ?_)
          refine lv_iconst (v := (nI 0)) hx hb dX2_hangUp_68 (by decide) ?_
          refine lv_istore (lv' := [(4, .int (nI 0)), (3, .int (b2i en)), (0, .ref (a 0)), (1, .int (nI f)), (2, .int (nI (clr (lnk s f) f)))]) hx hb dX2_hangUp_69 hl (by decide) rfl (fun ls hl => ?_)
          have LP71 : ∀ (n_LP71 : Nat) (i : Nat), (i ≤ 5) → 5 - i < n_LP71 → ∀ (H : Heap) (locs : List Loc) (ls : Array Slot), Hz D A s_.heap H locs (mW cI a (fHl (clr (lnk s f) f) en (fLv f s) i) (fNp pst s np) (fNn0 np + 1) er od rk hs) → lv_has ls 5 [(0, .ref (a 0)), (1, .int (nI f)), (2, .int (nI (clr (lnk s f) f))), (3, .int (b2i en)), (4, .int (nI i))] → Wz p l e 3 s_ m args below meth c D A (some (.int ((pHang (nI f) s).1))) (mAft cI a s pst np er od rk hs od rk (pHang (nI f) s)) H locs (F0 m 71 ls []) := by
            intro n_LP71
            induction n_LP71 with
            | zero => intro i hi hm; exact absurd hm (Nat.not_lt_zero _)
            | succ n_LP71 ih_LP71 =>
              intro i hi hm H locs ls hz hl
              refine lv_iload hx hb dX2_hangUp_71 (lv_at hl 4 rfl) ?_
              refine lv_iconst (v := (nI 5)) hx hb dX2_hangUp_73 (by decide) ?_
              refine ln_icmp_ge (tgt := 113) hx hb dX2_hangUp_74 (by decide) (by constructor <;> omega) (fun c74 => ?_) (fun c74 => ?_)
              · refine lv_iload_n hx hb dX2_hangUp_113 rfl (lv_at hl 3 rfl) ?_
                refine lb_if_eq (tgt := 121) hx hb dX2_hangUp_114 (by decide) (fun c114 => ?_) (fun c114 => ?_)
                · refine lv_iload_n hx hb dX2_hangUp_121 rfl (lv_at hl 2 rfl) ?_
                  exact rz_i B hr hz dX2_hangUp_122 (by subst hen; simp [pHang, c4, c19, tn5 hf, fHg, c114, fHr]) (by first | (refine mAft_n ?_; simp [pHang, c4]; done) | (refine mAft_n ?_; simp [pHang, c4, c19, tn5 hf]; done) | (subst hen; obtain rfl : i = 5 := (by omega); (refine mAft_s (r := (fHg f s).1) ?_; simp [pHang, c4, c19, tn5 hf]; first | done | rfl)))
                · refine lv_iconst (v := (nI 0)) hx hb dX2_hangUp_117 (by decide) ?_
                  refine lv_goto (tgt := 122) hx hb dX2_hangUp_118 (by decide) ?_
                  exact rz_i B hr hz dX2_hangUp_122 (by subst hen; simp [pHang, c4, c19, tn5 hf, fHg, c114, fHr]) (by first | (refine mAft_n ?_; simp [pHang, c4]; done) | (refine mAft_n ?_; simp [pHang, c4, c19, tn5 hf]; done) | (subst hen; obtain rfl : i = 5 := (by omega); (refine mAft_s (r := (fHg f s).1) ?_; simp [pHang, c4, c19, tn5 hf]; first | done | rfl)))
              · refine lv_iload_n hx hb dX2_hangUp_77 rfl (lv_at hl 2 rfl) ?_
                refine lv_iload hx hb dX2_hangUp_78 (lv_at hl 4 rfl) ?_
                refine cS (k := 3) (As := [.int (nI (clr (lnk s f) f)), .int (nI i)]) (rest := []) (v := .int (b2i (fHas (nI (clr (lnk s f) f)) (nI i)))) B hz hA (c_X2_has l D cI cN (nI (clr (lnk s f) f)) (nI i) ) gX2_hangUp_X2_has rfl hd_X2_has (by decide) rfl hl.1 rfl (Nat.le_of_ble_eq_true rfl) dX2_hangUp_80 (fun H locs hz => ?_)
                refine lb_if_eq (tgt := 107) hx hb dX2_hangUp_83 (by decide) (fun c83 => ?_) (fun c83 => ?_)
                · refine lv_iinc (v := nI (i + 1)) (lv' := [(4, .int (nI (i + 1))), (0, .ref (a 0)), (1, .int (nI f)), (2, .int (nI (clr (lnk s f) f))), (3, .int (b2i en))]) hx hb dX2_hangUp_107 hl (k := 4) rfl (nI_add i 1) (by decide) rfl (fun ls hl => ?_)
                  refine lv_goto (tgt := 71) hx hb dX2_hangUp_110 (by decide) ?_
                  exact ih_LP71 (i + 1) (by omega) (by omega) H locs ls (hz.cast (by first | (simp [fHl, c83]; done) | (simp [fHl, c83, c98]; done) | (simp [fHl, c83, c98, fLv_upd]; done))) (lv_cast (lv_sub hl [1, 2, 3, 4, 0] (l' := [(0, .ref (a 0)), (1, .int (nI f)), (2, .int (nI (clr (lnk s f) f))), (3, .int (b2i en)), (4, .int (nI (i + 1)))]) rfl) (by rfl))
                · refine lv_aload_n hx hb dX2_hangUp_86 rfl (lv_at hl 0 rfl) ?_
                  refine gz (C := RX2) (T := TX2) (N := 7) (v := .ref (a 1)) B hz hinX2 0 rfl rfl 0 (by decide) lk7 rfl rfl dX2_hangUp_87 ?_
                  refine lv_bipush (v := (nI 14)) hx hb dX2_hangUp_90 (by decide) ?_
                  refine lv_iload hx hb dX2_hangUp_92 (lv_at hl 4 rfl) ?_
                  refine ln_add hx hb dX2_hangUp_94 ?_
                  refine lv_iload_n hx hb dX2_hangUp_95 rfl (lv_at hl 2 rfl) ?_
                  refine istz (n := 624) (j := (14 + i)) (ws1 := (mW cI a (upd (fHl (clr (lnk s f) f) en (fLv f s) i) (14 + i) (nI (clr (lnk s f) f))) (fNp pst s np) (fNn0 np + 1) er od rk hs)) B hz 1 rfl (by omega) (by decide) rfl dX2_hangUp_96 (fun H locs hz => ?_)
                  refine lv_iload_n hx hb dX2_hangUp_97 rfl (lv_at hl 3 rfl) ?_
                  refine lb_if_eq (tgt := 107) hx hb dX2_hangUp_98 (by decide) (fun c98 => ?_) (fun c98 => ?_)
                  · refine lv_iinc (v := nI (i + 1)) (lv' := [(4, .int (nI (i + 1))), (0, .ref (a 0)), (1, .int (nI f)), (2, .int (nI (clr (lnk s f) f))), (3, .int (b2i en))]) hx hb dX2_hangUp_107 hl (k := 4) rfl (nI_add i 1) (by decide) rfl (fun ls hl => ?_)
                    refine lv_goto (tgt := 71) hx hb dX2_hangUp_110 (by decide) ?_
                    exact ih_LP71 (i + 1) (by omega) (by omega) H locs ls (hz.cast (by first | (simp [fHl, c83]; done) | (simp [fHl, c83, c98]; done) | (simp [fHl, c83, c98, fLv_upd]; done))) (lv_cast (lv_sub hl [1, 2, 3, 4, 0] (l' := [(0, .ref (a 0)), (1, .int (nI f)), (2, .int (nI (clr (lnk s f) f))), (3, .int (b2i en)), (4, .int (nI (i + 1)))]) rfl) (by rfl))
                  · refine lv_aload_n hx hb dX2_hangUp_101 rfl (lv_at hl 0 rfl) ?_
                    refine lv_iload hx hb dX2_hangUp_102 (lv_at hl 4 rfl) ?_
                    refine cVv (C := RX2) (T := TX2) (N := 7) (ci := 2) (q0 := 0) (k := 3) (As := [.int (nI i)]) (rest := []) (ws1 := (mW cI a (fLv i (upd (fHl (clr (lnk s f) f) en (fLv f s) i) (14 + i) (nI (clr (lnk s f) f)))) (fNp pst s np) (fNn0 np + 1) er od rk hs)) B hz hA (c_X2_leave l D cI cN a (upd (fHl (clr (lnk s f) f) en (fLv f s) i) (14 + i) (nI (clr (lnk s f) f))) (fNp pst s np) (fNn0 np + 1) er od rk hs i (by omega)) gX2_hangUp_X2_leave rfl rfl hd_X2_leave (by decide) rfl rfl rfl hl.1 rfl (Nat.le_of_ble_eq_true rfl) dX2_hangUp_104 (fun H locs hz => ?_)
                    refine lv_iinc (v := nI (i + 1)) (lv' := [(4, .int (nI (i + 1))), (0, .ref (a 0)), (1, .int (nI f)), (2, .int (nI (clr (lnk s f) f))), (3, .int (b2i en))]) hx hb dX2_hangUp_107 hl (k := 4) rfl (nI_add i 1) (by decide) rfl (fun ls hl => ?_)
                    refine lv_goto (tgt := 71) hx hb dX2_hangUp_110 (by decide) ?_
                    exact ih_LP71 (i + 1) (by omega) (by omega) H locs ls (hz.cast (by first | (simp [fHl, c83]; done) | (simp [fHl, c83, c98]; done) | (simp [fHl, c83, c98, fLv_upd]; done))) (lv_cast (lv_sub hl [1, 2, 3, 4, 0] (l' := [(0, .ref (a 0)), (1, .int (nI f)), (2, .int (nI (clr (lnk s f) f))), (3, .int (b2i en)), (4, .int (nI (i + 1)))]) rfl) (by rfl))
          exact LP71 _ 0 (by omega) (Nat.lt_succ_self _) H locs ls (hz.cast (by rfl)) (lv_cast (lv_sub hl [2, 3, 4, 1, 0] (l' := [(0, .ref (a 0)), (1, .int (nI f)), (2, .int (nI (clr (lnk s f) f))), (3, .int (b2i en)), (4, .int (nI 0))]) rfl) (by rfl))
        exact LPj  false (by unfold fHe2 fHr; simp; omega)  H locs ls (hz.cast (by rfl)) (lv_cast (lv_sub hl [1, 2, 0] (l' := [(0, .ref (a 0)), (1, .int (nI f)), (2, .int (nI (clr (lnk s f) f)))]) rfl) (by rfl))
      · refine lv_iconst (v := (nI 1)) hx hb dX2_hangUp_62 (by decide) ?_
        refine lv_goto (tgt := 67) hx hb dX2_hangUp_63 (by decide) ?_
        have LPj : ∀ (en : Bool), (en = fHe2 f s) → ∀ (H : Heap) (locs : List Loc) (ls : Array Slot), Hz D A s_.heap H locs (mW cI a (fLv f s) (fNp pst s np) (fNn0 np + 1) er od rk hs) → lv_has ls 5 [(0, .ref (a 0)), (1, .int (nI f)), (2, .int (nI (clr (lnk s f) f)))] → Wz p l e 3 s_ m args below meth c D A (some (.int ((pHang (nI f) s).1))) (mAft cI a s pst np er od rk hs od rk (pHang (nI f) s)) H locs (F0 m 67 ls [.int (b2i en)]) := by
          intro en hen H locs ls hz hl
          refine lv_istore_n (lv' := [(3, .int (b2i en)), (0, .ref (a 0)), (1, .int (nI f)), (2, .int (nI (clr (lnk s f) f)))]) hx hb dX2_hangUp_67 rfl hl (by decide) rfl (fun ls hl => ?_)
          refine lv_iconst (v := (nI 0)) hx hb dX2_hangUp_68 (by decide) ?_
          refine lv_istore (lv' := [(4, .int (nI 0)), (3, .int (b2i en)), (0, .ref (a 0)), (1, .int (nI f)), (2, .int (nI (clr (lnk s f) f)))]) hx hb dX2_hangUp_69 hl (by decide) rfl (fun ls hl => ?_)
          have LP71 : ∀ (n_LP71 : Nat) (i : Nat), (i ≤ 5) → 5 - i < n_LP71 → ∀ (H : Heap) (locs : List Loc) (ls : Array Slot), Hz D A s_.heap H locs (mW cI a (fHl (clr (lnk s f) f) en (fLv f s) i) (fNp pst s np) (fNn0 np + 1) er od rk hs) → lv_has ls 5 [(0, .ref (a 0)), (1, .int (nI f)), (2, .int (nI (clr (lnk s f) f))), (3, .int (b2i en)), (4, .int (nI i))] → Wz p l e 3 s_ m args below meth c D A (some (.int ((pHang (nI f) s).1))) (mAft cI a s pst np er od rk hs od rk (pHang (nI f) s)) H locs (F0 m 71 ls []) := by
            intro n_LP71
            induction n_LP71 with
            | zero => intro i hi hm; exact absurd hm (Nat.not_lt_zero _)
            | succ n_LP71 ih_LP71 =>
              intro i hi hm H locs ls hz hl
              refine lv_iload hx hb dX2_hangUp_71 (lv_at hl 4 rfl) ?_
              refine lv_iconst (v := (nI 5)) hx hb dX2_hangUp_73 (by decide) ?_
              refine ln_icmp_ge (tgt := 113) hx hb dX2_hangUp_74 (by decide) (by constructor <;> omega) (fun c74 => ?_) (fun c74 => ?_)
              · refine lv_iload_n hx hb dX2_hangUp_113 rfl (lv_at hl 3 rfl) ?_
                refine lb_if_eq (tgt := 121) hx hb dX2_hangUp_114 (by decide) (fun c114 => ?_) (fun c114 => ?_)
                · refine lv_iload_n hx hb dX2_hangUp_121 rfl (lv_at hl 2 rfl) ?_
                  exact rz_i B hr hz dX2_hangUp_122 (by subst hen; simp [pHang, c4, c19, tn5 hf, fHg, c114, fHr]) (by first | (refine mAft_n ?_; simp [pHang, c4]; done) | (refine mAft_n ?_; simp [pHang, c4, c19, tn5 hf]; done) | (subst hen; obtain rfl : i = 5 := (by omega); (refine mAft_s (r := (fHg f s).1) ?_; simp [pHang, c4, c19, tn5 hf]; first | done | rfl)))
                · refine lv_iconst (v := (nI 0)) hx hb dX2_hangUp_117 (by decide) ?_
                  refine lv_goto (tgt := 122) hx hb dX2_hangUp_118 (by decide) ?_
                  exact rz_i B hr hz dX2_hangUp_122 (by subst hen; simp [pHang, c4, c19, tn5 hf, fHg, c114, fHr]) (by first | (refine mAft_n ?_; simp [pHang, c4]; done) | (refine mAft_n ?_; simp [pHang, c4, c19, tn5 hf]; done) | (subst hen; obtain rfl : i = 5 := (by omega); (refine mAft_s (r := (fHg f s).1) ?_; simp [pHang, c4, c19, tn5 hf]; first | done | rfl)))
              · refine lv_iload_n hx hb dX2_hangUp_77 rfl (lv_at hl 2 rfl) ?_
                refine lv_iload hx hb dX2_hangUp_78 (lv_at hl 4 rfl) ?_
                refine cS (k := 3) (As := [.int (nI (clr (lnk s f) f)), .int (nI i)]) (rest := []) (v := .int (b2i (fHas (nI (clr (lnk s f) f)) (nI i)))) B hz hA (c_X2_has l D cI cN (nI (clr (lnk s f) f)) (nI i) ) gX2_hangUp_X2_has rfl hd_X2_has (by decide) rfl hl.1 rfl (Nat.le_of_ble_eq_true rfl) dX2_hangUp_80 (fun H locs hz => ?_)
                refine lb_if_eq (tgt := 107) hx hb dX2_hangUp_83 (by decide) (fun c83 => ?_) (fun c83 => ?_)
                · refine lv_iinc (v := nI (i + 1)) (lv' := [(4, .int (nI (i + 1))), (0, .ref (a 0)), (1, .int (nI f)), (2, .int (nI (clr (lnk s f) f))), (3, .int (b2i en))]) hx hb dX2_hangUp_107 hl (k := 4) rfl (nI_add i 1) (by decide) rfl (fun ls hl => ?_)
                  refine lv_goto (tgt := 71) hx hb dX2_hangUp_110 (by decide) ?_
                  exact ih_LP71 (i + 1) (by omega) (by omega) H locs ls (hz.cast (by first | (simp [fHl, c83]; done) | (simp [fHl, c83, c98]; done) | (simp [fHl, c83, c98, fLv_upd]; done))) (lv_cast (lv_sub hl [1, 2, 3, 4, 0] (l' := [(0, .ref (a 0)), (1, .int (nI f)), (2, .int (nI (clr (lnk s f) f))), (3, .int (b2i en)), (4, .int (nI (i + 1)))]) rfl) (by rfl))
                · refine lv_aload_n hx hb dX2_hangUp_86 rfl (lv_at hl 0 rfl) ?_
                  refine gz (C := RX2) (T := TX2) (N := 7) (v := .ref (a 1)) B hz hinX2 0 rfl rfl 0 (by decide) lk7 rfl rfl dX2_hangUp_87 ?_
                  refine lv_bipush (v := (nI 14)) hx hb dX2_hangUp_90 (by decide) ?_
                  refine lv_iload hx hb dX2_hangUp_92 (lv_at hl 4 rfl) ?_
                  refine ln_add hx hb dX2_hangUp_94 ?_
                  refine lv_iload_n hx hb dX2_hangUp_95 rfl (lv_at hl 2 rfl) ?_
                  refine istz (n := 624) (j := (14 + i)) (ws1 := (mW cI a (upd (fHl (clr (lnk s f) f) en (fLv f s) i) (14 + i) (nI (clr (lnk s f) f))) (fNp pst s np) (fNn0 np + 1) er od rk hs)) B hz 1 rfl (by omega) (by decide) rfl dX2_hangUp_96 (fun H locs hz => ?_)
                  refine lv_iload_n hx hb dX2_hangUp_97 rfl (lv_at hl 3 rfl) ?_
                  refine lb_if_eq (tgt := 107) hx hb dX2_hangUp_98 (by decide) (fun c98 => ?_) (fun c98 => ?_)
                  · refine lv_iinc (v := nI (i + 1)) (lv' := [(4, .int (nI (i + 1))), (0, .ref (a 0)), (1, .int (nI f)), (2, .int (nI (clr (lnk s f) f))), (3, .int (b2i en))]) hx hb dX2_hangUp_107 hl (k := 4) rfl (nI_add i 1) (by decide) rfl (fun ls hl => ?_)
                    refine lv_goto (tgt := 71) hx hb dX2_hangUp_110 (by decide) ?_
                    exact ih_LP71 (i + 1) (by omega) (by omega) H locs ls (hz.cast (by first | (simp [fHl, c83]; done) | (simp [fHl, c83, c98]; done) | (simp [fHl, c83, c98, fLv_upd]; done))) (lv_cast (lv_sub hl [1, 2, 3, 4, 0] (l' := [(0, .ref (a 0)), (1, .int (nI f)), (2, .int (nI (clr (lnk s f) f))), (3, .int (b2i en)), (4, .int (nI (i + 1)))]) rfl) (by rfl))
                  · refine lv_aload_n hx hb dX2_hangUp_101 rfl (lv_at hl 0 rfl) ?_
                    refine lv_iload hx hb dX2_hangUp_102 (lv_at hl 4 rfl) ?_
                    refine cVv (C := RX2) (T := TX2) (N := 7) (ci := 2) (q0 := 0) (k := 3) (As := [.int (nI i)]) (rest := []) (ws1 := (mW cI a (fLv i (upd (fHl (clr (lnk s f) f) en (fLv f s) i) (14 + i) (nI (clr (lnk s f) f)))) (fNp pst s np) (fNn0 np + 1) er od rk hs)) B hz hA (c_X2_leave l D cI cN a (upd (fHl (clr (lnk s f) f) en (fLv f s) i) (14 + i) (nI (clr (lnk s f) f))) (fNp pst s np) (fNn0 np + 1) er od rk hs i (by omega)) gX2_hangUp_X2_leave rfl rfl hd_X2_leave (by decide) rfl rfl rfl hl.1 rfl (Nat.le_of_ble_eq_true rfl) dX2_hangUp_104 (fun H locs hz => ?_)
                    refine lv_iinc (v := nI (i + 1)) (lv' := [(4, .int (nI (i + 1))), (0, .ref (a 0)), (1, .int (nI f)), (2, .int (nI (clr (lnk s f) f))), (3, .int (b2i en))]) hx hb dX2_hangUp_107 hl (k := 4) rfl (nI_add i 1) (by decide) rfl (fun ls hl => ?_)
                    refine lv_goto (tgt := 71) hx hb dX2_hangUp_110 (by decide) ?_
                    exact ih_LP71 (i + 1) (by omega) (by omega) H locs ls (hz.cast (by first | (simp [fHl, c83]; done) | (simp [fHl, c83, c98]; done) | (simp [fHl, c83, c98, fLv_upd]; done))) (lv_cast (lv_sub hl [1, 2, 3, 4, 0] (l' := [(0, .ref (a 0)), (1, .int (nI f)), (2, .int (nI (clr (lnk s f) f))), (3, .int (b2i en)), (4, .int (nI (i + 1)))]) rfl) (by rfl))
          exact LP71 _ 0 (by omega) (Nat.lt_succ_self _) H locs ls (hz.cast (by rfl)) (lv_cast (lv_sub hl [2, 3, 4, 1, 0] (l' := [(0, .ref (a 0)), (1, .int (nI f)), (2, .int (nI (clr (lnk s f) f))), (3, .int (b2i en)), (4, .int (nI 0))]) rfl) (by rfl))
        exact LPj  true (by unfold fHe2 fHr; simp; omega)  H locs ls (hz.cast (by rfl)) (lv_cast (lv_sub hl [1, 2, 0] (l' := [(0, .ref (a 0)), (1, .int (nI f)), (2, .int (nI (clr (lnk s f) f)))]) rfl) (by rfl))
    · refine lv_aload_n hx hb dX2_hangUp_22 rfl (lv_at hl 0 rfl) ?_
      refine lv_bipush (v := (-3)) hx hb dX2_hangUp_23 (by decide) ?_
      refine cV (C := RX2) (T := TX2) (N := 7) (ci := 2) (q0 := 0) (k := 3) (As := [.int (-3)]) (rest := []) (v := .int (-3)) (ws1 := (mW cI a s pst np (upd er (fIx (-3)) (er (fIx (-3)) + nI 1)) od rk hs)) B hz hA (c_X2_fail l D cI cN a s pst np er od rk hs (-3) (by first | exact Or.inl rfl | exact Or.inr rfl)) gX2_hangUp_X2_fail rfl rfl hd_X2_fail (by decide) rfl rfl rfl hl.1 rfl (Nat.le_of_ble_eq_true rfl) dX2_hangUp_25 (fun H locs hz => ?_)
      exact rz_i B hr hz dX2_hangUp_28 (by simp [pHang, c4, c19, tn5 hf]) (by first | (refine mAft_n ?_; simp [pHang, c4]; done) | (refine mAft_n ?_; simp [pHang, c4, c19, tn5 hf]; done) | (subst hen; obtain rfl : i = 5 := (by omega); (refine mAft_s (r := (fHg f s).1) ?_; simp [pHang, c4, c19, tn5 hf]; first | done | rfl)))
  · refine lv_aload_n hx hb dX2_hangUp_7 rfl (lv_at hl 0 rfl) ?_
    refine lv_bipush (v := (-2)) hx hb dX2_hangUp_8 (by decide) ?_
    refine cV (C := RX2) (T := TX2) (N := 7) (ci := 2) (q0 := 0) (k := 3) (As := [.int (-2)]) (rest := []) (v := .int (-2)) (ws1 := (mW cI a s pst np (upd er (fIx (-2)) (er (fIx (-2)) + nI 1)) od rk hs)) B hz hA (c_X2_fail l D cI cN a s pst np er od rk hs (-2) (by first | exact Or.inl rfl | exact Or.inr rfl)) gX2_hangUp_X2_fail rfl rfl hd_X2_fail (by decide) rfl rfl rfl hl.1 rfl (Nat.le_of_ble_eq_true rfl) dX2_hangUp_10 (fun H locs hz => ?_)
    exact rz_i B hr hz dX2_hangUp_13 (by simp [pHang, c4]) (by first | (refine mAft_n ?_; simp [pHang, c4]; done) | (refine mAft_n ?_; simp [pHang, c4, c19, tn5 hf]; done) | (subst hen; obtain rfl : i = 5 := (by omega); (refine mAft_s (r := (fHg f s).1) ?_; simp [pHang, c4, c19, tn5 hf]; first | done | rfl)))
