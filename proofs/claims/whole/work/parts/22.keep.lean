/-! WHAT EVERY STATE KEEPS (KT T s: at time T), and what follows from it -/
def IvE (T : Nat) (s : Sz) : Prop := ∀ i, i < 200 → (s (224 + i) = -1 ∨ ∃ v, v ≤ 30 ∧ s (224 + i) = nI v) ∧ ∃ t, t ≤ T ∧ s (424 + i) = nI t
def KT (T : Nat) (s : Sz) : Prop := s 0 = nI T ∧ IvS s ∧ fNn s ∧ (1 ≤ (s 2).toInt ∧ (s 2).toInt ≤ 99) ∧ IvL s ∧ IvE T s
theorem KT.A {T : Nat} {s : Sz} (h : KT T s) : IvA s := h.2.2.2.1.1
theorem KT.T {T : Nat} {s : Sz} (h : KT T s) (hT : T < 2 ^ 30) : IvT s := by
  have e : tmN s = T := by unfold tmN; rw [h.1, nI_clamp (by omega)]
  exact ⟨by rw [e]; exact h.1, by rw [e]; exact hT⟩
theorem IvE.mono {T T' : Nat} {s : Sz} (h : IvE T s) (hT : T ≤ T') : IvE T' s := by
  intro i hi
  obtain ⟨h1, t, h2, h3⟩ := h i hi
  exact ⟨h1, t, by omega, h3⟩
theorem nI_bk {x : Int32} {g : Nat} (h1 : 0 ≤ x.toInt) (h2 : x.toInt ≤ g) : ∃ n, n ≤ g ∧ x = nI n := by
  obtain ⟨n, hn, rfl⟩ := nI_of (x := x) (by rw [Int32.lt_iff_toInt_lt]; have z : (0 : Int32).toInt = 0 := by decide
                                            omega)
  rw [nI_toInt hn] at h2
  exact ⟨n, by omega, rfl⟩
theorem fEf_le {T : Nat} {s : Sz} (h : KT T s) (hT : T < 2 ^ 30) {a b c : Nat} (ha : a < 5) (hb : b < 5) (hc : c < 8) : (fEf a b c s).toInt ≤ 30 := by
  have hi := fAt_lt ha hb hc
  obtain ⟨h1, t, ht, h3⟩ := h.2.2.2.2.2 _ hi
  obtain ⟨g, hg, e2⟩ := nI_bk (x := s 2) (g := 99) (by have := h.2.2.2.1.1; omega) (by have := h.2.2.2.1.2; omega)
  have hg1 : 1 ≤ g := by
    have := h.2.2.2.1.1
    rw [e2, nI_toInt (by omega)] at this
    omega
  unfold fEf
  split
  · decide
  · rename_i hne
    rcases h1 with h1 | ⟨v, hv, h1⟩
    · exact absurd h1 hne
    · rw [h1, h.1, h3, e2, pk_sub ht, pk_div (by omega) (by omega) (by omega)]
      split
      · have hq : (T - t) / g ≤ T := Nat.le_trans (Nat.div_le_self _ _) (by omega)
        generalize (T - t) / g = q at hq ⊢
        rw [pk_sub_toInt (by omega) (by omega)]
        omega
      · decide
theorem i32_eq {x y : Int32} (h : x.toInt = y.toInt) : x = y := Int32.toInt_inj.mp h
theorem ti30 : (nI 30).toInt = 30 := by decide
theorem ti31 : (nI 31).toInt = 31 := by decide
theorem fHas_bit {t i : Nat} (ht : t < 5) (hi : i < 5) : fHas (nI 1 <<< (nI t &&& 31)) (nI i) = decide (i = t) := by
  rw [fHas_bt _ (by omega), bt_bit (by omega) (by omega)]
theorem fNs_one {T : Nat} {s : Sz} (h : KT T s) (hT : T < 2 ^ 30) {a t c : Nat} (ha : a < 5) (ht : t < 5) (hc : c < 8) : ∀ i, i ≤ 5 → fNs (nI 30) (nI 1 <<< (nI t &&& 31)) a c s i = if t < i then fEf a t c s else nI 30
  | 0, _ => by simp [fNs]
  | i + 1, hi => by
    have ih := fNs_one h hT ha ht hc i (by omega)
    have hle := fEf_le h hT ha ht hc
    simp only [fNs]
    rw [fHas_bit ht (by omega), ih]
    by_cases e : i = t
    · subst e
      simp only [decide_true, if_true, if_neg (Nat.lt_irrefl i), if_pos (Nat.lt_succ_self i)]
      split
      · rfl
      · rename_i hn
        rw [Int32.lt_iff_toInt_lt, ti30] at hn
        exact i32_eq (by rw [ti30]; omega)
    · rw [if_neg (by simp [e])]
      by_cases q : t < i
      · rw [if_pos q, if_pos (by omega)]
      · rw [if_neg q, if_neg (by omega)]
theorem fNs_same {T : Nat} {s : Sz} (h : KT T s) (hT : T < 2 ^ 30) {a c : Nat} {ms : Int32} (ha : a < 5) (hc : c < 8) : ∀ i, i ≤ 5 → (fNs (nI 31) ms a c s i = fNs (nI 30) ms a c s i) ∨ (fNs (nI 31) ms a c s i = nI 31 ∧ fNs (nI 30) ms a c s i = nI 30 ∧ ∀ j, j < i → fHas ms (nI j) = false)
  | 0, _ => Or.inr ⟨rfl, rfl, fun j hj => absurd hj (Nat.not_lt_zero _)⟩
  | i + 1, hi => by
    have ih := fNs_same (ms := ms) h hT ha hc i (by omega)
    have hle := fEf_le h hT ha (show i < 5 by omega) hc
    simp only [fNs]
    cases e : fHas ms (nI i)
    · rw [if_neg (by decide), if_neg (by decide)]
      rcases ih with ih | ⟨h1, h2, h3⟩
      · exact Or.inl ih
      · refine Or.inr ⟨h1, h2, fun j hj => ?_⟩
        by_cases hji : j = i
        · subst hji; exact e
        · exact h3 j (by omega)
    · rw [if_pos rfl, if_pos rfl]
      left
      rcases ih with ih | ⟨h1, h2, -⟩
      · rw [ih]
      · rw [h1, h2, if_pos (by rw [Int32.lt_iff_toInt_lt, ti31]; omega)]
        split
        · rfl
        · rename_i hn
          rw [Int32.lt_iff_toInt_lt, ti30] at hn
          exact i32_eq (by rw [ti30]; omega)
theorem mem_ex : ∀ t, t < 32 → 1 ≤ t → (List.range 5).any (fun c => fHas (nI t) (nI c)) = true := by decide +kernel
/-- the net channel is the same -/
theorem net_same {T : Nat} {s rk : Sz} (h : KT T s) (hT : T < 2 ^ 30) {a tm : Nat} (ha : a < 5) (h1 : 1 ≤ tm) (h2 : tm < 32) (u : Int32) : fFr (fun ch => fNs (nI 31) (nI tm) a ch s 5) u 8 = fFr (fRk (nI tm) a s rk 8) u 8 := by
  apply fFr_congr
  intro c hc
  rw [fRk_at 8, if_pos hc]
  rcases fNs_same (ms := nI tm) h hT ha hc 5 (Nat.le_refl _) with e | ⟨-, -, h3⟩
  · exact e
  · obtain ⟨j, hj, hh⟩ := List.any_eq_true.mp (mem_ex tm h2 h1)
    rw [h3 j (List.mem_range.mp hj)] at hh
    cases hh
theorem fRb_at {T : Nat} {s rk : Sz} (h : KT T s) (hT : T < 2 ^ 30) {f t c : Nat} (hf : f < 5) (ht : t < 5) (hc : c < 8) : fRb f t s rk c = fEf f t c s := by
  unfold fRb
  rw [fRk_at 8, if_pos hc, fNs_one h hT hf ht hc 5 (Nat.le_refl _), if_pos ht]
theorem Lft_0 {s : Sz} {f : Nat} (h : IvS s) (hf : f < 5) (o : Nat → Nat) : Lft o (s (9 + f)) 0 (scn s f) := by
  obtain ⟨h1, h2, h3⟩ := h f hf
  refine ⟨h2, fun d hd => ?_⟩
  rw [← h3]
  exact ⟨fun q => ⟨q, fun i hi => absurd hi (Nat.not_lt_zero _)⟩, fun q => q.1⟩
/-- a call goes the same way -/
theorem call_same {T : Nat} {s od rk rk' : Sz} (h : KT T s) (hT : T < 2 ^ 30) {f t : Nat} (hf : f < 5) (ht : t < 5) : mCl s od rk f t = xCl s rk' f t := by
  obtain ⟨o, h1, h2, h3⟩ := fSc_srt f t s od rk 8
  have hn := fSc_le f t s od rk 8
  unfold mCl xCl
  refine (same_call (R := fun c => fEf f t c s) (scan := s (9 + f)) (n := (fSc f t s od rk 8).1) (o := o) (fun c hc => fRb_at h hT hf ht hc) ?_ (fun j hj => (h1 j hj).2.2) h2 h3 (fSc f t s od rk 8).1 0 8 (scn s f) (upd s 5 (nI 0)) (by omega) hn (Lft_0 h.2.1 hf o)).symm
  intro j hj
  unfold fOl
  have := h1 j hj
  rw [this.1, nI_clamp (by omega)]
/-- the best channel is the same -/
theorem best_same {T : Nat} {s od rk rk' : Sz} (h : KT T s) (hT : T < 2 ^ 30) {f t : Nat} (hf : f < 5) (ht : t < 5) : (if (fSc f t s od rk 8).1 = 0 then -1 else (fSc f t s od rk 8).2.1 0) = oI (fFr (fRk (nI 1 <<< (nI t &&& 31)) f s rk' 8) (s (9 + f)) 8) := by
  obtain ⟨o, h1, h2, h3⟩ := fSc_srt f t s od rk 8
  obtain ⟨g1, g2, g3⟩ := h.2.1 f hf
  have hp := pick (R := fun c => fEf f t c s) (scan := s (9 + f)) (n := (fSc f t s od rk 8).1) (o := o) (r := fRb f t s rk') (fun c hc => fRb_at h hT hf ht hc) (fun j hj => (h1 j hj).2.2) h2 h3 (Lft_0 h.2.1 hf o)
  have h0 : ¬ (fSc f t s od rk 8).1 = 0 := fun z => by have := hp.2 (by omega); omega
  rw [if_neg h0, (h1 0 (by omega)).1, g3]
  have e := hp.1 (by omega)
  show _ = oI (fFr (fRb f t s rk') (nI (scn s f)) 8)
  rw [(frn_ok g2 e.1).1, e.2.1]
  rfl
-- what is kept
theorem KT.up {T : Nat} {s : Sz} (h : KT T s) {j : Nat} (x : Int32) (hj : (3 ≤ j ∧ j < 9) ∨ (19 ≤ j ∧ j < 224)) : KT T (upd s j x) := by
  obtain ⟨h1, h2, h3, h4, h5, h6⟩ := h
  refine ⟨by rw [pk_un (by omega)]; exact h1, IvS_of h2 (fun k hk => pk_un (by omega)), nn_upd h3 (by omega), by rw [pk_un (by omega)]; exact h4, fun k hk => ?_, fun i hi => ?_⟩
  · have := h5 k hk
    unfold lnk at *
    rw [pk_un (by omega)]
    exact this
  · rw [pk_un (by omega), pk_un (by omega)]
    exact h6 i hi
theorem KT.tm {T d : Nat} {s : Sz} (h : KT T s) {x : Int32} (hx : x = nI (T + d)) : KT (T + d) (upd s 0 x) := by
  obtain ⟨h1, h2, h3, h4, h5, h6⟩ := h
  refine ⟨by rw [pk_us, hx], IvS_of h2 (fun k hk => pk_un (by omega)), nn_upd h3 (by omega), by rw [pk_un (by omega)]; exact h4, fun k hk => ?_, fun i hi => ?_⟩
  · have := h5 k hk
    unfold lnk at *
    rw [pk_un (by omega)]
    exact this
  · rw [pk_un (by omega), pk_un (by omega)]
    exact (h6.mono (by omega)) i hi
theorem KT.tmA {T d : Nat} {s : Sz} (h : KT T s) : KT (T + d) (upd s 0 (s 0 + nI d)) := h.tm (by rw [h.1, nI_add])
theorem KT.tr {T : Nat} {s : Sz} (h : KT T s) {kd f t mt ch : Nat} (hf : f < 5) (ht : t < 5) (hc : ch < 8) : KT T (fTr kd f t mt ch s).2 := by
  obtain ⟨h1, h2, h3, h4, h5, h6⟩ := h
  refine ⟨by rw [fTr_out (by omega)]; exact h1, IvS_tr h2, fTr_nn h3, by rw [fTr_out (by omega)]; exact h4, fun k hk => ?_, fun i hi => ?_⟩
  · have := h5 k hk
    unfold lnk at *
    rw [fTr_out (by omega)]
    exact this
  · have hat := fAt_lt ht hf hc
    unfold fTr
    split
    · show (fTy _ _ _ _ _ _ _ = -1 ∨ ∃ v, v ≤ 30 ∧ fTy _ _ _ _ _ _ _ = nI v) ∧ ∃ t, t ≤ T ∧ fTy _ _ _ _ _ _ _ = nI t
      have hu := fUn_le (fTd (nI (fTw kd f mt)) (s (24 + fAt f t ch)) s) 24
      have hu2 : fTu (nI (fTw kd f mt)) (s (24 + fAt f t ch)) s ≤ 24 := hu
      unfold fTy
      by_cases hia : i = fAt t f ch
      · subst hia
        rw [pk_un (show 224 + fAt t f ch ≠ 424 + fAt t f ch by omega), pk_us, pk_us, fT3_out _ _ _ (by decide), h1, pk_div (by omega) (by omega) (by omega)]
        exact ⟨Or.inr ⟨_, by omega, rfl⟩, T, Nat.le_refl _, rfl⟩
      · rw [pk_un (show 224 + i ≠ 424 + fAt t f ch by omega), pk_un (show 224 + i ≠ 224 + fAt t f ch by omega), pk_un (show 224 + i ≠ 4 by omega), fTx_out (by omega), pk_un (show 424 + i ≠ 424 + fAt t f ch by omega), pk_un (show 424 + i ≠ 224 + fAt t f ch by omega), pk_un (show 424 + i ≠ 4 by omega), fTx_out (by omega)]
        exact h6 i hi
    · show (fTx _ _ _ _ = -1 ∨ ∃ v, v ≤ 30 ∧ fTx _ _ _ _ = nI v) ∧ ∃ t, t ≤ T ∧ fTx _ _ _ _ = nI t
      rw [fTx_out (by omega), fTx_out (by omega)]
      exact h6 i hi
theorem KT.am {T : Nat} {s : Sz} (h : KT T s) {a b c : Nat} (ha : a < 5) (hb : b < 5) (hc : c < 8) : ∃ T', T ≤ T' ∧ T' ≤ T + 10 ∧ KT T' (fAm a b c s).2 := by
  have hn := cnt_le _ (h.2.1 b hb).2.1
  have k1 := h.tmA (d := cnt (scn s b))
  have k2 := k1.tr (kd := 2) (mt := b) ha hb hc
  have k3 := k2.tm (d := 1) (x := s 0 + nI (cnt (scn s b)) + nI 1) (by rw [h.1, nI_add, nI_add])
  have k4 := k3.tr (kd := 3) (mt := a) hb ha hc
  have k5 := k4.tm (d := 1) (x := s 0 + nI (cnt (scn s b)) + nI 1 + nI 1) (by rw [h.1, nI_add, nI_add, nI_add])
  have k6 := k5.tr (kd := 4) (mt := b) ha hb hc
  unfold fAm
  split
  · split
    · split
      · exact ⟨_, by omega, by omega, k6⟩
      · exact ⟨_, by omega, by omega, k4⟩
    · exact ⟨_, by omega, by omega, k2⟩
  · exact ⟨_, by omega, by omega, k1⟩
theorem KT.an {T : Nat} {s : Sz} (h : KT T s) {a k c : Nat} (ha : a < 5) (hk : k < 5) (hc : c < 8) : ∃ T', T ≤ T' ∧ T' ≤ T + 1 ∧ KT T' (fAn a k c s).2 := by
  have k1 := h.tr (kd := 2) (mt := 255) ha hk hc
  have k2 := k1.tm (d := 1) (x := s 0 + nI 1) (by rw [h.1, nI_add])
  have k3 := k2.tr (kd := 3) (mt := a) hk ha hc
  unfold fAn
  split
  · split
    · exact ⟨T, by omega, by omega, h⟩
    · split
      · exact ⟨_, by omega, by omega, k3⟩
      · exact ⟨_, by omega, by omega, k1⟩
  · exact ⟨T, by omega, by omega, h⟩
theorem KT.ln {T : Nat} {s : Sz} (h : KT T s) {k m : Nat} (hk : k < 5) (hm : m < 32) : KT T (upd s (14 + k) (nI m)) := by
  obtain ⟨h1, h2, h3, h4, h5, h6⟩ := h
  refine ⟨by rw [pk_un (by omega)]; exact h1, IvS_of h2 (fun k hk => pk_un (by omega)), nn_upd h3 (by omega), by rw [pk_un (by omega)]; exact h4, fun j hj => ?_, fun i hi => ?_⟩
  · have := h5 j hj
    unfold lnk at *
    by_cases e : j = k
    · subst e
      rw [pk_us, nI_clamp (by omega)]
      exact ⟨hm, rfl⟩
    · rw [pk_un (by omega)]
      exact this
  · rw [pk_un (by omega), pk_un (by omega)]
    exact h6 i hi
theorem KT.jn {T : Nat} {s : Sz} (h : KT T s) {set x : Int32} (hm : ∃ m, m < 32 ∧ set = nI m) : ∀ i, i ≤ 5 → KT T (fJn set x s i)
  | 0, _ => h
  | i + 1, hi => by
    have ih := KT.jn (x := x) h hm i (by omega)
    obtain ⟨m, h1, rfl⟩ := hm
    simp only [fJn]
    split
    · exact (ih.ln (by omega) h1).up x (by omega)
    · exact ih
theorem KT.lv {T : Nat} {s : Sz} (h : KT T s) {k : Nat} (hk : k < 5) : KT T (fLv k s) := (h.ln hk (show 0 < 32 by omega)).up (-1) (by omega)
theorem KT.so {T : Nat} {s : Sz} (h : KT T s) {k c : Nat} (hk : k < 5) (hc : c < 8) : ∀ i, i ≤ 5 → KT T (fSo k c s i).2
  | 0, _ => h
  | i + 1, hi => by
    have ih := KT.so h hk hc i (by omega)
    simp only [fSo]
    split
    · exact ih
    · split
      · exact ih.tr hk (by omega) hc
      · exact ih
theorem bit2_ok : ∀ a, a < 5 → ∀ b, b < 5 → bit2 a b = nI (bit2 a b).toNatClampNeg ∧ (bit2 a b).toNatClampNeg < 32 := by decide +kernel
theorem KT.cx {a b : Nat} {rk : Sz} (ha : a < 5) (hb : b < 5) : ∀ (f t : Nat) {T : Nat} {s : Sz}, KT T s → t < 256 → ∃ T', T ≤ T' ∧ T' ≤ T + 10 * f ∧ KT T' (fCx a b rk f t s).2
  | 0, t, T, s, h, _ => ⟨T, by omega, by omega, h⟩
  | f + 1, t, T, s, h, ht => by
    simp only [fCx]
    by_cases h0 : t = 0
    · rw [if_pos h0]; exact ⟨T, by omega, by omega, h⟩
    · rw [if_neg h0]
      have hc := (frn_ok (rk := rk) ht h0).2.1
      have k1 : KT T (fC1 (frn rk t) s) := (h.up _ (by omega)).up _ (by omega)
      obtain ⟨T1, t1, t2, k2⟩ := k1.am ha hb hc
      split
      · exact ⟨T1, by omega, by omega, k2.jn ⟨_, (bit2_ok a ha b hb).2, (bit2_ok a ha b hb).1⟩ 5 (Nat.le_refl _)⟩
      · obtain ⟨T2, t3, t4, k3⟩ := KT.cx (rk := rk) ha hb f _ k2 (clr_ok t ht _ hc).2
        exact ⟨T2, by omega, by omega, k3⟩
theorem KT.n1 {T : Nat} {s : Sz} (h : KT T s) {a ch : Nat} {ms : Int32} (ha : a < 5) (hc : ch < 8) : ∀ i, i ≤ 5 → ∃ T', T ≤ T' ∧ T' ≤ T + i ∧ KT T' (fN1 a ch ms s i).2
  | 0, _ => ⟨T, by omega, by omega, h⟩
  | i + 1, hi => by
    obtain ⟨T1, t1, t2, k1⟩ := KT.n1 (ms := ms) h ha hc i (by omega)
    simp only [fN1]
    split
    · obtain ⟨T2, t3, t4, k2⟩ := k1.an ha (show i < 5 by omega) hc
      exact ⟨T2, by omega, by omega, k2⟩
    · exact ⟨T1, by omega, by omega, k1⟩
theorem orb : ∀ m, m < 32 → ∀ i, i < 5 → (nI m ||| (nI 1 <<< (nI i &&& 31))) = nI (nI m ||| (nI 1 <<< (nI i &&& 31))).toNatClampNeg ∧ (nI m ||| (nI 1 <<< (nI i &&& 31))).toNatClampNeg < 32 := by decide +kernel
theorem KT.n2 {T : Nat} {s : Sz} (h : KT T s) {a ch : Nat} {pt : Int32} (ha : a < 5) (hc : ch < 8) : ∀ i, i ≤ 5 → KT T (fN2 a ch pt s i).2 ∧ ∃ m, m < 32 ∧ (fN2 a ch pt s i).1 = nI m
  | 0, _ => ⟨h, 0, by omega, rfl⟩
  | i + 1, hi => by
    obtain ⟨k1, m, hm, e⟩ := KT.n2 (pt := pt) h ha hc i (by omega)
    simp only [fN2]
    split
    · refine ⟨k1.tr ha (by omega) hc, ?_⟩
      split
      · rw [e]
        exact ⟨_, (orb m hm i (by omega)).2, (orb m hm i (by omega)).1⟩
      · exact ⟨m, hm, e⟩
    · exact ⟨k1, m, hm, e⟩
theorem KT.nt {T : Nat} {s : Sz} (h : KT T s) {a ch : Nat} {ms : Int32} (ha : a < 5) (hc : ch < 8) : ∃ T', T ≤ T' ∧ T' ≤ T + 20 ∧ KT T' (fNt a ch ms s).2 := by
  have k0 := (h.up (j := 5) (nI 1) (by omega)).up (j := 6) (nI ch) (by omega)
  have hle := fMo_le (ms := ms) k0.2.1 5 (Nat.le_refl _)
  have k1 := k0.tm (d := fMo ms (upd (upd s 5 (nI 1)) 6 (nI ch)) 5) (x := s 0 + nI (fMo ms (upd (upd s 5 (nI 1)) 6 (nI ch)) 5)) (by rw [h.1, nI_add])
  obtain ⟨T1, t1, t2, k2⟩ := k1.n1 (ms := ms) ha hc 5 (Nat.le_refl _)
  have k3 := k2.tmA (d := 1)
  obtain ⟨k4, m, hm, e⟩ := k3.n2 (pt := (fN1 a ch ms (fNa ch ms s) 5).1) ha hc 5 (Nat.le_refl _)
  unfold fNt
  show ∃ T', T ≤ T' ∧ T' ≤ T + 20 ∧ KT T' (if (fNc a ch ms s).1 = 0 then (fNc a ch ms s).2 else fJn ((fNc a ch ms s).1 ||| (nI 1 <<< (nI a &&& 31))) (nI ch) (fNc a ch ms s).2 5)
  refine ⟨T1 + 1, by omega, by omega, ?_⟩
  split
  · exact k4
  · refine KT.jn (show KT (T1 + 1) (fNc a ch ms s).2 from k4) ?_ 5 (Nat.le_refl _)
    rw [show (fNc a ch ms s).1 = nI m from e]
    exact ⟨_, (orb m hm a ha).2, (orb m hm a ha).1⟩
theorem KT.hl {T : Nat} {s : Sz} (h : KT T s) {r : Nat} {en : Bool} (hr : r < 32) : ∀ i, i ≤ 5 → KT T (fHl r en s i)
  | 0, _ => h
  | i + 1, hi => by
    have ih := KT.hl (en := en) h hr i (by omega)
    simp only [fHl]
    split
    · split
      · exact ih.lv (by omega)
      · exact ih.ln (by omega) hr
    · exact ih
theorem KT.hg {T : Nat} {s : Sz} (h : KT T s) {k : Nat} (hk : k < 5) : KT T (fHg k s).2 := (h.lv hk).hl (clr32 _ (h.2.2.2.2.1 k hk).1 k (by omega)) 5 (Nat.le_refl _)
