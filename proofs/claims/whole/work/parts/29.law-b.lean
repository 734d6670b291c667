/-! the undoable methods: which answers refuse, and that what they leave keeps KT -/
theorem KT.sc {T : Nat} {s : Sz} (h : KT T s) {k m : Nat} (hk : k < 5) (h1 : 1 ≤ m) (hm : m < 256) : KT T (upd s (9 + k) (nI m)) := by
  obtain ⟨g1, g2, g3, g4, g5, g6⟩ := h
  refine ⟨by rw [pk_un (by omega)]; exact g1, fun j hj => ?_, nn_upd g3 (by omega), by rw [pk_un (by omega)]; exact g4, fun j hj => ?_, fun i hi => ?_⟩
  · have := g2 j hj
    unfold scn at *
    by_cases e : j = k
    · subst e
      rw [pk_us, nI_clamp (by omega)]
      exact ⟨h1, hm, rfl⟩
    · rw [pk_un (by omega)]
      exact this
  · have := g5 j hj
    unfold lnk at *
    rw [pk_un (by omega)]
    exact this
  · rw [pk_un (by omega), pk_un (by omega)]
    exact g6 i hi
theorem KT.lo {T : Nat} {s : Sz} (h : KT T s) {j : Nat} {x : Int32} (hj : j = 1 ∧ 0 ≤ x.toInt ∨ j = 2 ∧ 1 ≤ x.toInt ∧ x.toInt ≤ 99) : KT T (upd s j x) := by
  obtain ⟨g1, g2, g3, g4, g5, g6⟩ := h
  refine ⟨by rw [pk_un (by omega)]; exact g1, IvS_of g2 (fun k hk => pk_un (by omega)), ?_, ?_, fun k hk => ?_, fun i hi => ?_⟩
  · unfold fNn
    rcases hj with ⟨rfl, hj⟩ | ⟨rfl, hj⟩
    · rw [pk_us]; exact hj
    · rw [pk_un (by decide)]; exact g3
  · rcases hj with ⟨rfl, hj⟩ | ⟨rfl, hj⟩
    · rw [pk_un (by decide)]; exact g4
    · rw [pk_us]; exact hj
  · have := g5 k hk
    unfold lnk at *
    rw [pk_un (by omega)]
    exact this
  · rw [pk_un (by omega), pk_un (by omega)]
    exact g6 i hi
def okO (T : Nat) (o : Int32 × Option Sz) : Prop := (o.2 = none → o.1 = -2 ∨ o.1 = -3) ∧ ∀ s', o.2 = some s' → ∃ T', T' ≤ T + 1000 ∧ KT T' s'
theorem okO_2 {T : Nat} : okO T (-2, none) := ⟨fun _ => Or.inl rfl, fun _ h => by cases h⟩
theorem okO_3 {T : Nat} : okO T (-3, none) := ⟨fun _ => Or.inr rfl, fun _ h => by cases h⟩
theorem okO_s {T T' : Nat} {r : Int32} {s' : Sz} (h1 : T' ≤ T + 1000) (h2 : KT T' s') : okO T (r, some s') := ⟨fun h => (by cases h), fun z h => by cases h; exact ⟨T', h1, h2⟩⟩
theorem ok_setScan {T : Nat} {s : Sz} (h : KT T s) (x y : Int32) : okO T (pSetScan x y s) := by
  unfold pSetScan
  split
  · rename_i h1
    split
    · rename_i h2
      obtain ⟨f, hf, rfl⟩ := fSt_nat h1
      obtain ⟨m, hm1, hm2, rfl⟩ := fIn_nat (by decide) h2 (by decide)
      rw [tn5 hf]
      exact okO_s (Nat.le_add_right _ _) (h.sc hf hm1 (by omega))
    · exact okO_2
  · exact okO_2
theorem ok_setQ {T : Nat} {s : Sz} (h : KT T s) (x y z q : Int32) : okO T (pSetQ x y z q s) := by
  unfold pSetQ
  split
  · rename_i h1
    split
    · obtain ⟨f, t, ch, hf, ht, hc, hft, rfl, rfl, rfl⟩ := fTh_nat h1
      rw [tn5 hf, tn5 ht, tn8 hc]
      have a1 := fAt_lt hf ht hc
      have a2 := fAt_lt ht hf hc
      exact okO_s (Nat.le_add_right _ _) ((h.up q (by omega)).up q (by omega))
    · exact okO_2
  · exact okO_2
theorem ok_age {T : Nat} {s : Sz} (h : KT T s) (x : Int32) : okO T (pAge x s) := by
  unfold pAge
  split
  · rename_i h1
    obtain ⟨n, h2, h3, rfl⟩ := fIn_nat (by decide) h1 (by decide)
    exact okO_s (Nat.le_add_right _ _) (h.lo (Or.inr ⟨rfl, by rw [nI_toInt (by omega)]; omega, by rw [nI_toInt (by omega)]; omega⟩))
  · exact okO_2
theorem ok_noise {T : Nat} {s : Sz} (h : KT T s) (x : Int32) : okO T (pNoise x s) := by
  unfold pNoise
  split
  · rename_i h1
    rw [Int32.le_iff_toInt_le, ti0] at h1
    exact okO_s (Nat.le_add_right _ _) (h.lo (Or.inl ⟨rfl, h1⟩))
  · exact okO_2
theorem ok_pass {T : Nat} {s : Sz} (h : KT T s) (x : Int32) : okO T (pPass x s) := by
  unfold pPass
  split
  · rename_i h1
    obtain ⟨n, h2, h3, rfl⟩ := fIn_nat (by decide) h1 (by decide)
    exact okO_s (show T + n ≤ T + 1000 by omega) h.tmA
  · exact okO_2
theorem ok_sound {T : Nat} {s : Sz} (h : KT T s) (x y : Int32) : okO T (pSound x y s) := by
  unfold pSound
  split
  · rename_i h1
    split
    · rename_i h2
      split
      · exact okO_3
      · obtain ⟨f, hf, rfl⟩ := fSt_nat h1
        obtain ⟨ch, hc, rfl⟩ := fCh_nat h2
        rw [tn5 hf, tn8 hc]
        have hm := fMo_le (ms := nI 31) h.2.1 5 (Nat.le_refl _)
        exact okO_s (show T + fMo (nI 31) s 5 ≤ T + 1000 by omega) (KT.so (h.tmA (d := fMo (nI 31) s 5)) hf hc 5 (Nat.le_refl _))
    · exact okO_2
  · exact okO_2
theorem ok_call {T : Nat} {s rk : Sz} (h : KT T s) (x y : Int32) : okO T (pCall (xCl s rk) x y s) := by
  unfold pCall
  split
  · rename_i h1
    split
    · exact okO_3
    · split
      · exact okO_3
      · obtain ⟨f, t, hf, ht, hft, rfl, rfl⟩ := fPr_nat h1
        rw [tn5 hf, tn5 ht]
        obtain ⟨T', t1, t2, k1⟩ := KT.cx (rk := fRb f t s rk) hf ht 8 (scn s f) (h.up (j := 5) (nI 0) (by omega)) (h.2.1 f hf).2.1
        exact okO_s (show T' ≤ T + 1000 by omega) k1
  · exact okO_2
theorem ok_net {T : Nat} {s rk : Sz} (h : KT T s) (x y : Int32) : okO T (pNet (fun f => frn (fRk y f s rk 8) (scn s f)) x y s) := by
  unfold pNet
  split
  · rename_i h1
    split
    · exact okO_3
    · obtain ⟨f, tm, hf, htm1, htm2, hfm, rfl, rfl⟩ := fNet_nat h1
      rw [tn5 hf]
      have hs := h.2.1 f hf
      obtain ⟨T', t1, t2, k1⟩ := h.nt (ms := nI tm) hf (frn_ok (rk := fRk (nI tm) f s rk 8) hs.2.1 (by omega)).2.1
      exact okO_s (show T' ≤ T + 1000 by omega) k1
  · exact okO_2
theorem ok_hang {T : Nat} {s : Sz} (h : KT T s) (x : Int32) : okO T (pHang x s) := by
  unfold pHang
  split
  · rename_i h1
    split
    · obtain ⟨f, hf, rfl⟩ := fSt_nat h1
      rw [tn5 hf]
      exact okO_s (Nat.le_add_right _ _) (h.hg hf)
    · exact okO_3
  · exact okO_2
theorem pCall_eq {T : Nat} {s rk od rk2 : Sz} (h : KT T s) (hT : T < 2 ^ 30) (x y : Int32) : pCall (mCl s od rk2) x y s = pCall (xCl s rk) x y s := by
  unfold pCall
  split
  · rename_i h1
    obtain ⟨f, t, hf, ht, hft, rfl, rfl⟩ := fPr_nat h1
    rw [tn5 hf, tn5 ht, call_same (od := od) (rk := rk2) (rk' := rk) h hT hf ht]
  · rfl
theorem pNet_eq {T : Nat} {s rk : Sz} (h : KT T s) (hT : T < 2 ^ 30) (x y : Int32) : pNet (fun f => frn (fun ch => fNs (nI 31) y f ch s 5) (scn s f)) x y s = pNet (fun f => frn (fRk y f s rk 8) (scn s f)) x y s := by
  unfold pNet
  split
  · rename_i h1
    obtain ⟨f, tm, hf, htm1, htm2, hfm, rfl, rfl⟩ := fNet_nat h1
    rw [tn5 hf]
    have e : frn (fun ch => fNs (nI 31) (nI tm) f ch s 5) (scn s f) = frn (fRk (nI tm) f s rk 8) (scn s f) := by
      unfold frn
      rw [net_same (rk := rk) h hT hf htm1 htm2]
    simp only [e]
  · rfl
theorem best_eq {T : Nat} {s rk od rk2 : Sz} (h : KT T s) (hT : T < 2 ^ 30) (x y : Int32) : (if fPr x y = true then oI (fFr (fRk (nI 1 <<< (nI (tn y) &&& 31)) (tn x) s rk 8) (s (9 + tn x)) 8) else -2) = (if fPr x y = true then (if (fSc (tn x) (tn y) s od rk2 8).1 = 0 then -1 else (fSc (tn x) (tn y) s od rk2 8).2.1 0) else -2) := by
  split
  · rename_i h1
    obtain ⟨f, t, hf, ht, hft, rfl, rfl⟩ := fPr_nat h1
    rw [tn5 hf, tn5 ht]
    exact (best_same (rk' := rk) h hT hf ht).symm
  · rfl
theorem netc_eq {T : Nat} {s rk : Sz} (h : KT T s) (hT : T < 2 ^ 30) (x y : Int32) : (if fNet x y = true then oI (fFr (fRk y (tn x) s rk 8) (s (9 + tn x)) 8) else -2) = (if fNet x y = true then oI (fFr (fun ch => fNs (nI 31) y (tn x) ch s 5) (s (9 + tn x)) 8) else -2) := by
  split
  · rename_i h1
    obtain ⟨f, tm, hf, htm1, htm2, hfm, rfl, rfl⟩ := fNet_nat h1
    rw [tn5 hf, net_same (rk := rk) h hT hf htm1 htm2]
  · rfl
theorem ec_in (x : Int32) : fIn x (nI 0) (nI 1) = true ↔ x = 0 ∨ x = nI 1 := by
  constructor
  · intro h
    obtain ⟨n, h1, h2, rfl⟩ := fIn_nat (by decide) h (by decide)
    rcases (show n = 0 ∨ n = 1 by omega) with rfl | rfl
    · exact Or.inl rfl
    · exact Or.inr rfl
  · rintro (rfl | rfl) <;> decide
theorem ec_res (x : Int32) (er : Sz) : (if x = 0 then er 0 else if x = nI 1 then er 1 else -2) = (if fIn x (nI 0) (nI 1) = true then er (tn x) else -2) := by
  by_cases h0 : x = 0
  · subst h0; rfl
  · by_cases h1 : x = nI 1
    · subst h1; rfl
    · rw [if_neg h0, if_neg h1, if_neg (fun z => by rcases (ec_in x).mp z with q | q; exact h0 q; exact h1 q)]
theorem ec_iv (x : Int32) (iv : Int32) : (if x = 0 then iv else if x = nI 1 then iv else iv + nI 1) = (if fIn x (nI 0) (nI 1) = true then iv else iv + nI 1) := by
  by_cases h0 : x = 0
  · subst h0; rfl
  · by_cases h1 : x = nI 1
    · subst h1; rfl
    · rw [if_neg h0, if_neg h1, if_neg (fun z => by rcases (ec_in x).mp z with q | q; exact h0 q; exact h1 q)]
theorem cmp_self (x : Int64) : lg_cmp x x = 0 := by
  have : ¬ x < x := by rw [Int64.lt_iff_toInt_lt]; omega
  simp [lg_cmp, this]
