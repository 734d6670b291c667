/-! THE SAME ORDER: the reference sorts the channels once, the class picks the best of those left -/
theorem clr_has {t c d : Nat} (ht : t < 256) (hc : c < 8) (hd : d < 8) : fHas (nI (clr t c)) (nI d) = (fHas (nI t) (nI d) && !decide (d = c)) := by
  rw [← (clr_ok t ht c hc).1, fHas_bt _ (by omega), fHas_bt _ (by omega), b_and, b_xor, bt_bit (by omega) (by omega), b_m1 d (by omega)]
  by_cases h : d = c <;> simp [h]
theorem fRk_at {ms : Int32} {a : Nat} {s rk : Sz} {c : Nat} : ∀ i, fRk ms a s rk i c = if c < i then fNs (nI 30) ms a c s 5 else rk c
  | 0 => by simp [fRk]
  | i + 1 => by
    have ih := fRk_at (ms := ms) (a := a) (s := s) (rk := rk) (c := c) i
    simp only [fRk]
    by_cases h : c = i
    · subst h
      rw [pk_us, if_pos (by omega)]
    · rw [pk_un h, ih]
      by_cases h1 : c < i
      · rw [if_pos h1, if_pos (by omega)]
      · rw [if_neg h1, if_neg (by omega)]
theorem fFr_congr {r1 r2 : Sz} {u : Int32} : ∀ i, (∀ c, c < i → r1 c = r2 c) → fFr r1 u i = fFr r2 u i
  | 0, _ => rfl
  | i + 1, h => by
    have ih := fFr_congr (r1 := r1) (r2 := r2) (u := u) i (fun c hc => h c (by omega))
    simp only [fFr]
    rw [ih]
    cases e : fFr r2 u i with
    | none => rfl
    | some b =>
      have hb := (fFr_lt e).1
      show (if fHas u (nI i) = true then (if r1 i ≤ r1 b then some b else some i) else some b) = (if fHas u (nI i) = true then (if r2 i ≤ r2 b then some b else some i) else some b)
      rw [h i (by omega), h b (by omega)]
/-- b comes before c -/
def bet (R : Nat → Int32) (b c : Nat) : Prop := (R c).toInt < (R b).toInt ∨ ((R b).toInt = (R c).toInt ∧ b < c)
theorem bet_as {R : Nat → Int32} {b c : Nat} (h1 : bet R b c) (h2 : bet R c b) : False := by
  unfold bet at *; omega
theorem bet_tr {R : Nat → Int32} {a b c : Nat} (h1 : bet R a b) (h2 : bet R b c) : bet R a c := by
  unfold bet at *; omega
theorem fFr_best {r : Sz} {u : Int32} : ∀ {i b : Nat}, fFr r u i = some b → ∀ c, c < i → fHas u (nI c) = true → c = b ∨ bet r b c
  | 0, b, h, c, hc, _ => by cases hc
  | i + 1, b, h, c, hc, hh => by
    simp only [fFr] at h
    by_cases hi : fHas u (nI i) = true
    · rw [if_pos hi] at h
      cases e : fFr r u i with
      | none =>
        rw [e] at h
        simp only [Option.some.injEq] at h
        subst h
        by_cases hci : c = i
        · exact Or.inl hci
        · have := fFr_none e c (by omega)
          rw [hh] at this; cases this
      | some b0 =>
        rw [e] at h
        simp only [] at h
        have hb0 := (fFr_lt e).1
        by_cases q : r i ≤ r b0
        · rw [if_pos q] at h
          simp only [Option.some.injEq] at h
          subst h
          by_cases hci : c = i
          · subst hci
            right
            unfold bet
            rw [Int32.le_iff_toInt_le] at q
            omega
          · exact fFr_best e c (by omega) hh
        · rw [if_neg q] at h
          simp only [Option.some.injEq] at h
          subst h
          by_cases hci : c = i
          · exact Or.inl hci
          · right
            have hq := nsg q
            rw [Int32.lt_iff_toInt_lt] at hq
            rcases fFr_best e c (by omega) hh with rfl | h3
            · unfold bet; omega
            · unfold bet at *; omega
    · rw [if_neg hi] at h
      by_cases hci : c = i
      · subst hci; exact absurd hh hi
      · exact fFr_best h c (by omega) hh
theorem insK_spec {rk : Sz} {v : Int32} : ∀ n, (∀ j, insK rk v n ≤ j → j < n → rk j < v) ∧ (insK rk v n = 0 ∨ ¬ rk (insK rk v n - 1) < v)
  | 0 => ⟨fun j _ h => by omega, Or.inl rfl⟩
  | n + 1 => by
    have ih := insK_spec (rk := rk) (v := v) n
    simp only [insK]
    by_cases h : rk n < v
    · rw [if_pos h]
      refine ⟨fun j h1 h2 => ?_, ih.2⟩
      by_cases hj : j = n
      · subst hj; exact h
      · exact ih.1 j h1 (by omega)
    · rw [if_neg h]
      exact ⟨fun j h1 h2 => by omega, Or.inr h⟩
/-- the row of the first n channels, sorted -/
def Srt (R : Nat → Int32) (scan : Int32) (c n : Nat) (od rk : Sz) : Prop := ∃ o : Nat → Nat,
  (∀ j, j < n → od j = nI (o j) ∧ rk j = R (o j) ∧ o j < c ∧ fHas scan (nI (o j)) = true) ∧ (∀ i j, i < j → j < n → bet R (o i) (o j)) ∧ (∀ d, d < c → fHas scan (nI d) = true → ∃ j, j < n ∧ o j = d)
theorem Srt_ins {R : Nat → Int32} {scan : Int32} {c n : Nat} {od rk : Sz} (h : Srt R scan c n od rk) (hc : fHas scan (nI c) = true) : Srt R scan (c + 1) (n + 1) (insA od (insK rk (R c) n) n (nI c)) (insA rk (insK rk (R c) n) n (R c)) := by
  obtain ⟨o, h1, h2, h3⟩ := h
  obtain ⟨g1, g2⟩ := insK_spec (rk := rk) (v := R c) n
  have g3 := insK_le rk (R c) n
  generalize insK rk (R c) n = p at g1 g2 g3 ⊢
  let o' : Nat → Nat := fun j => if j = p then c else if p < j then o (j - 1) else o j
  have hp : o' p = c := if_pos rfl
  have hlt : ∀ j, j < p → o' j = o j := fun j hj => by show (if j = p then c else if p < j then o (j - 1) else o j) = _; rw [if_neg (by omega), if_neg (by omega)]
  have hgt : ∀ j, p < j → o' j = o (j - 1) := fun j hj => by show (if j = p then c else if p < j then o (j - 1) else o j) = _; rw [if_neg (by omega), if_pos hj]
  have low : ∀ j, j < p → bet R (o j) c := by
    intro j hj
    have a1 := h1 j (by omega)
    have a2 := h1 (p - 1) (by omega)
    have e1 : ¬ R (o (p - 1)) < R c := by
      rcases g2 with g2 | g2
      · omega
      · rw [a2.2.1] at g2; exact g2
    rw [Int32.lt_iff_toInt_lt] at e1
    have a3 := a1.2.2.1
    by_cases hj2 : j = p - 1
    · subst hj2; unfold bet; omega
    · have := h2 j (p - 1) (by omega) (by omega)
      unfold bet at *; omega
  have hig : ∀ j, p ≤ j → j < n → bet R c (o j) := by
    intro j hj hjn
    have a1 := h1 j hjn
    have e1 := g1 j hj hjn
    rw [a1.2.1, Int32.lt_iff_toInt_lt] at e1
    unfold bet; omega
  refine ⟨o', ?_, ?_, ?_⟩
  · intro j hj
    rcases Nat.lt_trichotomy j p with q | q | q
    · have a1 := h1 j (by omega)
      rw [hlt j q]
      refine ⟨?_, ?_, by omega, a1.2.2.2⟩
      · unfold insA; rw [pk_un (by omega)]; unfold shf; rw [if_neg (by omega)]; exact a1.1
      · unfold insA; rw [pk_un (by omega)]; unfold shf; rw [if_neg (by omega)]; exact a1.2.1
    · subst q
      rw [hp]
      exact ⟨pk_us, pk_us, by omega, hc⟩
    · have a1 := h1 (j - 1) (by omega)
      rw [hgt j q]
      refine ⟨?_, ?_, by omega, a1.2.2.2⟩
      · unfold insA; rw [pk_un (by omega)]; unfold shf; rw [if_pos (by omega)]; exact a1.1
      · unfold insA; rw [pk_un (by omega)]; unfold shf; rw [if_pos (by omega)]; exact a1.2.1
  · intro i j hij hj
    rcases Nat.lt_trichotomy j p with q | q | q
    · rw [hlt i (by omega), hlt j q]; exact h2 i j hij (by omega)
    · subst q
      rw [hp, hlt i hij]; exact low i hij
    · rw [hgt j q]
      rcases Nat.lt_trichotomy i p with r | r | r
      · rw [hlt i r]; exact h2 i (j - 1) (by omega) (by omega)
      · subst r
        rw [hp]; exact hig (j - 1) (by omega) (by omega)
      · rw [hgt i r]; exact h2 (i - 1) (j - 1) (by omega) (by omega)
  · intro d hd hh
    by_cases hdc : d = c
    · exact ⟨p, by omega, hp.trans hdc.symm⟩
    · obtain ⟨j, hj, e⟩ := h3 d (by omega) hh
      by_cases hjp : j < p
      · exact ⟨j, by omega, (hlt j hjp).trans e⟩
      · exact ⟨j + 1, by omega, by rw [hgt (j + 1) (by omega)]; simpa using e⟩
theorem fSc_srt (a b : Nat) (s od rk : Sz) : ∀ c, Srt (fun c => fEf a b c s) (s (9 + a)) c (fSc a b s od rk c).1 (fSc a b s od rk c).2.1 (fSc a b s od rk c).2.2
  | 0 => ⟨fun _ => 0, fun j hj => absurd hj (Nat.not_lt_zero _), fun i j _ hj => absurd hj (Nat.not_lt_zero _), fun d hd => absurd hd (Nat.not_lt_zero _)⟩
  | c + 1 => by
    have ih := fSc_srt a b s od rk c
    by_cases hh : fHas (s (9 + a)) (nI c) = true
    · simp only [fSc, hh, if_true]
      exact Srt_ins ih hh
    · simp only [fSc, hh]
      obtain ⟨o, h1, h2, h3⟩ := ih
      refine ⟨o, fun j hj => ?_, h2, fun d hd hd2 => ?_⟩
      · have := h1 j hj
        exact ⟨this.1, this.2.1, by omega, this.2.2.2⟩
      · by_cases hdc : d = c
        · subst hdc; exact absurd hd2 hh
        · exact h3 d (by omega) hd2
/-- what is left when the first j have been tried -/
def Lft (o : Nat → Nat) (scan : Int32) (j t : Nat) : Prop := t < 256 ∧ ∀ d, d < 8 → (fHas (nI t) (nI d) = true ↔ fHas scan (nI d) = true ∧ ∀ i, i < j → o i ≠ d)
theorem has_none : ∀ t, t < 256 → (∀ d, d < 8 → fHas (nI t) (nI d) = false) → t = 0 := by
  intro t ht h
  apply Classical.byContradiction
  intro h0
  obtain ⟨c, hc, hh⟩ := List.any_eq_true.mp (bit_ex t ht h0)
  rw [h c (List.mem_range.mp hc)] at hh
  cases hh
theorem zero_has : ∀ d, d < 8 → fHas (nI 0) (nI d) = false := by decide +kernel
theorem pick {R : Nat → Int32} {scan : Int32} {n : Nat} {o : Nat → Nat} {r : Sz} (hr : ∀ c, c < 8 → r c = R c)
    (h1 : ∀ j, j < n → o j < 8 ∧ fHas scan (nI (o j)) = true) (h2 : ∀ i j, i < j → j < n → bet R (o i) (o j)) (h3 : ∀ d, d < 8 → fHas scan (nI d) = true → ∃ j, j < n ∧ o j = d)
    {j t : Nat} (hL : Lft o scan j t) : (j < n → ¬ t = 0 ∧ frn r t = o j ∧ Lft o scan (j + 1) (clr t (o j))) ∧ (n ≤ j → t = 0) := by
  obtain ⟨ht, hm⟩ := hL
  constructor
  · intro hj
    have a1 := h1 j hj
    have hhas : fHas (nI t) (nI (o j)) = true := (hm _ a1.1).mpr ⟨a1.2, fun i hi e => bet_as (by have := h2 i j hi hj; rw [e] at this; exact this) (by have := h2 i j hi hj; rw [e] at this; exact this)⟩
    have h0 : ¬ t = 0 := by
      intro z
      rw [z, zero_has _ a1.1] at hhas
      cases hhas
    obtain ⟨f1, f2, f3⟩ := frn_ok (rk := r) ht h0
    have e : frn r t = o j := by
      have g1 := (hm _ f2).mp f3
      obtain ⟨i, hi, ei⟩ := h3 _ f2 g1.1
      have hij : j ≤ i := by
        rcases Nat.lt_or_ge i j with q | q
        · exact absurd ei (g1.2 i q)
        · exact q
      by_cases hij2 : i = j
      · rw [← ei, hij2]
      · exfalso
        have b1 := h2 j i (by omega) hi
        rw [ei] at b1
        rcases fFr_best f1 (o j) a1.1 hhas with b2 | b2
        · rw [b2] at b1; exact bet_as b1 b1
        · have b3 : bet R (frn r t) (o j) := by
            have e1 := hr _ f2
            have e2 := hr _ a1.1
            unfold bet at b2 ⊢
            rw [e1, e2] at b2
            exact b2
          exact bet_as b1 b3
    refine ⟨h0, e, (clr_ok t ht _ a1.1).2, fun d hd => ?_⟩
    rw [clr_has ht a1.1 hd, Bool.and_eq_true, hm d hd]
    constructor
    · rintro ⟨⟨q1, q2⟩, q3⟩
      refine ⟨q1, fun i hi e2 => ?_⟩
      by_cases hij : i = j
      · subst hij; simp [e2] at q3
      · exact q2 i (by omega) e2
    · rintro ⟨q1, q2⟩
      refine ⟨⟨q1, fun i hi => q2 i (by omega)⟩, ?_⟩
      have := q2 j (by omega)
      simp only [Bool.not_eq_true', decide_eq_false_iff_not]
      exact fun z => this z.symm
  · intro hj
    refine has_none t ht (fun d hd => ?_)
    cases e : fHas (nI t) (nI d)
    · rfl
    · exfalso
      have g := (hm d hd).mp e
      obtain ⟨i, hi, ei⟩ := h3 d hd g.1
      exact g.2 i (by omega) ei
theorem same_call {a b : Nat} {R : Nat → Int32} {scan : Int32} {n : Nat} {o ol : Nat → Nat} {r : Sz} (hr : ∀ c, c < 8 → r c = R c) (hol : ∀ j, j < n → ol j = o j)
    (h1 : ∀ j, j < n → o j < 8 ∧ fHas scan (nI (o j)) = true) (h2 : ∀ i j, i < j → j < n → bet R (o i) (o j)) (h3 : ∀ d, d < 8 → fHas scan (nI d) = true → ∃ j, j < n ∧ o j = d) :
    ∀ (k j f t : Nat) (s : Sz), n = j + k → k ≤ f → Lft o scan j t → fCx a b r f t s = fCl a b ol k j s
  | 0, j, f, t, s, hn, hf, hL => by
    have := (pick hr h1 h2 h3 hL).2 (by omega)
    rw [fCx_0 (Or.inr this)]
    rfl
  | k + 1, j, f, t, s, hn, hf, hL => by
    obtain ⟨h0, e, hL2⟩ := (pick hr h1 h2 h3 hL).1 (by omega)
    obtain ⟨f', rfl⟩ : ∃ f', f = f' + 1 := ⟨f - 1, by omega⟩
    simp only [fCx, fCl, if_neg h0]
    rw [e, hol j (by omega)]
    split
    · rfl
    · exact same_call hr hol h1 h2 h3 k (j + 1) f' _ _ (by omega) (by omega) hL2
