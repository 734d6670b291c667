/-! stations: scan sets, links, what is heard -/
theorem ln_max {a b : Nat} (h : a < 2 ^ 31 ∧ b < 2 ^ 31) : (if nI a < nI b then nI b else nI a) = nI (max a b) := by
  by_cases q : a < b
  · rw [if_pos ((nI_ltI h.1 h.2).mpr q), Nat.max_eq_right (Nat.le_of_lt q)]
  · rw [if_neg (fun z => q ((nI_ltI h.1 h.2).mp z)), Nat.max_eq_left (by omega)]
def scn (s : Sz) (k : Nat) : Nat := (s (9 + k)).toNatClampNeg
def IvS (s : Sz) : Prop := ∀ k, k < 5 → 1 ≤ scn s k ∧ scn s k < 256 ∧ s (9 + k) = nI (scn s k)
theorem c_bcN (l : Launch) (D : va_G) (cI cN : ClassId) (t : Nat) (ht : t < 256) : Fn l D cI cN yJ6_bitCount_0f7a4 wsJ6_bitCount_0f7a4 0 [] [.int (nI t)] (some (.int (nI (cnt t)))) [] := by
  rw [← fBc_cnt t ht]
  exact c_J6_bitCount_0f7a4 l D cI cN (nI t)
theorem fTx_out {w q : Int32} {s : Sz} {j : Nat} (h : j ≠ 1 ∧ j ≠ 3 ∧ j ≠ 7 ∧ j ≠ 8) : fTx w q s j = s j := by
  unfold fTx
  rw [pk_un h.2.2.2, pk_un h.2.2.1, pk_un h.2.1, fT3_out w q s h.1]
theorem fTr_out {kd f t mt ch : Nat} {s : Sz} {j : Nat} (h : j = 0 ∨ j = 2 ∨ j = 5 ∨ j = 6 ∨ (9 ≤ j ∧ j < 224)) : (fTr kd f t mt ch s).2 j = s j := by
  unfold fTr
  split
  · show fTy _ _ _ _ _ _ j = s j
    unfold fTy
    rw [pk_un (by omega), pk_un (by omega), pk_un (by omega), fTx_out (by omega)]
  · exact fTx_out (by omega)
theorem fTr_nn {kd f t mt ch : Nat} {s : Sz} (h : fNn s) : fNn (fTr kd f t mt ch s).2 := by
  have h1 : fNn (fTx (nI (fTw kd f mt)) (s (24 + fAt f t ch)) s) := by
    unfold fTx fNn
    rw [pk_un (by decide), pk_un (by decide), pk_un (by decide)]
    exact (fTs_nn h).2.2
  unfold fTr
  split
  · show fNn (fTy _ _ _ _ _ _)
    unfold fTy fNn
    rw [pk_un (by omega), pk_un (by omega), pk_un (by omega)]
    exact h1
  · exact h1
theorem IvS_of {s s' : Sz} (h : IvS s) (e : ∀ k, k < 5 → s' (9 + k) = s (9 + k)) : IvS s' := by
  intro k hk
  have := h k hk
  unfold scn at *
  rw [e k hk]
  exact this
theorem IvS_tr {kd f t mt ch : Nat} {s : Sz} (h : IvS s) : IvS (fTr kd f t mt ch s).2 := IvS_of h (fun _ _ => fTr_out (by omega))
theorem IvS_upd {s : Sz} {j : Nat} {x : Int32} (h : IvS s) (hj : j < 9 ∨ 14 ≤ j) : IvS (upd s j x) := IvS_of h (fun _ _ => pk_un (by omega))
theorem nn_upd {s : Sz} {j : Nat} {x : Int32} (h : fNn s) (hj : j ≠ 1) : fNn (upd s j x) := by
  unfold fNn
  rw [pk_un (by omega)]
  exact h
theorem scn_upd {s : Sz} {j k : Nat} {x : Int32} (hj : j < 9 ∨ 14 ≤ j) (hk : k < 5) : scn (upd s j x) k = scn s k := by
  unfold scn
  rw [pk_un (by omega)]
theorem scn_tr {kd f t mt ch k : Nat} {s : Sz} (hk : k < 5) : scn (fTr kd f t mt ch s).2 k = scn s k := by
  unfold scn
  rw [fTr_out (by omega)]
theorem cnt_le (t : Nat) (h : t < 256) : cnt t ≤ 8 := (cnt_ok t h).2.1
def fLk (s : Sz) (k : Nat) : Bool := !decide (s (14 + k) = 0)
def fHe (s : Sz) (k c : Nat) : Bool := !fLk s k && fHas (s (9 + k)) (nI c)
def fMo (ms : Int32) (s : Sz) : Nat → Nat
  | 0 => 0
  | i + 1 => if fHas ms (nI i) = true then max (fMo ms s i) (cnt (scn s i)) else fMo ms s i
theorem fMo_le {ms : Int32} {s : Sz} (h : IvS s) : ∀ i, i ≤ 5 → fMo ms s i ≤ 8
  | 0, _ => Nat.zero_le _
  | i + 1, hi => by
    have h1 := fMo_le (ms := ms) h i (by omega)
    have h2 := cnt_le _ (h i (by omega)).2.1
    simp only [fMo]
    split <;> omega
def fJn (set x : Int32) (s : Sz) : Nat → Sz
  | 0 => s
  | i + 1 => if fHas set (nI i) = true then upd (upd (fJn set x s i) (14 + i) set) (19 + i) x else fJn set x s i
def fLv (k : Nat) (s : Sz) : Sz := upd (upd s (14 + k) (nI 0)) (19 + k) (-1)
/-- one attempt of a call -/
def fAm (a b c : Nat) (s : Sz) : Bool × Sz :=
  if fHas (s (9 + b)) (nI c) = true then
    if (fTr 2 a b b c (upd s 0 (s 0 + nI (cnt (scn s b))))).1 = true then
      if (fTr 3 b a a c (upd (fTr 2 a b b c (upd s 0 (s 0 + nI (cnt (scn s b))))).2 0 (s 0 + nI (cnt (scn s b)) + nI 1))).1 = true then fTr 4 a b b c (upd (fTr 3 b a a c (upd (fTr 2 a b b c (upd s 0 (s 0 + nI (cnt (scn s b))))).2 0 (s 0 + nI (cnt (scn s b)) + nI 1))).2 0 (s 0 + nI (cnt (scn s b)) + nI 1 + nI 1))
      else (false, (fTr 3 b a a c (upd (fTr 2 a b b c (upd s 0 (s 0 + nI (cnt (scn s b))))).2 0 (s 0 + nI (cnt (scn s b)) + nI 1))).2)
    else (false, (fTr 2 a b b c (upd s 0 (s 0 + nI (cnt (scn s b))))).2)
  else (false, upd s 0 (s 0 + nI (cnt (scn s b))))
/-- a member's part in a net call -/
def fAn (a k c : Nat) (s : Sz) : Bool × Sz :=
  if fHas (s (9 + k)) (nI c) = true then
    if fLk s k = true then (false, s) else
      if (fTr 2 a k 255 c s).1 = true then fTr 3 k a a c (upd (fTr 2 a k 255 c s).2 0 (s 0 + nI 1))
      else (false, (fTr 2 a k 255 c s).2)
  else (false, s)
def IvA (s : Sz) : Prop := 1 ≤ (s 2).toInt
theorem IvA.ne {s : Sz} (h : IvA s) : ¬ s 2 = 0 := by
  intro z
  unfold IvA at h
  rw [z] at h
  exact absurd h (by decide)
theorem IvA.ge {s : Sz} (h : IvA s) : nI 1 ≤ s 2 := by
  have z : (nI 1).toInt = 1 := by decide
  rw [Int32.le_iff_toInt_le, z]
  exact h
/-- the channel on which a station listens: the r-th of its set -/
def rkc (t : Nat) : Nat → Nat
  | 0 => 0
  | c + 1 => rkc t c + (if fHas (nI t) (nI c) = true then 1 else 0)
def nth (t r : Nat) : Nat := ((List.range 8).filter (fun c => fHas (nI t) (nI c))).getD r 0
def nthB (t r : Nat) : Bool := decide (nth t r < 8) && fHas (nI t) (nI (nth t r)) && decide (rkc t (nth t r) = r) && (List.range 8).all (fun c => !decide (c < nth t r) || (decide (rkc t c ≤ r) && (!fHas (nI t) (nI c) || decide (rkc t c < r))))
theorem nthB_ok : ∀ t, t < 256 → (List.range (cnt t)).all (fun r => nthB t r) = true := by decide +kernel
theorem nth_ok {t r : Nat} (ht : t < 256) (hr : r < cnt t) : nth t r < 8 ∧ fHas (nI t) (nI (nth t r)) = true ∧ rkc t (nth t r) = r ∧ ∀ c, c < nth t r → rkc t c ≤ r ∧ (fHas (nI t) (nI c) = true → rkc t c < r) := by
  have h := List.all_eq_true.mp (nthB_ok t ht) r (List.mem_range.mpr hr)
  simp only [nthB, Bool.and_eq_true, decide_eq_true_eq] at h
  obtain ⟨⟨⟨h1, h2⟩, h3⟩, h4⟩ := h
  refine ⟨h1, h2, h3, fun c hc => ?_⟩
  have h5 := List.all_eq_true.mp h4 c (List.mem_range.mpr (by omega))
  simp only [Bool.or_eq_true, Bool.not_eq_true', decide_eq_false_iff_not, Bool.and_eq_true, decide_eq_true_eq] at h5
  rcases h5 with h5 | ⟨h5, h6⟩
  · exact absurd hc h5
  · refine ⟨h5, fun z => ?_⟩
    rcases h6 with h6 | h6
    · rw [z] at h6; cases h6
    · exact h6
def fLs (t m : Nat) : Nat := nth t (m % cnt t)
theorem nI_m1 {x : Nat} (h : ¬ x = 0) : nI x + Int32.ofInt (-1) = nI (x - 1) := by
  obtain ⟨y, rfl⟩ : ∃ y, x = y + 1 := ⟨x - 1, by omega⟩
  exact pk_m1 y
theorem nI_sub' {a b : Nat} (h : b ≤ a) : nI a - nI b = nI (a - b) := pk_sub h
theorem ls_lt {t r c : Nat} (ht : t < 256) (hr : r < cnt t) (hc : c ≤ nth t r) (h : fHas (nI t) (nI c) = false ∨ ¬ r - rkc t c = 0) : c < nth t r := by
  obtain ⟨h1, h2, h3, h4⟩ := nth_ok ht hr
  rcases Nat.lt_or_ge c (nth t r) with q | q
  · exact q
  · have : c = nth t r := by omega
    subst this
    rcases h with h | h
    · rw [h2] at h; cases h
    · omega
theorem ls_eq {t r c : Nat} (ht : t < 256) (hr : r < cnt t) (hc : c ≤ nth t r) (h1 : fHas (nI t) (nI c) = true) (h2 : r - rkc t c = 0) : c = nth t r := by
  obtain ⟨-, -, -, h4⟩ := nth_ok ht hr
  rcases Nat.lt_or_ge c (nth t r) with q | q
  · have := (h4 c q).2 h1; omega
  · omega
theorem ls_a {t r c : Nat} (h1 : fHas (nI t) (nI c) = true) (h2 : ¬ r - rkc t c = 0) : nI (r - rkc t c) - nI 1 = nI (r - rkc t (c + 1)) := by
  rw [pk_sub (by omega)]
  simp only [rkc, h1, if_true]
  exact congrArg nI (by omega)
theorem ls_b {t r c : Nat} (h1 : fHas (nI t) (nI c) = false) : nI (r - rkc t c) - nI 0 = nI (r - rkc t (c + 1)) := by
  rw [pk_sub (by omega)]
  simp [rkc, h1]
theorem ls_c {t r c : Nat} (h1 : fHas (nI t) (nI c) = true) : r - rkc t c - 1 = r - rkc t (c + 1) := by
  simp only [rkc, h1, if_true]
  omega
theorem ls_d {t r c : Nat} (h1 : fHas (nI t) (nI c) = false) : r - rkc t c = r - rkc t (c + 1) := by
  simp [rkc, h1]
def tmN (s : Sz) : Nat := (s 0).toNatClampNeg
def IvT (s : Sz) : Prop := s 0 = nI (tmN s) ∧ tmN s < 2 ^ 30
theorem cnt_pos {t : Nat} (h1 : 1 ≤ t) (h : t < 256) : 1 ≤ cnt t := (cnt_ok t h).2.2 h1
theorem xor_nn {a b : Nat} (ha : a < 2 ^ 31) (hb : b < 2 ^ 31) : 0 ≤ nI a ^^^ nI b := by
  rw [nx_xor]
  exact nI_pos' (Nat.xor_lt_two_pow ha hb)
theorem fEf_a {f t ch : Nat} {s : Sz} (h : s (224 + fAt f t ch) = -1) : -1 = fEf f t ch s := by
  unfold fEf
  rw [if_pos h]
theorem fEf_b {f t ch : Nat} {s : Sz} (h : ¬ s (224 + fAt f t ch) = -1) (h2 : s (224 + fAt f t ch) - (s 0 - s (424 + fAt f t ch)) / s 2 ≤ 0) : nI 0 = fEf f t ch s := by
  unfold fEf
  rw [if_neg h, if_neg]
  rw [Int32.lt_iff_toInt_lt]; rw [Int32.le_iff_toInt_le] at h2; omega
theorem fEf_c {f t ch : Nat} {s : Sz} (h : ¬ s (224 + fAt f t ch) = -1) (h2 : ¬ s (224 + fAt f t ch) - (s 0 - s (424 + fAt f t ch)) / s 2 ≤ 0) : s (224 + fAt f t ch) - (s 0 - s (424 + fAt f t ch)) / s 2 = fEf f t ch s := by
  unfold fEf
  rw [if_neg h, if_pos]
  rw [Int32.lt_iff_toInt_lt]; rw [Int32.le_iff_toInt_le] at h2; omega
theorem fEf_d {f t ch : Nat} {s : Sz} (h : ¬ s (224 + fAt f t ch) = -1) : (if nI 0 < s (224 + fAt f t ch) - (s 0 - s (424 + fAt f t ch)) / s 2 then s (224 + fAt f t ch) - (s 0 - s (424 + fAt f t ch)) / s 2 else nI 0) = fEf f t ch s := by
  unfold fEf
  rw [if_neg h]
  rfl
/-- the net score; z is the number from which the least is sought -/
def fNs (z ms : Int32) (a c : Nat) (s : Sz) : Nat → Int32
  | 0 => z
  | i + 1 => if fHas ms (nI i) = true then (if fEf a i c s < fNs z ms a c s i then fEf a i c s else fNs z ms a c s i) else fNs z ms a c s i
theorem nsl {x y : Int32} (h : x ≤ y) : ¬ y < x := by
  rw [Int32.lt_iff_toInt_lt]; rw [Int32.le_iff_toInt_le] at h; omega
theorem nsg {x y : Int32} (h : ¬ x ≤ y) : y < x := by
  rw [Int32.lt_iff_toInt_lt]; rw [Int32.le_iff_toInt_le] at h; omega
theorem fNs_le (z ms : Int32) (a c : Nat) (s : Sz) : ∀ i, fNs z ms a c s i ≤ z
  | 0 => by rw [Int32.le_iff_toInt_le]; exact Int.le_refl _
  | i + 1 => by
    have ih := fNs_le z ms a c s i
    simp only [fNs]
    split
    · split
      · rename_i h; rw [Int32.le_iff_toInt_le] at *; rw [Int32.lt_iff_toInt_lt] at h; omega
      · exact ih
    · exact ih
def fRk (ms : Int32) (a : Nat) (s rk : Sz) : Nat → Sz
  | 0 => rk
  | i + 1 => upd (fRk ms a s rk i) i (fNs (nI 30) ms a i s 5)
def oI (o : Option Nat) : Int32 := match o with
  | none => -1
  | some b => nI b
def fFr (rk : Sz) (u : Int32) : Nat → Option Nat
  | 0 => none
  | c + 1 => if fHas u (nI c) = true then (match fFr rk u c with
    | none => some c
    | some b => if rk c ≤ rk b then some b else some c) else fFr rk u c
theorem fFr_lt {rk : Sz} {u : Int32} : ∀ {i b : Nat}, fFr rk u i = some b → b < i ∧ fHas u (nI b) = true
  | 0, b, h => by cases h
  | i + 1, b, h => by
    simp only [fFr] at h
    split at h
    · rename_i hh
      cases e : fFr rk u i with
      | none => rw [e] at h; simp only [Option.some.injEq] at h; subst h; exact ⟨by omega, hh⟩
      | some b0 =>
        rw [e] at h
        simp only [] at h
        have := fFr_lt e
        split at h
        · simp only [Option.some.injEq] at h; subst h; exact ⟨by omega, this.2⟩
        · simp only [Option.some.injEq] at h; subst h; exact ⟨by omega, hh⟩
    · have := fFr_lt h
      exact ⟨by omega, this.2⟩
theorem fFr_n {rk : Sz} {u : Int32} {c : Nat} (h : fHas u (nI c) = true) (e : none = fFr rk u c) : some c = fFr rk u (c + 1) := by
  simp only [fFr, h, if_true, ← e]
theorem fFr_s {rk : Sz} {u : Int32} {b c : Nat} (h : fHas u (nI c) = true) (e : some b = fFr rk u c) (q : ¬ rk c ≤ rk b) : some c = fFr rk u (c + 1) := by
  simp only [fFr, h, if_true, ← e, if_neg q]
theorem fFr_k {rk : Sz} {u : Int32} {b c : Nat} (h : fHas u (nI c) = true) (e : some b = fFr rk u c) (q : rk c ≤ rk b) : some b = fFr rk u (c + 1) := by
  simp only [fFr, h, if_true, ← e, if_pos q]
theorem fFr_0 {rk : Sz} {u : Int32} {o : Option Nat} {c : Nat} (h : fHas u (nI c) = false) (e : o = fFr rk u c) : o = fFr rk u (c + 1) := by
  simp [fFr, h, ← e]
theorem nI_nm1 {b : Nat} (h : b < 2 ^ 31) : ¬ nI b = -1 := by
  intro q
  have h1 := congrArg Int32.toInt q
  rw [nI_toInt h] at h1
  have : (-1 : Int32).toInt = -1 := by decide
  omega
def fIx (cd : Int32) : Nat := if cd = -2 then 0 else 1
theorem fIx_e {cd : Int32} (h : cd = -2 ∨ cd = -3) : -2 - cd = nI (fIx cd) ∧ fIx cd < 2 := by
  rcases h with rfl | rfl <;> decide
