/-! the row of saved states; soundings; orders of channels; calls; net calls; hanging up -/
theorem fAm_out {a b c : Nat} {s : Sz} {j : Nat} (h : j = 2 ∨ j = 5 ∨ j = 6 ∨ (9 ≤ j ∧ j < 224)) : (fAm a b c s).2 j = s j := by
  unfold fAm
  split
  · split
    · split
      · rw [fTr_out (by omega), pk_un (by omega), fTr_out (by omega), pk_un (by omega), fTr_out (by omega), pk_un (by omega)]
      · show (fTr _ _ _ _ _ _).2 j = _
        rw [fTr_out (by omega), pk_un (by omega), fTr_out (by omega), pk_un (by omega)]
    · show (fTr _ _ _ _ _ _).2 j = _
      rw [fTr_out (by omega), pk_un (by omega)]
  · show upd _ _ _ j = _
    rw [pk_un (by omega)]
theorem fAm_nn {a b c : Nat} {s : Sz} (h : fNn s) : fNn (fAm a b c s).2 := by
  unfold fAm
  split
  · split
    · split
      · exact fTr_nn (nn_upd (fTr_nn (nn_upd (fTr_nn (nn_upd h (by decide))) (by decide))) (by decide))
      · exact fTr_nn (nn_upd (fTr_nn (nn_upd h (by decide))) (by decide))
    · exact fTr_nn (nn_upd h (by decide))
  · exact nn_upd h (by decide)
theorem fAn_out {a b c : Nat} {s : Sz} {j : Nat} (h : j = 2 ∨ j = 5 ∨ j = 6 ∨ (9 ≤ j ∧ j < 224)) : (fAn a b c s).2 j = s j := by
  unfold fAn
  split
  · split
    · rfl
    · split
      · rw [fTr_out (by omega), pk_un (by omega), fTr_out (by omega)]
      · show (fTr _ _ _ _ _ _).2 j = _
        rw [fTr_out (by omega)]
  · rfl
theorem fAn_nn {a b c : Nat} {s : Sz} (h : fNn s) : fNn (fAn a b c s).2 := by
  unfold fAn
  split
  · split
    · exact h
    · split
      · exact fTr_nn (nn_upd (fTr_nn h) (by decide))
      · exact fTr_nn h
  · exact h
theorem fLk_of {s s' : Sz} {k : Nat} (e : s' (14 + k) = s (14 + k)) : fLk s' k = fLk s k := by unfold fLk; rw [e]
theorem fHe_of {s s' : Sz} {k c : Nat} (e1 : s' (14 + k) = s (14 + k)) (e2 : s' (9 + k) = s (9 + k)) : fHe s' k c = fHe s k c := by unfold fHe fLk; rw [e1, e2]
-- saved states
def fSh (f : Sz) (i : Nat) : Sz := fun k => if k < i then f (k + 624) else f k
theorem fSh_s {f : Sz} {i : Nat} : upd (fSh f i) i (fSh f i (i + 624)) = fSh f (i + 1) := by
  funext k
  unfold fSh upd
  by_cases h : k = i
  · subst h; simp; intro h; omega
  · by_cases h1 : k < i
    · simp [h, h1, show k < i + 1 by omega]
    · simp [h, h1, show ¬ k < i + 1 by omega]
theorem fSh_0 {f : Sz} : fSh f 0 = f := by funext k; simp [fSh]
def fCy (f : Sz) (o : Nat) (g : Sz) (i : Nat) : Sz := fun k => if o ≤ k ∧ k < o + i then f (k - o) else g k
theorem fCy_s {f g : Sz} {o i : Nat} : upd (fCy f o g i) (o + i) (f i) = fCy f o g (i + 1) := by
  funext k
  by_cases h : k = o + i
  · subst h
    show (if o + i = o + i then f i else _) = (if o ≤ o + i ∧ o + i < o + (i + 1) then f (o + i - o) else _)
    rw [if_pos rfl, if_pos (by omega), Nat.add_sub_cancel_left]
  · rw [pk_un h]
    unfold fCy
    by_cases h1 : o ≤ k ∧ k < o + i
    · rw [if_pos h1, if_pos (by omega)]
    · rw [if_neg h1, if_neg (by omega)]
theorem fCy_0 {f g : Sz} {o : Nat} : fCy f o g 0 = g := by
  funext k
  unfold fCy
  rw [if_neg (by omega)]
def fNn0 (np : Nat) : Nat := if np = 4 then 3 else np
def fNp (pst s : Sz) (np : Nat) : Sz := fCy s (624 * fNn0 np) (if np = 4 then fSh pst 1872 else pst) 624
-- soundings
def fSo (k c : Nat) (s0 : Sz) : Nat → Int32 × Sz
  | 0 => (nI 0, s0)
  | i + 1 => if i = k then fSo k c s0 i else if fHe (fSo k c s0 i).2 i c = true then
      (if (fTr 1 k i 255 c (fSo k c s0 i).2).1 = true then (fSo k c s0 i).1 ||| (nI 1 <<< (nI i &&& 31)) else (fSo k c s0 i).1, (fTr 1 k i 255 c (fSo k c s0 i).2).2) else fSo k c s0 i
def fS0 (s : Sz) : Sz := upd s 0 (s 0 + nI (fMo (nI 31) s 5))
def fSm (k c : Nat) (hm : Int32) (s0 : Sz) : Nat → Int32 × Sz
  | 0 => (nI 0, s0)
  | i + 1 => if fHas hm (nI i) = true then
      (if (fTr 1 k i 255 c (fSm k c hm s0 i).2).1 = true then (fSm k c hm s0 i).1 ||| (nI 1 <<< (nI i &&& 31)) else (fSm k c hm s0 i).1, (fTr 1 k i 255 c (fSm k c hm s0 i).2).2) else fSm k c hm s0 i
theorem fSm_nn {k c : Nat} {hm : Int32} {s0 : Sz} (h : fNn s0) : ∀ i, fNn (fSm k c hm s0 i).2
  | 0 => h
  | i + 1 => by
    have ih := fSm_nn (k := k) (c := c) (hm := hm) h i
    simp only [fSm]
    split
    · exact fTr_nn ih
    · exact ih
theorem fSo_out {k c : Nat} {s0 : Sz} {j : Nat} (h : 9 ≤ j ∧ j < 224) : ∀ i, (fSo k c s0 i).2 j = s0 j
  | 0 => rfl
  | i + 1 => by
    have ih := fSo_out (k := k) (c := c) (s0 := s0) h i
    simp only [fSo]
    split
    · exact ih
    · split
      · show (fTr _ _ _ _ _ _).2 j = _
        rw [fTr_out (by omega), ih]
      · exact ih
def fHa (k c : Nat) (s : Sz) (T i t : Nat) : Bool := !decide (i = k) && (!fLk s i && decide (fLs (scn s i) (T + t) = c))
def fHi (k c : Nat) (s : Sz) (T i : Nat) (acc : Int32) : Nat → Int32
  | 0 => acc
  | t + 1 => fHi k c s T i acc t ||| (if fHa k c s T i t = true then nI 1 <<< (nI i &&& 31) else nI 0)
def fHo (k c : Nat) (s : Sz) (T n : Nat) : Nat → Int32
  | 0 => nI 0
  | i + 1 => fHi k c s T i (fHo k c s T n i) n
def fHm (k c : Nat) (s : Sz) : Int32 := fHo k c s (tmN s) (fMo (nI 31) s 5) 5
-- the sorted row of channels
def insK (rk : Sz) (v : Int32) : Nat → Nat
  | 0 => 0
  | k + 1 => if rk k < v then insK rk v k else k + 1
def shf (f : Sz) (k n : Nat) : Sz := fun j => if k < j ∧ j ≤ n then f (j - 1) else f j
def insA (f : Sz) (p n : Nat) (v : Int32) : Sz := upd (shf f p n) p v
theorem shf_0 {f : Sz} {n : Nat} : shf f n n = f := by
  funext j
  unfold shf
  rw [if_neg (by omega)]
theorem shf_rd {f : Sz} {k n : Nat} : shf f k n (k - 1) = f (k - 1) := by
  unfold shf
  rw [if_neg (by omega)]
theorem shf_s {f : Sz} {k n : Nat} (h0 : ¬ k = 0) (h : k ≤ n) : upd (shf f k n) k (f (k - 1)) = shf f (k - 1) n := by
  funext j
  by_cases h1 : j = k
  · subst h1
    rw [pk_us]
    unfold shf
    rw [if_pos (by omega)]
  · rw [pk_un h1]
    unfold shf
    by_cases h2 : k < j ∧ j ≤ n
    · rw [if_pos h2, if_pos (by omega)]
    · rw [if_neg h2, if_neg (by omega)]
theorem insK_le (rk : Sz) (v : Int32) : ∀ k, insK rk v k ≤ k
  | 0 => Nat.le_refl _
  | k + 1 => by
    have := insK_le rk v k
    simp only [insK]
    split <;> omega
theorem insK_s {rk : Sz} {v : Int32} {k : Nat} (h0 : ¬ k = 0) (h : ¬ v ≤ rk (k - 1)) : insK rk v k = insK rk v (k - 1) := by
  obtain ⟨j, rfl⟩ : ∃ j, k = j + 1 := ⟨k - 1, by omega⟩
  simp only [insK, Nat.add_sub_cancel] at *
  rw [if_pos (nsg h)]
theorem insK_e {rk : Sz} {v : Int32} {k : Nat} (h : k = 0 ∨ v ≤ rk (k - 1)) : insK rk v k = k := by
  rcases h with rfl | h
  · rfl
  · cases k with
    | zero => rfl
    | succ j =>
      simp only [insK, Nat.add_sub_cancel] at *
      rw [if_neg (nsl h)]
def fSc (a b : Nat) (s od rk : Sz) : Nat → Nat × Sz × Sz
  | 0 => (0, od, rk)
  | c + 1 => if fHas (s (9 + a)) (nI c) = true then
      ((fSc a b s od rk c).1 + 1, insA (fSc a b s od rk c).2.1 (insK (fSc a b s od rk c).2.2 (fEf a b c s) (fSc a b s od rk c).1) (fSc a b s od rk c).1 (nI c),
       insA (fSc a b s od rk c).2.2 (insK (fSc a b s od rk c).2.2 (fEf a b c s) (fSc a b s od rk c).1) (fSc a b s od rk c).1 (fEf a b c s)) else fSc a b s od rk c
theorem fSc_le (a b : Nat) (s od rk : Sz) : ∀ c, (fSc a b s od rk c).1 ≤ c
  | 0 => Nat.le_refl _
  | c + 1 => by
    have := fSc_le a b s od rk c
    simp only [fSc]
    split
    · show _ + 1 ≤ _; omega
    · omega
theorem insA_nat {f : Sz} {p n v : Nat} {P : Nat → Prop} (hp : p ≤ n) (h : ∀ j, j < n → ∃ x, P x ∧ f j = nI x) (hv : P v) : ∀ j, j < n + 1 → ∃ x, P x ∧ insA f p n (nI v) j = nI x := by
  intro j hj
  unfold insA
  by_cases h1 : j = p
  · subst h1; exact ⟨v, hv, pk_us⟩
  · rw [pk_un h1]
    unfold shf
    by_cases h2 : p < j ∧ j ≤ n
    · rw [if_pos h2]; exact h _ (by omega)
    · rw [if_neg h2]; exact h _ (by omega)
theorem fSc_nat (a b : Nat) (s od rk : Sz) : ∀ c, c ≤ 8 → ∀ j, j < (fSc a b s od rk c).1 → ∃ x, (x < 8 ∧ fHas (s (9 + a)) (nI x) = true) ∧ (fSc a b s od rk c).2.1 j = nI x
  | 0, _, j, hj => by cases hj
  | c + 1, hc, j, hj => by
    have ih := fSc_nat a b s od rk c (by omega)
    by_cases hh : fHas (s (9 + a)) (nI c) = true
    · simp only [fSc, hh, if_true] at hj ⊢
      exact insA_nat (P := fun x => x < 8 ∧ fHas (s (9 + a)) (nI x) = true) (insK_le _ _ _) ih ⟨by omega, hh⟩ j hj
    · simp only [fSc, hh] at hj ⊢
      exact ih j hj
/-- the order of a call, as natural numbers -/
def fOl (a b : Nat) (s od rk : Sz) (j : Nat) : Nat := ((fSc a b s od rk 8).2.1 j).toNatClampNeg
theorem fOl_ok {a b : Nat} {s od rk : Sz} {j : Nat} (hj : j < (fSc a b s od rk 8).1) : (fSc a b s od rk 8).2.1 j = nI (fOl a b s od rk j) ∧ fOl a b s od rk j < 8 := by
  obtain ⟨x, ⟨h1, -⟩, h2⟩ := fSc_nat a b s od rk 8 (Nat.le_refl _) j hj
  have e : fOl a b s od rk j = x := by unfold fOl; rw [h2, nI_clamp (by omega)]
  rw [e]
  exact ⟨h2, h1⟩
-- calls
def bit2 (a b : Nat) : Int32 := (nI 1 <<< (nI a &&& 31)) ||| (nI 1 <<< (nI b &&& 31))
def fC1 (c : Nat) (s : Sz) : Sz := upd (upd s 5 (s 5 + nI 1)) 6 (nI c)
def fCl (a b : Nat) (ol : Nat → Nat) : Nat → Nat → Sz → Int32 × Sz
  | 0, _, s => (-1, s)
  | f + 1, j, s => if (fAm a b (ol j) (fC1 (ol j) s)).1 = true then (nI (ol j), fJn (bit2 a b) (nI (ol j)) (fAm a b (ol j) (fC1 (ol j) s)).2 5) else fCl a b ol f (j + 1) (fAm a b (ol j) (fC1 (ol j) s)).2
theorem fC1_out {c : Nat} {s : Sz} {j : Nat} (h : j ≠ 5 ∧ j ≠ 6) : fC1 c s j = s j := by
  unfold fC1
  rw [pk_un h.2, pk_un h.1]
def clr (t c : Nat) : Nat := (nI t &&& ((nI 1 <<< (nI c &&& 31)) ^^^ (-1))).toNatClampNeg
theorem clr_ok : ∀ t, t < 256 → ∀ c, c < 8 → nI t &&& ((nI 1 <<< (nI c &&& 31)) ^^^ (-1)) = nI (clr t c) ∧ clr t c < 256 := by decide +kernel
theorem clr32 : ∀ t, t < 32 → ∀ c, c < 8 → clr t c < 32 := by decide +kernel
theorem fFr_none {rk : Sz} {u : Int32} : ∀ {i : Nat}, fFr rk u i = none → ∀ c, c < i → fHas u (nI c) = false
  | 0, _, c, hc => by cases hc
  | i + 1, h, c, hc => by
    simp only [fFr] at h
    by_cases hh : fHas u (nI i) = true
    · simp only [hh, if_true] at h
      cases e : fFr rk u i with
      | none => rw [e] at h; cases h
      | some b =>
        rw [e] at h
        simp only [] at h
        split at h <;> cases h
    · simp only [hh] at h
      by_cases hci : c = i
      · subst hci; simpa using hh
      · exact fFr_none (by simpa using h) c (by omega)
def frn (rk : Sz) (t : Nat) : Nat := (fFr rk (nI t) 8).getD 0
theorem bit_ex : ∀ t, t < 256 → ¬ t = 0 → (List.range 8).any (fun c => fHas (nI t) (nI c)) = true := by decide +kernel
theorem frn_ok {rk : Sz} {t : Nat} (ht : t < 256) (h0 : ¬ t = 0) : fFr rk (nI t) 8 = some (frn rk t) ∧ frn rk t < 8 ∧ fHas (nI t) (nI (frn rk t)) = true := by
  cases e : fFr rk (nI t) 8 with
  | none =>
    obtain ⟨c, hc, hh⟩ := List.any_eq_true.mp (bit_ex t ht h0)
    have := fFr_none e c (List.mem_range.mp hc)
    rw [this] at hh
    cases hh
  | some b =>
    have h1 := fFr_lt e
    have e2 : frn rk t = b := by unfold frn; rw [e]; rfl
    rw [e2]
    exact ⟨rfl, h1⟩
def fCx (a b : Nat) (rk : Sz) : Nat → Nat → Sz → Int32 × Sz
  | 0, _, s => (-1, s)
  | f + 1, t, s => if t = 0 then (-1, s) else
      if (fAm a b (frn rk t) (fC1 (frn rk t) s)).1 = true then (nI (frn rk t), fJn (bit2 a b) (nI (frn rk t)) (fAm a b (frn rk t) (fC1 (frn rk t) s)).2 5) else fCx a b rk f (clr t (frn rk t)) (fAm a b (frn rk t) (fC1 (frn rk t) s)).2
-- net calls
def fN1 (a ch : Nat) (ms : Int32) (s1 : Sz) : Nat → Int32 × Sz
  | 0 => (nI 0, s1)
  | i + 1 => if fHas ms (nI i) = true then (if (fAn a i ch (fN1 a ch ms s1 i).2).1 = true then (fN1 a ch ms s1 i).1 ||| (nI 1 <<< (nI i &&& 31)) else (fN1 a ch ms s1 i).1, (fAn a i ch (fN1 a ch ms s1 i).2).2) else fN1 a ch ms s1 i
def fN2 (a ch : Nat) (pt : Int32) (s2 : Sz) : Nat → Int32 × Sz
  | 0 => (nI 0, s2)
  | i + 1 => if fHas pt (nI i) = true then (if (fTr 4 a i 255 ch (fN2 a ch pt s2 i).2).1 = true then (fN2 a ch pt s2 i).1 ||| (nI 1 <<< (nI i &&& 31)) else (fN2 a ch pt s2 i).1, (fTr 4 a i 255 ch (fN2 a ch pt s2 i).2).2) else fN2 a ch pt s2 i
theorem fN1_nn {a ch : Nat} {ms : Int32} {s1 : Sz} (h : fNn s1) : ∀ i, fNn (fN1 a ch ms s1 i).2
  | 0 => h
  | i + 1 => by
    have ih := fN1_nn (a := a) (ch := ch) (ms := ms) h i
    simp only [fN1]
    split
    · exact fAn_nn ih
    · exact ih
theorem fN2_nn {a ch : Nat} {ms : Int32} {s1 : Sz} (h : fNn s1) : ∀ i, fNn (fN2 a ch ms s1 i).2
  | 0 => h
  | i + 1 => by
    have ih := fN2_nn (a := a) (ch := ch) (ms := ms) h i
    simp only [fN2]
    split
    · exact fTr_nn ih
    · exact ih
def fNa (ch : Nat) (ms : Int32) (s : Sz) : Sz := upd (upd (upd s 5 (nI 1)) 6 (nI ch)) 0 (s 0 + nI (fMo ms (upd (upd s 5 (nI 1)) 6 (nI ch)) 5))
def fNb (a ch : Nat) (ms : Int32) (s : Sz) : Sz := upd (fN1 a ch ms (fNa ch ms s) 5).2 0 ((fN1 a ch ms (fNa ch ms s) 5).2 0 + nI 1)
def fNc (a ch : Nat) (ms : Int32) (s : Sz) : Int32 × Sz := fN2 a ch (fN1 a ch ms (fNa ch ms s) 5).1 (fNb a ch ms s) 5
def fNt (a ch : Nat) (ms : Int32) (s : Sz) : Int32 × Sz := ((fNc a ch ms s).1, if (fNc a ch ms s).1 = 0 then (fNc a ch ms s).2 else fJn ((fNc a ch ms s).1 ||| (nI 1 <<< (nI a &&& 31))) (nI ch) (fNc a ch ms s).2 5)
-- hanging up
def lnk (s : Sz) (k : Nat) : Nat := (s (14 + k)).toNatClampNeg
def IvL (s : Sz) : Prop := ∀ k, k < 5 → lnk s k < 32 ∧ s (14 + k) = nI (lnk s k)
def fHl (r : Nat) (en : Bool) (s0 : Sz) : Nat → Sz
  | 0 => s0
  | i + 1 => if fHas (nI r) (nI i) = true then (if en = true then fLv i (fHl r en s0 i) else upd (fHl r en s0 i) (14 + i) (nI r)) else fHl r en s0 i
theorem fLv_upd (i : Nat) (s : Sz) (x : Int32) : fLv i (upd s (14 + i) x) = fLv i s := by
  unfold fLv
  rw [upd_same]
def fHr (k : Nat) (s : Sz) : Nat := clr (lnk s k) k
def fHe2 (k : Nat) (s : Sz) : Bool := decide (cnt (fHr k s) < 2)
def fHg (k : Nat) (s : Sz) : Int32 × Sz := (if fHe2 k s = true then nI 0 else nI (fHr k s), fHl (fHr k s) (fHe2 k s) (fLv k s) 5)
