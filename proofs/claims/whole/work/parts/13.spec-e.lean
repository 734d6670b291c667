/-! the public methods: what they answer, and the numbers behind them (none: refused) -/
def tn (k : Int32) : Nat := k.toNatClampNeg
theorem tn5 {j : Nat} (h : j < 5) : tn (nI j) = j := nI_clamp (by omega)
theorem tn8 {j : Nat} (h : j < 8) : tn (nI j) = j := nI_clamp (by omega)
theorem fPr_nat {x y : Int32} (h : fPr x y = true) : ∃ f t, f < 5 ∧ t < 5 ∧ ¬ f = t ∧ x = nI f ∧ y = nI t := by
  simp only [fPr, Bool.and_eq_true, Bool.not_eq_true', decide_eq_false_iff_not] at h
  obtain ⟨⟨h1, h2⟩, h3⟩ := h
  obtain ⟨f, hf, rfl⟩ := fSt_nat h1
  obtain ⟨t, ht, rfl⟩ := fSt_nat h2
  exact ⟨f, t, hf, ht, fun e => h3 (by rw [e]), rfl, rfl⟩
theorem fTh_nat {x y z : Int32} (h : fTh x y z = true) : ∃ f t ch, f < 5 ∧ t < 5 ∧ ch < 8 ∧ ¬ f = t ∧ x = nI f ∧ y = nI t ∧ z = nI ch := by
  simp only [fTh, Bool.and_eq_true] at h
  obtain ⟨f, t, hf, ht, hft, rfl, rfl⟩ := fPr_nat h.1
  obtain ⟨ch, hc, rfl⟩ := fCh_nat h.2
  exact ⟨f, t, ch, hf, ht, hc, hft, rfl, rfl, rfl⟩
theorem fIn_nat {x : Int32} {a b : Nat} (hb : b < 2 ^ 31) (h : fIn x (nI a) (nI b) = true) (ha : a < 2 ^ 31) : ∃ n, a ≤ n ∧ n ≤ b ∧ x = nI n := by
  obtain ⟨h1, h2⟩ := fIn_iff.mp h
  rw [Int32.le_iff_toInt_le, nI_toInt ha] at h1
  rw [Int32.le_iff_toInt_le, nI_toInt hb] at h2
  obtain ⟨n, hn, rfl⟩ := nI_of (x := x) (by rw [Int32.lt_iff_toInt_lt]; have z : (0 : Int32).toInt = 0 := by decide
                                            omega)
  rw [nI_toInt hn] at h1 h2
  exact ⟨n, by omega, by omega, rfl⟩
theorem fNet_nat {x y : Int32} (h : fNet x y = true) : ∃ f t, f < 5 ∧ 1 ≤ t ∧ t < 32 ∧ fHas (nI t) (nI f) = false ∧ x = nI f ∧ y = nI t := by
  simp only [fNet, Bool.and_eq_true, Bool.not_eq_true'] at h
  obtain ⟨⟨h1, h2⟩, h3⟩ := h
  obtain ⟨f, hf, rfl⟩ := fSt_nat h1
  obtain ⟨t, h4, h5, rfl⟩ := fIn_nat (by decide) h2 (by decide)
  exact ⟨f, t, hf, h4, by omega, h3, rfl, rfl⟩
def pSetScan (x y : Int32) (s : Sz) : Int32 × Option Sz := if fSt x = true then (if fIn y (nI 1) (nI 255) = true then (s (9 + tn x), some (upd s (9 + tn x) y)) else (-2, none)) else (-2, none)
def pSetQ (x y z q : Int32) (s : Sz) : Int32 × Option Sz := if fTh x y z = true then (if fIn q (nI 0) (nI 30) = true then (s (24 + fAt (tn x) (tn y) (tn z)), some (upd (upd s (24 + fAt (tn x) (tn y) (tn z)) q) (24 + fAt (tn y) (tn x) (tn z)) q)) else (-2, none)) else (-2, none)
def pAge (x : Int32) (s : Sz) : Int32 × Option Sz := if fIn x (nI 1) (nI 99) = true then (s 2, some (upd s 2 x)) else (-2, none)
def pNoise (x : Int32) (s : Sz) : Int32 × Option Sz := if 0 ≤ x then (s 0, some (upd s 1 x)) else (-2, none)
def pPass (x : Int32) (s : Sz) : Int32 × Option Sz := if fIn x (nI 1) (nI 1000) = true then (s 0 + x, some (upd s 0 (s 0 + x))) else (-2, none)
def pSound (x y : Int32) (s : Sz) : Int32 × Option Sz := if fSt x = true then (if fCh y = true then (if fLk s (tn x) = true then (-3, none) else ((fSo (tn x) (tn y) (fS0 s) 5).1, some (fSo (tn x) (tn y) (fS0 s) 5).2)) else (-2, none)) else (-2, none)
def pCall (R : Nat → Nat → Int32 × Sz) (x y : Int32) (s : Sz) : Int32 × Option Sz := if fPr x y = true then (if fLk s (tn x) = true then (-3, none) else if fLk s (tn y) = true then (-3, none) else ((R (tn x) (tn y)).1, some (R (tn x) (tn y)).2)) else (-2, none)
def pNet (C : Nat → Nat) (x y : Int32) (s : Sz) : Int32 × Option Sz := if fNet x y = true then (if fLk s (tn x) = true then (-3, none) else ((fNt (tn x) (C (tn x)) y s).1, some (fNt (tn x) (C (tn x)) y s).2)) else (-2, none)
def pHang (x : Int32) (s : Sz) : Int32 × Option Sz := if fSt x = true then (if fLk s (tn x) = true then ((fHg (tn x) s).1, some (fHg (tn x) s).2) else (-3, none)) else (-2, none)
def erB (er : Sz) : Sz := upd er (fIx (-2)) (er (fIx (-2)) + nI 1)
def mAft (cI : ClassId) (a : Nat → Nat) (s pst : Sz) (np : Nat) (er od rk : Sz) (hs : Int64) (od2 rk2 : Sz) (o : Int32 × Option Sz) : va_W := match o.2 with
  | none => mW cI a s pst np (upd er (fIx o.1) (er (fIx o.1) + nI 1)) od rk hs
  | some s' => mW cI a s' (fNp pst s np) (fNn0 np + 1) er od2 rk2 hs
theorem mAft_n {cI : ClassId} {a : Nat → Nat} {s pst : Sz} {np : Nat} {er od rk : Sz} {hs : Int64} {od2 rk2 : Sz} {o : Int32 × Option Sz} {cd : Int32} (h : o = (cd, none)) : mW cI a s pst np (upd er (fIx cd) (er (fIx cd) + nI 1)) od rk hs = mAft cI a s pst np er od rk hs od2 rk2 o := by rw [h]; rfl
theorem mAft_s {cI : ClassId} {a : Nat → Nat} {s pst : Sz} {np : Nat} {er od rk : Sz} {hs : Int64} {od2 rk2 : Sz} {o : Int32 × Option Sz} {r : Int32} {s' : Sz} (h : o = (r, some s')) : mW cI a s' (fNp pst s np) (fNn0 np + 1) er od2 rk2 hs = mAft cI a s pst np er od rk hs od2 rk2 o := by rw [h]; rfl
-- the digest
def mx (h : Int64) (v : Int32) : Int64 := 31 * h + v.toInt64
def fDa (h : Int64) (s : Sz) : Int64 := mx (mx (mx (mx (mx (mx (mx (mx (mx h (s 0)) (s 2)) (s 1)) (s 3)) (s 4)) (s 5)) (s 6)) (s 7)) (s 8)
def fDs (s : Sz) (h : Int64) : Nat → Int64
  | 0 => h
  | i + 1 => mx (mx (mx (fDs s h i) (s (9 + i))) (s (14 + i))) (s (19 + i))
def fDm (s : Sz) (h : Int64) : Nat → Int64
  | 0 => h
  | k + 1 => if k / 40 = k / 8 % 5 then fDm s h k else mx (mx (fDm s h k) (s (224 + k))) (fEf (k / 40) (k / 8 % 5) (k % 8) s)
theorem fDm_st {s : Sz} {h : Int64} {i j c : Nat} (hj : j < 5) (hc : c < 8) (hn : ¬ j = i) : mx (mx (fDm s h (40 * i + 8 * j + c)) (s (224 + fAt i j c))) (fEf i j c s) = fDm s h (40 * i + 8 * j + (c + 1)) := by
  show _ = fDm s h (40 * i + 8 * j + c + 1)
  have e1 : (40 * i + 8 * j + c) / 40 = i := by omega
  have e2 : (40 * i + 8 * j + c) / 8 % 5 = j := by omega
  have e3 : (40 * i + 8 * j + c) % 8 = c := by omega
  simp only [fDm]
  rw [e1, e2, e3, if_neg (fun z => hn z.symm)]
  rfl
theorem fDm_sk {s : Sz} {h : Int64} {i : Nat} (hi : i < 5) : ∀ c, c ≤ 8 → fDm s h (40 * i + 8 * i) = fDm s h (40 * i + 8 * i + c)
  | 0, _ => rfl
  | c + 1, hc => by
    rw [fDm_sk hi c (by omega)]
    show _ = fDm s h (40 * i + 8 * i + c + 1)
    have e1 : (40 * i + 8 * i + c) / 40 = i := by omega
    have e2 : (40 * i + 8 * i + c) / 8 % 5 = i := by omega
    simp only [fDm]
    rw [e1, e2, if_pos rfl]
def fDg (e0 e1 : Int32) (np : Nat) (s : Sz) : Int64 := fDm s (fDs s (fDa (mx (mx (mx 12164 e0) e1) (nI np)) s) 5) 200
-- soundings: what the reference finds
theorem fHi_hi (k c : Nat) (s : Sz) (T i : Nat) (acc : Int32) : ∀ n, fHi k c s T i acc n = fHi k c s T i acc n := fun _ => rfl
theorem fCl_t {a b : Nat} {ol : Nat → Nat} {n j : Nat} {s : Sz} (hn : 0 < n) (h : (fAm a b (ol j) (fC1 (ol j) s)).1 = true) : fCl a b ol n j s = (nI (ol j), fJn (bit2 a b) (nI (ol j)) (fAm a b (ol j) (fC1 (ol j) s)).2 5) := by
  obtain ⟨k, rfl⟩ : ∃ k, n = k + 1 := ⟨n - 1, by omega⟩
  simp only [fCl, h, if_true]
theorem fCl_f {a b : Nat} {ol : Nat → Nat} {n j : Nat} {s : Sz} (hn : 0 < n) (h : (fAm a b (ol j) (fC1 (ol j) s)).1 = false) : fCl a b ol n j s = fCl a b ol (n - 1) (j + 1) (fAm a b (ol j) (fC1 (ol j) s)).2 := by
  obtain ⟨k, rfl⟩ : ∃ k, n = k + 1 := ⟨n - 1, by omega⟩
  simp [fCl, h]
theorem fCl_0 {a b : Nat} {ol : Nat → Nat} {n j : Nat} {s : Sz} (hn : n = 0) : fCl a b ol n j s = (-1, s) := by subst hn; rfl
def mCl (s od rk : Sz) (f t : Nat) : Int32 × Sz := fCl f t (fOl f t s od rk) (fSc f t s od rk 8).1 0 (upd s 5 (nI 0))
theorem fCy_s0 {f g : Sz} {i : Nat} : upd (fCy f 0 g i) i (f i) = fCy f 0 g (i + 1) := by
  have := fCy_s (f := f) (g := g) (o := 0) (i := i)
  rw [Nat.zero_add] at this
  exact this
