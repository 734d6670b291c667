/-! WHAT THE METHODS ANSWER, as functions of the numbers: the small ones -/
def fIn (v lo hi : Int32) : Bool := decide (lo ≤ v) && decide (v ≤ hi)
theorem fIn_a {v lo hi : Int32} (h : v < lo) : false = fIn v lo hi := by
  have : ¬ lo ≤ v := by rw [Int32.le_iff_toInt_le]; rw [Int32.lt_iff_toInt_lt] at h; omega
  simp [fIn, this]
theorem fIn_b {v lo hi : Int32} (h : hi < v) : false = fIn v lo hi := by
  have : ¬ v ≤ hi := by rw [Int32.le_iff_toInt_le]; rw [Int32.lt_iff_toInt_lt] at h; omega
  simp [fIn, this]
theorem fIn_c {v lo hi : Int32} (h1 : ¬ v < lo) (h2 : ¬ hi < v) : true = fIn v lo hi := by
  have a : lo ≤ v := by rw [Int32.le_iff_toInt_le]; rw [Int32.lt_iff_toInt_lt] at h1; omega
  have b : v ≤ hi := by rw [Int32.le_iff_toInt_le]; rw [Int32.lt_iff_toInt_lt] at h2; omega
  simp [fIn, a, b]
theorem fIn_iff {v lo hi : Int32} : fIn v lo hi = true ↔ lo ≤ v ∧ v ≤ hi := by simp [fIn]
def fHas (set k : Int32) : Bool := decide (set >>> (k &&& 31) &&& nI 1 = nI 1)
def fSt (k : Int32) : Bool := fIn k (nI 0) (nI 4)
def fCh (k : Int32) : Bool := fIn k (nI 0) (nI 7)
def fWd (k : Int32) : Bool := fIn k (nI 0) (nI 16777215)
def fPr (a b : Int32) : Bool := fSt a && fSt b && !decide (a = b)
def fTh (a b c : Int32) : Bool := fPr a b && fCh c
def fNet (k ms : Int32) : Bool := fSt k && fIn ms (nI 1) (nI 31) && !fHas ms k
def fMaj (a b c : Int32) : Int32 := a &&& b ||| a &&& c ||| b &&& c
def fAt (a b c : Nat) : Nat := 40 * a + 8 * b + c
theorem fAt_lt {a b c : Nat} (ha : a < 5) (hb : b < 5) (hc : c < 8) : fAt a b c < 200 := by unfold fAt; omega
def fCnI (set : Int32) : Nat → Int32
  | 0 => nI 0
  | i + 1 => fCnI set i + (set >>> (nI i &&& 31) &&& nI 1)
def cnt (t : Nat) : Nat := (fCnI (nI t) 8).toNatClampNeg
theorem cnt_ok : ∀ t, t < 256 → fCnI (nI t) 8 = nI (cnt t) ∧ cnt t ≤ 8 ∧ (1 ≤ t → 1 ≤ cnt t) := by decide +kernel
def fBc (x0 : Int32) : Int32 :=
  let x1 := x0 - ((x0.toUInt32 >>> ((nI 1).toUInt32 &&& Int32.toUInt32 31)).toInt32 &&& nI 1431655765)
  let x2 := (x1 &&& nI 858993459) + ((x1.toUInt32 >>> ((nI 2).toUInt32 &&& Int32.toUInt32 31)).toInt32 &&& nI 858993459)
  let x3 := x2 + (x2.toUInt32 >>> ((nI 4).toUInt32 &&& Int32.toUInt32 31)).toInt32 &&& nI 252645135
  let x4 := x3 + (x3.toUInt32 >>> ((nI 8).toUInt32 &&& Int32.toUInt32 31)).toInt32
  let x5 := x4 + (x4.toUInt32 >>> ((nI 16).toUInt32 &&& Int32.toUInt32 31)).toInt32
  x5 &&& nI 63
theorem fBc_cnt : ∀ t, t < 256 → fBc (nI t) = nI (cnt t) := by decide +kernel
theorem fSt_nat {k : Int32} (h : fSt k = true) : ∃ j, j < 5 ∧ k = nI j := by
  obtain ⟨h1, h2⟩ := fIn_iff.mp h
  have z0 : (nI 0).toInt = 0 := by decide
  have z1 : (0 : Int32).toInt = 0 := by decide
  have h3 : ¬ k < 0 := by
    rw [Int32.lt_iff_toInt_lt, z1]; rw [Int32.le_iff_toInt_le, z0] at h1; omega
  obtain ⟨j, hj, e⟩ := nI_of2 (x := k) (M := nI 4) (n := 4) (by decide) h3 h2
  exact ⟨j, by omega, e⟩
theorem fCh_nat {k : Int32} (h : fCh k = true) : ∃ j, j < 8 ∧ k = nI j := by
  obtain ⟨h1, h2⟩ := fIn_iff.mp h
  have z0 : (nI 0).toInt = 0 := by decide
  have z1 : (0 : Int32).toInt = 0 := by decide
  have h3 : ¬ k < 0 := by
    rw [Int32.lt_iff_toInt_lt, z1]; rw [Int32.le_iff_toInt_le, z0] at h1; omega
  obtain ⟨j, hj, e⟩ := nI_of2 (x := k) (M := nI 7) (n := 7) (by decide) h3 h2
  exact ⟨j, by omega, e⟩
theorem fSt_of : ∀ j, j < 5 → fSt (nI j) = true := by decide +kernel
theorem fCh_of : ∀ j, j < 8 → fCh (nI j) = true := by decide +kernel
theorem nI_inj {a b : Nat} (ha : a < 2 ^ 31) (hb : b < 2 ^ 31) (h : nI a = nI b) : a = b := (nI_eq ha hb).mp h
/-- the draws -/
def fDx (x : Int32) : Int32 := x * nI 1103515245 + nI 12345 &&& nI 2147483647
def fDv (x : Int32) : Int32 := x / nI 65536 - x / nI 65536 / nI 31 * nI 31
def fDl (x : Int32) : Int32 := (x.toInt64 * 1103515245 + 12345 - (x.toInt64 * 1103515245 + 12345) / 2147483648 * 2147483648).toInt32
def fNn (s : Sz) : Prop := 0 ≤ (s 1).toInt
def fCp (w q : Int32) : Nat → Sz → Int32 × Sz
  | 0, s => (w, s)
  | i + 1, s => (if nI 2 * fDv (fDx ((fCp w q i s).2 1)) ≤ nI 30 + q then (fCp w q i s).1 else (fCp w q i s).1 ^^^ (nI 1 <<< (nI i &&& 31)), upd (fCp w q i s).2 1 (fDx ((fCp w q i s).2 1)))
def fUn (u : Int32) : Nat → Nat
  | 0 => 0
  | i + 1 => fUn u i + (if fHas u (nI i) = true then 0 else 1)
theorem fUn_le (u : Int32) : ∀ i, fUn u i ≤ i
  | 0 => Nat.le_refl _
  | i + 1 => by
    have := fUn_le u i
    simp only [fUn]
    split <;> omega
def fEf (a b c : Nat) (s : Sz) : Int32 := if s (224 + fAt a b c) = -1 then -1 else if 0 < s (224 + fAt a b c) - (s 0 - s (424 + fAt a b c)) / s 2 then s (224 + fAt a b c) - (s 0 - s (424 + fAt a b c)) / s 2 else nI 0
theorem fDl_eq {x : Int32} (h : 0 ≤ x.toInt) : fDl x = fDx x := by
  obtain ⟨n, hn, rfl⟩ := nI_of (x := x) (by rw [Int32.lt_iff_toInt_lt]; have : (0 : Int32).toInt = 0 := by decide
                                            omega)
  have e1 : (1103515245 : Int64) = lN 1103515245 := by decide
  have e2 : (12345 : Int64) = lN 12345 := by decide
  have e3 : (2147483648 : Int64) = lN 2147483648 := by decide
  have l : fDl (nI n) = nI ((n * 1103515245 + 12345) % 2147483648) := by
    unfold fDl
    rw [nI_l hn, e1, e2, e3, lN_mul, lN_add, pk_lRem (by omega) (by omega) (by omega), lN_i]
  have r : fDx (nI n) = nI ((n * 1103515245 + 12345) % 2147483648) := by
    unfold fDx
    rw [pk_mul, nI_add, pk_and (k := 31) _ (by decide)]
    refine congrArg nI ?_
    have : (nI (n * 1103515245 + 12345)).toBitVec.toNat = (n * 1103515245 + 12345) % 2 ^ 32 := by
      show (BitVec.ofNat 32 _).toNat = _
      exact BitVec.toNat_ofNat _ _
    rw [this]
    omega
  rw [l, r]
theorem fDx_nn (x : Int32) : 0 ≤ (fDx x).toInt := by
  unfold fDx
  rw [pk_and (k := 31) _ (by decide), nI_toInt (Nat.mod_lt _ (by decide))]
  omega
theorem fCp_nn (w q : Int32) : ∀ i s, fNn s → fNn (fCp w q i s).2
  | 0, s, h => h
  | i + 1, s, h => by
    unfold fNn
    show 0 ≤ (upd (fCp w q i s).2 1 (fDx ((fCp w q i s).2 1)) 1).toInt
    rw [pk_us]
    exact fDx_nn _
theorem fCp_out (w q : Int32) (j : Nat) (hj : j ≠ 1) : ∀ i s, (fCp w q i s).2 j = s j
  | 0, s => rfl
  | i + 1, s => by
    show upd (fCp w q i s).2 1 (fDx ((fCp w q i s).2 1)) j = _
    rw [pk_un hj]
    exact fCp_out w q j hj i s
