/-! WORLDS: the reference's row of 624 numbers is the one mathematical value s; the class's Network is pictured out of the same s -/
abbrev Sz : Type := Nat → Int32
def seg (s : Sz) (o n : Nat) : Nat → Int32 := fun k => if k < n then s (o + k) else 0
theorem seg_at {s : Sz} {o n j : Nat} (h : j < n) : seg s o n j = s (o + j) := by simp [seg, h]
theorem seg_out {s : Sz} {f o n : Nat} {v : Int32} (h : f < o ∨ o + n ≤ f) : seg (upd s f v) o n = seg s o n := by
  funext k
  unfold seg
  by_cases hk : k < n
  · rw [if_pos hk, if_pos hk, pk_un (by omega)]
  · rw [if_neg hk, if_neg hk]
theorem seg_in {s : Sz} {o n j : Nat} {v : Int32} (h : j < n) : seg (upd s (o + j) v) o n = upd (seg s o n) j v := by
  funext k
  unfold seg upd
  by_cases hk : k < n
  · by_cases hj : k = j
    · subst hj; simp [hk]
    · simp [hk, hj]
  · have : k ≠ j := by omega
    simp [hk, this]
theorem seg_eq {s s' : Sz} {o n : Nat} (h : ∀ k, k < n → s (o + k) = s' (o + k)) : seg s o n = seg s' o n := by
  funext k
  unfold seg
  by_cases hk : k < n
  · rw [if_pos hk, if_pos hk, h k hk]
  · rw [if_neg hk, if_neg hk]
abbrev mF (a : Nat → Nat) (np : Nat) (hs : Int64) : List Value := [.ref (a 1), .ref (a 2), .int (nI np), .ref (a 3), .ref (a 4), .ref (a 5), .long hs]
def mW (cI : ClassId) (a : Nat → Nat) (s pst : Sz) (np : Nat) (er od rk : Sz) (hs : Int64) : va_W := [(a 0, .inr (2, mF a np hs)), (a 1, .inl (cI, 624, .inl s)), (a 2, .inl (cI, 2496, .inl pst)), (a 3, .inl (cI, 2, .inl er)), (a 4, .inl (cI, 8, .inl od)), (a 5, .inl (cI, 8, .inl rk))]
abbrev nF (a : Nat → Nat) (s : Sz) : List Value := [.int (s 0), .int (s 2), .int (s 1), .int (s 3), .int (s 4), .int (s 5), .int (s 6), .int (s 7), .int (s 8), .ref (a 1), .ref (a 2), .ref (a 3), .ref (a 4), .ref (a 5), .ref (a 6), .ref (a 7)]
def nW (cI : ClassId) (a : Nat → Nat) (s rk : Sz) : va_W := [(a 0, .inr (0, nF a s)), (a 1, .inl (cI, 5, .inl (seg s 9 5))), (a 2, .inl (cI, 5, .inl (seg s 14 5))), (a 3, .inl (cI, 5, .inl (seg s 19 5))), (a 4, .inl (cI, 200, .inl (seg s 24 200))), (a 5, .inl (cI, 200, .inl (seg s 224 200))), (a 6, .inl (cI, 200, .inl (seg s 424 200))), (a 7, .inl (cI, 8, .inl rk))]
/-- one number of the 624 changes: the picture with that one cell changed -/
theorem nW_upd (cI : ClassId) (a : Nat → Nat) (s rk : Sz) (f : Nat) (v : Int32) : nW cI a (upd s f v) rk = [(a 0, .inr (0, nF a (upd s f v))), (a 1, .inl (cI, 5, .inl (seg (upd s f v) 9 5))), (a 2, .inl (cI, 5, .inl (seg (upd s f v) 14 5))), (a 3, .inl (cI, 5, .inl (seg (upd s f v) 19 5))), (a 4, .inl (cI, 200, .inl (seg (upd s f v) 24 200))), (a 5, .inl (cI, 200, .inl (seg (upd s f v) 224 200))), (a 6, .inl (cI, 200, .inl (seg (upd s f v) 424 200))), (a 7, .inl (cI, 8, .inl rk))] := rfl
theorem nF_hi (a : Nat → Nat) (s : Sz) (f : Nat) (v : Int32) (h : 9 ≤ f) : nF a (upd s f v) = nF a s := by
  have e : ∀ i, i < 9 → upd s f v i = s i := fun i hi => pk_un (by omega)
  simp only [nF, e 0 (by decide), e 1 (by decide), e 2 (by decide), e 3 (by decide), e 4 (by decide), e 5 (by decide), e 6 (by decide), e 7 (by decide), e 8 (by decide)]
theorem nW_lo (cI : ClassId) (a : Nat → Nat) (s rk : Sz) (f : Nat) (v : Int32) (h : f < 9) : nW cI a (upd s f v) rk = (nW cI a s rk).set 0 (a 0, .inr (0, nF a (upd s f v))) := by
  rw [nW_upd, seg_out (Or.inl (by omega)), seg_out (Or.inl (by omega)), seg_out (Or.inl (by omega)), seg_out (Or.inl (by omega)), seg_out (Or.inl (by omega)), seg_out (Or.inl (by omega))]
  rfl
theorem nF_0 (a : Nat → Nat) (s : Sz) (v : Int32) : (nF a s).set 0 (.int v) = nF a (upd s 0 v) := rfl
theorem nF_1 (a : Nat → Nat) (s : Sz) (v : Int32) : (nF a s).set 1 (.int v) = nF a (upd s 2 v) := rfl
theorem nF_2 (a : Nat → Nat) (s : Sz) (v : Int32) : (nF a s).set 2 (.int v) = nF a (upd s 1 v) := rfl
theorem nF_3 (a : Nat → Nat) (s : Sz) (v : Int32) : (nF a s).set 3 (.int v) = nF a (upd s 3 v) := rfl
theorem nF_4 (a : Nat → Nat) (s : Sz) (v : Int32) : (nF a s).set 4 (.int v) = nF a (upd s 4 v) := rfl
theorem nF_5 (a : Nat → Nat) (s : Sz) (v : Int32) : (nF a s).set 5 (.int v) = nF a (upd s 5 v) := rfl
theorem nF_6 (a : Nat → Nat) (s : Sz) (v : Int32) : (nF a s).set 6 (.int v) = nF a (upd s 6 v) := rfl
theorem nF_7 (a : Nat → Nat) (s : Sz) (v : Int32) : (nF a s).set 7 (.int v) = nF a (upd s 7 v) := rfl
theorem nF_8 (a : Nat → Nat) (s : Sz) (v : Int32) : (nF a s).set 8 (.int v) = nF a (upd s 8 v) := rfl
theorem nW_f0 (cI : ClassId) (a : Nat → Nat) (s rk : Sz) (v : Int32) : (nW cI a s rk).set 0 (a 0, .inr (0, (nF a s).set 0 (.int v))) = nW cI a (upd s 0 v) rk := by rw [nW_lo _ _ _ _ _ _ (by decide), nF_0]
theorem nW_f1 (cI : ClassId) (a : Nat → Nat) (s rk : Sz) (v : Int32) : (nW cI a s rk).set 0 (a 0, .inr (0, (nF a s).set 1 (.int v))) = nW cI a (upd s 2 v) rk := by rw [nW_lo _ _ _ _ _ _ (by decide), nF_1]
theorem nW_f2 (cI : ClassId) (a : Nat → Nat) (s rk : Sz) (v : Int32) : (nW cI a s rk).set 0 (a 0, .inr (0, (nF a s).set 2 (.int v))) = nW cI a (upd s 1 v) rk := by rw [nW_lo _ _ _ _ _ _ (by decide), nF_2]
theorem nW_f3 (cI : ClassId) (a : Nat → Nat) (s rk : Sz) (v : Int32) : (nW cI a s rk).set 0 (a 0, .inr (0, (nF a s).set 3 (.int v))) = nW cI a (upd s 3 v) rk := by rw [nW_lo _ _ _ _ _ _ (by decide), nF_3]
theorem nW_f4 (cI : ClassId) (a : Nat → Nat) (s rk : Sz) (v : Int32) : (nW cI a s rk).set 0 (a 0, .inr (0, (nF a s).set 4 (.int v))) = nW cI a (upd s 4 v) rk := by rw [nW_lo _ _ _ _ _ _ (by decide), nF_4]
theorem nW_f5 (cI : ClassId) (a : Nat → Nat) (s rk : Sz) (v : Int32) : (nW cI a s rk).set 0 (a 0, .inr (0, (nF a s).set 5 (.int v))) = nW cI a (upd s 5 v) rk := by rw [nW_lo _ _ _ _ _ _ (by decide), nF_5]
theorem nW_f6 (cI : ClassId) (a : Nat → Nat) (s rk : Sz) (v : Int32) : (nW cI a s rk).set 0 (a 0, .inr (0, (nF a s).set 6 (.int v))) = nW cI a (upd s 6 v) rk := by rw [nW_lo _ _ _ _ _ _ (by decide), nF_6]
theorem nW_f7 (cI : ClassId) (a : Nat → Nat) (s rk : Sz) (v : Int32) : (nW cI a s rk).set 0 (a 0, .inr (0, (nF a s).set 7 (.int v))) = nW cI a (upd s 7 v) rk := by rw [nW_lo _ _ _ _ _ _ (by decide), nF_7]
theorem nW_f8 (cI : ClassId) (a : Nat → Nat) (s rk : Sz) (v : Int32) : (nW cI a s rk).set 0 (a 0, .inr (0, (nF a s).set 8 (.int v))) = nW cI a (upd s 8 v) rk := by rw [nW_lo _ _ _ _ _ _ (by decide), nF_8]
theorem nW_a1 (cI : ClassId) (a : Nat → Nat) (s rk : Sz) {j : Nat} (h : j < 5) (v : Int32) : (nW cI a s rk).set 1 (a 1, .inl (cI, 5, .inl (upd (seg s 9 5) j v))) = nW cI a (upd s (9 + j) v) rk := by
  rw [nW_upd, nF_hi _ _ _ _ (by omega), seg_in h, seg_out (by omega), seg_out (by omega), seg_out (by omega), seg_out (by omega), seg_out (by omega)]; rfl
theorem nW_a2 (cI : ClassId) (a : Nat → Nat) (s rk : Sz) {j : Nat} (h : j < 5) (v : Int32) : (nW cI a s rk).set 2 (a 2, .inl (cI, 5, .inl (upd (seg s 14 5) j v))) = nW cI a (upd s (14 + j) v) rk := by
  rw [nW_upd, nF_hi _ _ _ _ (by omega), seg_out (o := 9) (by omega), seg_in h, seg_out (by omega), seg_out (by omega), seg_out (by omega), seg_out (by omega)]; rfl
theorem nW_a3 (cI : ClassId) (a : Nat → Nat) (s rk : Sz) {j : Nat} (h : j < 5) (v : Int32) : (nW cI a s rk).set 3 (a 3, .inl (cI, 5, .inl (upd (seg s 19 5) j v))) = nW cI a (upd s (19 + j) v) rk := by
  rw [nW_upd, nF_hi _ _ _ _ (by omega), seg_out (o := 9) (by omega), seg_out (o := 14) (by omega), seg_in h, seg_out (by omega), seg_out (by omega), seg_out (by omega)]; rfl
theorem nW_a4 (cI : ClassId) (a : Nat → Nat) (s rk : Sz) {j : Nat} (h : j < 200) (v : Int32) : (nW cI a s rk).set 4 (a 4, .inl (cI, 200, .inl (upd (seg s 24 200) j v))) = nW cI a (upd s (24 + j) v) rk := by
  rw [nW_upd, nF_hi _ _ _ _ (by omega), seg_out (o := 9) (by omega), seg_out (o := 14) (by omega), seg_out (o := 19) (by omega), seg_in h, seg_out (by omega), seg_out (by omega)]; rfl
theorem nW_a5 (cI : ClassId) (a : Nat → Nat) (s rk : Sz) {j : Nat} (h : j < 200) (v : Int32) : (nW cI a s rk).set 5 (a 5, .inl (cI, 200, .inl (upd (seg s 224 200) j v))) = nW cI a (upd s (224 + j) v) rk := by
  rw [nW_upd, nF_hi _ _ _ _ (by omega), seg_out (o := 9) (by omega), seg_out (o := 14) (by omega), seg_out (o := 19) (by omega), seg_out (o := 24) (by omega), seg_in h, seg_out (by omega)]; rfl
theorem nW_a6 (cI : ClassId) (a : Nat → Nat) (s rk : Sz) {j : Nat} (h : j < 200) (v : Int32) : (nW cI a s rk).set 6 (a 6, .inl (cI, 200, .inl (upd (seg s 424 200) j v))) = nW cI a (upd s (424 + j) v) rk := by
  rw [nW_upd, nF_hi _ _ _ _ (by omega), seg_out (o := 9) (by omega), seg_out (o := 14) (by omega), seg_out (o := 19) (by omega), seg_out (o := 24) (by omega), seg_out (o := 224) (by omega), seg_in h]; rfl
/-- only the 624 numbers count -/
theorem nW_eq {cI : ClassId} {a : Nat → Nat} {s s' rk : Sz} (h : ∀ k, k < 624 → s k = s' k) : nW cI a s rk = nW cI a s' rk := by
  unfold nW
  rw [seg_eq (s := s) (s' := s') (o := 9) (fun k hk => h _ (by omega)), seg_eq (s := s) (s' := s') (o := 14) (fun k hk => h _ (by omega)), seg_eq (s := s) (s' := s') (o := 19) (fun k hk => h _ (by omega)), seg_eq (s := s) (s' := s') (o := 24) (fun k hk => h _ (by omega)), seg_eq (s := s) (s' := s') (o := 224) (fun k hk => h _ (by omega)), seg_eq (s := s) (s' := s') (o := 424) (fun k hk => h _ (by omega))]
  simp only [nF, h 0 (by decide), h 1 (by decide), h 2 (by decide), h 3 (by decide), h 4 (by decide), h 5 (by decide), h 6 (by decide), h 7 (by decide), h 8 (by decide)]
abbrev xF (b : Nat → Nat) (an : Nat → Nat → Nat) (nx cnt : Nat) (iv rj : Int32) : List Value := [.ref (an 0 0), .ref (b 1), .int (nI nx), .int (nI cnt), .int iv, .int rj]
def xR (an : Nat → Nat → Nat) : Nat → Option Nat := fun i => some (an (i + 1) 0)
def xW (cI cN : ClassId) (b : Nat → Nat) (an : Nat → Nat → Nat) (s rk : Sz) (sv rv : Nat → Sz) (nx cnt : Nat) (iv rj : Int32) : va_W :=
  [(b 0, .inr (1, xF b an nx cnt iv rj)), (b 1, .inl (cN, 4, .inr (.inr (.inr (.inr (xR an))))))] ++ (nW cI (an 0) s rk ++ (nW cI (an 1) (sv 0) (rv 0) ++ (nW cI (an 2) (sv 1) (rv 1) ++ (nW cI (an 3) (sv 2) (rv 2) ++ nW cI (an 4) (sv 3) (rv 3)))))
