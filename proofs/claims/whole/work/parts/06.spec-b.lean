/-! one word transmitted, three times -/
def fT1 (w q : Int32) (s : Sz) : Int32 × Sz := fCp w q 24 s
def fT2 (w q : Int32) (s : Sz) : Int32 × Sz := fCp w q 24 (fT1 w q s).2
def fT3 (w q : Int32) (s : Sz) : Int32 × Sz := fCp w q 24 (fT2 w q s).2
def fTv (w q : Int32) (s : Sz) : Int32 := fMaj (fT1 w q s).1 (fT2 w q s).1 (fT3 w q s).1
def fTd (w q : Int32) (s : Sz) : Int32 := ((fT1 w q s).1 ^^^ (fT2 w q s).1) ||| ((fT1 w q s).1 ^^^ (fT3 w q s).1)
def fTu (w q : Int32) (s : Sz) : Nat := fUn (fTd w q s) 24
def fTx (w q : Int32) (s : Sz) : Sz := upd (upd (upd (fT3 w q s).2 3 ((fT3 w q s).2 3 + nI 1)) 7 (nI (fTu w q s))) 8 (fTv w q s)
def fTw (kd f mt : Nat) : Nat := 65536 * kd + 256 * mt + f
def fTy (w q : Int32) (f t ch : Nat) (s : Sz) : Sz := upd (upd (upd (fTx w q s) 4 ((fT3 w q s).2 4 + nI 1)) (224 + fAt t f ch) (nI (fTu w q s * 30) / nI 24)) (424 + fAt t f ch) ((fT3 w q s).2 0)
def fTr (kd f t mt ch : Nat) (s : Sz) : Bool × Sz :=
  if fTv (nI (fTw kd f mt)) (s (24 + fAt f t ch)) s = nI (fTw kd f mt) then (true, fTy (nI (fTw kd f mt)) (s (24 + fAt f t ch)) f t ch s) else (false, fTx (nI (fTw kd f mt)) (s (24 + fAt f t ch)) s)
theorem fTr_t {kd f t mt ch : Nat} {s : Sz} (h : fTv (nI (fTw kd f mt)) (s (24 + fAt f t ch)) s = nI (fTw kd f mt)) : fTr kd f t mt ch s = (true, fTy (nI (fTw kd f mt)) (s (24 + fAt f t ch)) f t ch s) := if_pos h
theorem fTr_f {kd f t mt ch : Nat} {s : Sz} (h : ¬ fTv (nI (fTw kd f mt)) (s (24 + fAt f t ch)) s = nI (fTw kd f mt)) : fTr kd f t mt ch s = (false, fTx (nI (fTw kd f mt)) (s (24 + fAt f t ch)) s) := if_neg h
theorem upd_comm (s : Sz) {i j : Nat} (h : i ≠ j) (x y : Int32) : upd (upd s i x) j y = upd (upd s j y) i x := by
  funext k
  unfold upd
  by_cases h1 : k = j
  · have : ¬ k = i := by omega
    simp [h1, this]
    intro h2; omega
  · simp [h1]
theorem upd_same (s : Sz) (i : Nat) (x y : Int32) : upd (upd s i x) i y = upd s i y := by
  funext k
  unfold upd
  by_cases h1 : k = i <;> simp [h1]
theorem fTs_nn {w q : Int32} {s : Sz} (h : fNn s) : fNn (fT1 w q s).2 ∧ fNn (fT2 w q s).2 ∧ fNn (fT3 w q s).2 := ⟨fCp_nn _ _ _ _ h, fCp_nn _ _ _ _ (fCp_nn _ _ _ _ h), fCp_nn _ _ _ _ (fCp_nn _ _ _ _ (fCp_nn _ _ _ _ h))⟩
theorem fT3_out (w q : Int32) (s : Sz) {j : Nat} (hj : j ≠ 1) : (fT3 w q s).2 j = s j := by
  unfold fT3 fT2 fT1
  rw [fCp_out w q j hj, fCp_out w q j hj, fCp_out w q j hj]
/-- bits: a copy differs from the word in the 24 low bits alone -/
theorem fCp_bit (w q : Int32) {j : Nat} (h1 : 24 ≤ j) (h2 : j < 32) : ∀ i s, i ≤ 24 → bt (fCp w q i s).1 j = bt w j
  | 0, s, _ => rfl
  | i + 1, s, hi => by
    have ih := fCp_bit w q h1 h2 i s (by omega)
    simp only [fCp]
    split
    · exact ih
    · have hd : ¬ j - i = 0 := by omega
      rw [b_xor, b_shl i (by omega) _ h2, bt_1, ih]
      simp [hd]
theorem fTd_hi (w q : Int32) (s : Sz) {j : Nat} (h1 : 24 ≤ j) (h2 : j < 32) : bt (fTd w q s) j = false := by
  unfold fTd fT3 fT2 fT1
  rw [b_or, b_xor, b_xor, fCp_bit w q h1 h2 24 _ (Nat.le_refl _), fCp_bit w q h1 h2 24 _ (Nat.le_refl _), fCp_bit w q h1 h2 24 _ (Nat.le_refl _)]
  simp
/-! the JDK's bit count is the number of bits -/
def pcn (u : Int32) : Nat → Nat
  | 0 => 0
  | i + 1 => pcn u i + (bt u i).toNat
theorem fUn_pc (u : Int32) : ∀ i, i ≤ 32 → fUn u i + pcn u i = i
  | 0, _ => rfl
  | i + 1, h => by
    have ih := fUn_pc u i (by omega)
    simp only [fUn, pcn]
    rw [fHas_bt u (show i < 32 by omega)]
    cases bt u i <;> simp <;> omega
theorem nat_split (k a b c d : Nat) (hb : b < 2 ^ k) (hd : d < 2 ^ k) : (2 ^ k * a + b) &&& (2 ^ k * c + d) = 2 ^ k * (a &&& c) + (b &&& d) := by
  apply Nat.eq_of_testBit_eq
  intro j
  rw [Nat.testBit_and, Nat.testBit_two_pow_mul_add a hb, Nat.testBit_two_pow_mul_add c hd, Nat.testBit_two_pow_mul_add _ (Nat.and_lt_two_pow _ hd)]
  split
  · rw [Nat.testBit_and]
  · rw [Nat.testBit_and]
def bp1 (M n : Nat) : Nat := n - (n / 2 &&& M)
def bp2 (M n : Nat) : Nat := (n &&& M) + (n / 4 &&& M)
def bp3 (M n : Nat) : Nat := n + n / 16 &&& M
theorem bp1_le (M n : Nat) : bp1 M n ≤ n := Nat.sub_le _ _
theorem and_le_l (a b : Nat) : a &&& b ≤ a := Nat.and_le_left
theorem bq1 : ∀ e, e < 2 → ∀ l, l < 128 → (128 * e + l) &&& 85 = l &&& 85 := by decide +kernel
theorem bq2 : ∀ e, e < 4 → ∀ l, l < 64 → (64 * e + l) &&& 51 = l &&& 51 := by decide +kernel
theorem bp1_s (M h l : Nat) (hl : l < 256) : bp1 (2 ^ 8 * M + 85) (2 ^ 8 * h + l) = 2 ^ 8 * bp1 M h + bp1 85 l := by
  unfold bp1
  have e : (2 ^ 8 * h + l) / 2 = 2 ^ 8 * (h / 2) + (128 * (h % 2) + l / 2) := by omega
  rw [e, nat_split 8 _ _ _ _ (by omega) (by decide), bq1 _ (by omega) _ (by omega)]
  have h1 := and_le_l (h / 2) M
  have h2 := and_le_l (l / 2) 85
  omega
theorem bp2_s (M h l : Nat) (hl : l < 256) : bp2 (2 ^ 8 * M + 51) (2 ^ 8 * h + l) = 2 ^ 8 * bp2 M h + bp2 51 l := by
  unfold bp2
  have e : (2 ^ 8 * h + l) / 4 = 2 ^ 8 * (h / 4) + (64 * (h % 4) + l / 4) := by omega
  rw [e, nat_split 8 _ _ _ _ (by omega) (by decide), nat_split 8 _ _ _ _ (by omega) (by decide), bq2 _ (by omega) _ (by omega)]
  omega
theorem bp3_s (M h l : Nat) (hh : h % 16 ≤ 4) (hl : l ≤ 68) : bp3 (2 ^ 8 * M + 15) (2 ^ 8 * h + l) = 2 ^ 8 * bp3 M h + bp3 15 l := by
  unfold bp3
  have e : 2 ^ 8 * h + l + (2 ^ 8 * h + l) / 16 = 2 ^ 8 * (h + h / 16) + (l + l / 16 + 16 * (h % 16)) := by omega
  rw [e, nat_split 8 _ _ _ _ (by omega) (by decide)]
  have a1 := Nat.and_two_pow_sub_one_eq_mod (l + l / 16 + 16 * (h % 16)) 4
  have a2 := Nat.and_two_pow_sub_one_eq_mod (l + l / 16) 4
  rw [show (15 : Nat) = 2 ^ 4 - 1 from rfl, a1, a2]
  omega
def pcN (n : Nat) : Nat → Nat
  | 0 => 0
  | i + 1 => pcN n i + (n.testBit i).toNat
theorem pcN_s (h l : Nat) (hl : l < 2 ^ 8) : ∀ k, pcN (2 ^ 8 * h + l) (8 + k) = pcN (2 ^ 8 * h + l) 8 + pcN h k
  | 0 => rfl
  | k + 1 => by
    show pcN (2 ^ 8 * h + l) (8 + k) + ((2 ^ 8 * h + l).testBit (8 + k)).toNat = _ + (pcN h k + (h.testBit k).toNat)
    rw [pcN_s h l hl k, Nat.testBit_two_pow_mul_add h hl, if_neg (by omega), show 8 + k - 8 = k by omega]
    omega
theorem pcN_l (h l : Nat) (hl : l < 2 ^ 8) : ∀ k, k ≤ 8 → pcN (2 ^ 8 * h + l) k = pcN l k
  | 0, _ => rfl
  | k + 1, hk => by
    show pcN _ k + ((2 ^ 8 * h + l).testBit k).toNat = pcN l k + (l.testBit k).toNat
    rw [pcN_l h l hl k (by omega), Nat.testBit_two_pow_mul_add h hl, if_pos (by omega)]
theorem byte_ok : ∀ l, l < 256 → bp3 15 (bp2 51 (bp1 85 l)) = pcN l 8 ∧ bp2 51 (bp1 85 l) ≤ 68 ∧ bp2 51 (bp1 85 l) % 16 ≤ 4 ∧ pcN l 8 ≤ 8 ∧ bp1 85 l < 256 := by decide +kernel
theorem pc_bytes (b0 b1 b2 b3 : Nat) (h0 : b0 < 256) (h1 : b1 < 256) (h2 : b2 < 256) (h3 : b3 < 256) : pcN (2 ^ 8 * (2 ^ 8 * (2 ^ 8 * b3 + b2) + b1) + b0) 32 = pcN b0 8 + (pcN b1 8 + (pcN b2 8 + pcN b3 8)) := by
  rw [show (32 : Nat) = 8 + 24 from rfl, pcN_s _ _ h0, pcN_l _ _ h0 8 (by omega), show (24 : Nat) = 8 + 16 from rfl, pcN_s _ _ h1, pcN_l _ _ h1 8 (by omega), show (16 : Nat) = 8 + 8 from rfl, pcN_s _ _ h2, pcN_l _ _ h2 8 (by omega)]
theorem xor0 (x : Int32) : x ^^^ nI 0 = x := by
  apply b_ext
  intro i hi
  rw [b_xor, show bt (nI 0) i = false from b_0 i]
  simp
theorem nI_self (x : Int32) : ∃ n, n < 2 ^ 32 ∧ x = nI n := ⟨x.toBitVec.toNat, x.toBitVec.isLt, Int32.toBitVec_inj.mp (by show x.toBitVec = BitVec.ofNat 32 x.toBitVec.toNat; rw [BitVec.ofNat_toNat]; simp)⟩
theorem bt_nI (n : Nat) {i : Nat} (hi : i < 32) : bt (nI n) i = n.testBit i := by
  show (BitVec.ofNat 32 n).getLsbD i = _
  rw [BitVec.getLsbD_ofNat]
  simp [hi]
theorem pcn_N (n : Nat) : ∀ i, i ≤ 32 → pcn (nI n) i = pcN n i
  | 0, _ => rfl
  | i + 1, h => by
    simp only [pcn, pcN]
    rw [pcn_N n i (by omega), bt_nI n (by omega)]
theorem fin_sum (N3 c0 c1 c2 c3 : Nat) (h0 : c0 ≤ 8) (h1 : c1 ≤ 8) (h2 : c2 ≤ 8) (h3 : c3 ≤ 8) (e : N3 = 2 ^ 8 * (2 ^ 8 * (2 ^ 8 * c3 + c2) + c1) + c0) : (N3 + N3 / 256 + (N3 + N3 / 256) / 65536) % 64 = c0 + (c1 + (c2 + c3)) := by
  have e1 : N3 / 256 = 2 ^ 8 * (2 ^ 8 * c3 + c2) + c1 := by omega
  have e2 : N3 + N3 / 256 = 65536 * (256 * c3 + (c2 + c3)) + (256 * (c1 + c2) + (c0 + c1)) := by omega
  have e3 : (N3 + N3 / 256) / 65536 = 256 * c3 + (c2 + c3) := by omega
  omega
theorem fBc_N (n : Nat) (hn : n < 2 ^ 32) : fBc (nI n) = nI (pcN n 32) := by
  obtain ⟨b0, b1, b2, b3, h0, h1, h2, h3, rfl⟩ : ∃ b0 b1 b2 b3, b0 < 256 ∧ b1 < 256 ∧ b2 < 256 ∧ b3 < 256 ∧ n = 2 ^ 8 * (2 ^ 8 * (2 ^ 8 * b3 + b2) + b1) + b0 :=
    ⟨n % 256, n / 256 % 256, n / 65536 % 256, n / 16777216, by omega, by omega, by omega, by omega, by omega⟩
  obtain ⟨p0, q0, r0, t0, u0⟩ := byte_ok b0 h0
  obtain ⟨p1, q1, r1, t1, u1⟩ := byte_ok b1 h1
  obtain ⟨p2, q2, r2, t2, u2⟩ := byte_ok b2 h2
  obtain ⟨p3, q3, r3, t3, u3⟩ := byte_ok b3 h3
  generalize hN : 2 ^ 8 * (2 ^ 8 * (2 ^ 8 * b3 + b2) + b1) + b0 = N at hn ⊢
  have e1 : bp1 1431655765 N = 2 ^ 8 * (2 ^ 8 * (2 ^ 8 * bp1 85 b3 + bp1 85 b2) + bp1 85 b1) + bp1 85 b0 := by
    rw [← hN, show (1431655765 : Nat) = 2 ^ 8 * (2 ^ 8 * (2 ^ 8 * 85 + 85) + 85) + 85 from rfl, bp1_s _ _ _ h0, bp1_s _ _ _ h1, bp1_s _ _ _ h2]
  generalize hN1 : bp1 1431655765 N = N1 at e1
  have e2 : bp2 858993459 N1 = 2 ^ 8 * (2 ^ 8 * (2 ^ 8 * bp2 51 (bp1 85 b3) + bp2 51 (bp1 85 b2)) + bp2 51 (bp1 85 b1)) + bp2 51 (bp1 85 b0) := by
    rw [e1, show (858993459 : Nat) = 2 ^ 8 * (2 ^ 8 * (2 ^ 8 * 51 + 51) + 51) + 51 from rfl, bp2_s _ _ _ u0, bp2_s _ _ _ u1, bp2_s _ _ _ u2]
  generalize hN2 : bp2 858993459 N1 = N2 at e2
  have e3 : bp3 252645135 N2 = 2 ^ 8 * (2 ^ 8 * (2 ^ 8 * pcN b3 8 + pcN b2 8) + pcN b1 8) + pcN b0 8 := by
    rw [e2, show (252645135 : Nat) = 2 ^ 8 * (2 ^ 8 * (2 ^ 8 * 15 + 15) + 15) + 15 from rfl, bp3_s _ _ _ (by omega) q0, bp3_s _ _ _ (by omega) q1, bp3_s _ _ _ (by omega) q2, p0, p1, p2, p3]
  generalize hN3 : bp3 252645135 N2 = N3 at e3
  have l1 : N1 < 2 ^ 32 := by have := bp1_le 1431655765 N; omega
  have l2 : N2 < 2 ^ 32 := by omega
  have a1 : N - (N / 2 &&& 1431655765) = N1 := hN1
  have a2 : (N1 &&& 858993459) + (N1 / 4 &&& 858993459) = N2 := hN2
  have a3 : N2 + N2 / 16 &&& 252645135 = N3 := hN3
  have hle := Nat.le_trans (and_le_l (N / 2) 1431655765) (Nat.div_le_self N 2)
  have hpc := pc_bytes b0 b1 b2 b3 h0 h1 h2 h3
  rw [hN] at hpc
  unfold fBc
  simp only []
  rw [pk_ushrN hn (nI 1) 1 (by decide), show (2 : Nat) ^ 1 = 2 from rfl, nx_and, pk_sub hle, a1,
    pk_ushrN l1 (nI 2) 2 (by decide), show (2 : Nat) ^ 2 = 4 from rfl, nx_and, nx_and, nI_add, a2,
    pk_ushrN l2 (nI 4) 4 (by decide), show (2 : Nat) ^ 4 = 16 from rfl, nI_add, nx_and, a3,
    pk_ushrN (show N3 < 2 ^ 32 by omega) (nI 8) 8 (by decide), show (2 : Nat) ^ 8 = 256 from rfl, nI_add,
    pk_ushrN (show N3 + N3 / 256 < 2 ^ 32 by omega) (nI 16) 16 (by decide), show (2 : Nat) ^ 16 = 65536 from rfl, nI_add, nx_and, show (63 : Nat) = 2 ^ 6 - 1 from rfl, Nat.and_two_pow_sub_one_eq_mod]
  refine congrArg nI ?_
  rw [hpc]
  exact fin_sum N3 _ _ _ _ t0 t1 t2 t3 e3
theorem pcn_hi {u : Int32} (h : ∀ j, 24 ≤ j → j < 32 → bt u j = false) : ∀ k, k ≤ 8 → pcn u (24 + k) = pcn u 24
  | 0, _ => rfl
  | k + 1, hk => by
    show pcn u (24 + k) + (bt u (24 + k)).toNat = _
    rw [pcn_hi h k (by omega), h _ (by omega) (by omega)]
    rfl
theorem fBc_un {u : Int32} (h : ∀ j, 24 ≤ j → j < 32 → bt u j = false) : nI 24 - fBc u = nI (fUn u 24) := by
  obtain ⟨n, hn, e⟩ := nI_self u
  have h1 := fUn_pc u 24 (by omega)
  have h2 := pcn_hi h 8 (Nat.le_refl _)
  have h3 := pcn_N n 32 (Nat.le_refl _)
  rw [← e] at h3
  have h4 : fBc u = nI (pcN n 32) := by rw [e]; exact fBc_N n hn
  rw [h4, ← h3, h2, pk_sub (by omega)]
  refine congrArg nI ?_
  omega
theorem xUn (w q : Int32) (s : Sz) : nI 24 - fBc (fTd w q s) = nI (fTu w q s) := fBc_un (fun _ h1 h2 => fTd_hi w q s h1 h2)
