section CPZ
variable {p : Program} {l : Launch} {e : Env} {k : Nat} {s : State} {m : MethodId} {args : Array Value} {below : List Frame} {meth : Method} {c : Code} {H : Heap} {locs : List Loc} {Q : State → Prop}
variable {D : va_G} {A : Nat → Prop} {cI cN : ClassId} {cc : ByteArray} {nL : Nat} {Ts : List Cond} {own : String} {pc : Nat} {ls : Array Slot} {rest : List Value} {ws ws1 : va_W} {H0 : Heap}
theorem cpz {index n a0 a1 : Nat} {f g : Nat → Int32} (B : Bz p m meth c cc nL s args Ts own D cI cN) (h : Hz D A H0 H locs ws) (hl : ls.size = nL) (w1 : Cond.methodLink own index arraycopyName ∈ Ts) (w2 : Cond.native arraycopyName ∈ Ts) (w3 : Cond.static arraycopyName ∈ Ts) (w4 : Cond.initialized "java/lang/System" ∈ Ts) (q0 q1 : Nat)
    (ha0 : ws[q0]? = some (a0, .inl (cI, n, .inl f))) (ha1 : ws[q1]? = some (a1, .inl (cI, n, .inl g))) (hn : n < 2 ^ 31) (hk : 1 ≤ k) (hlo : (rest.map fun v => v.category).sum + (nativeFrameWords "java/lang/System" "arraycopy" 5 + 11) ≤ 36 * k) (hs : ws.set q1 (a1, .inl (cI, n, .inl (va_cpy f g 0 0 n))) = ws1) (d : decode cc pc = .ok (.invokestatic index, 3))
    (kk : ∀ (H1 : Heap) (locs1 : List Loc), Hz D A H0 H1 locs1 ws1 → W p l e (rmZ k) s m args below meth c H1 locs1 0 0 Q (F0 m (pc + 3) ls rest)) : W p l e (rmZ k) s m args below meth c H locs 0 0 Q (F0 m pc ls (.int (nI n) :: .int (nI 0) :: .ref a1 :: .int (nI 0) :: .ref a0 :: rest)) := by
  subst hs
  have e0 : (nI 0).toNatClampNeg = 0 := nI_clamp (by decide)
  have en : (nI n).toNatClampNeg = n := nI_clamp hn
  refine va_copyi B.1.1 B.1.2.1 (B.1.2.2.1.trans hl.symm) B.1.2.2.2.1 (B.1.2.2.2.2 _ w1) (B.1.2.2.2.2 _ w2) (B.1.2.2.2.2 _ w3) (B.1.2.2.2.2 _ w4) B.2.1 h.1 h.2.1 h.2.2 q0 q1 0 0 (ty := .int) ha0 ha1 rfl rfl rfl (nI_pos (by decide)) (nI_pos (by decide)) (nI_pos hn) (by rw [e0, en]; omega) (by rw [e0, en]; omega) (fun _ _ => rfl) hk hlo d (fun H1 locs1 a1 a2 a3 => ?_)
  rw [e0, en] at a1 a2
  exact kk H1 locs1 ⟨a1, a2, a3⟩
theorem aldz {n a j v : Nat} {f : Nat → Option Nat} (B : Bz p m meth c cc nL s args Ts own D cI cN) (h : Hz D A H0 H locs ws) (q0 : Nat) (ha : ws[q0]? = some (a, .inl (cN, n, .inr (.inr (.inr (.inr f)))))) (hj : j < n) (hn : n < 2 ^ 31) (hv : f j = some v) (d : decode cc pc = .ok (.aaload, 1))
    (kk : W p l e (rmZ k) s m args below meth c H locs 0 0 Q (F0 m (pc + 1) ls (.ref v :: rest))) : W p l e (rmZ k) s m args below meth c H locs 0 0 Q (F0 m pc ls (.int (nI j) :: .ref a :: rest)) :=
  va_aldq (C := RX0) B.1.1 B.1.2.1 B.2.1 h.1 q0 1 ha rfl (vp_in_nI hj hn) d (by rw [nI_clamp (by omega), hv]; exact kk)
end CPZ
theorem cp_fin {U s2 : Sz} (hU : ∀ k, k < 9 → U k = s2 k) {k : Nat} (hk : k < 624) : ovr (ovr (ovr (ovr (ovr (ovr U s2 9 5) s2 14 5) s2 19 5) s2 24 200) s2 224 200) s2 424 200 k = s2 k := by
  by_cases h6 : 424 ≤ k
  · rw [ovr_in (by omega)]
  rw [ovr_lo (by omega)]
  by_cases h5 : 224 ≤ k
  · rw [ovr_in (by omega)]
  rw [ovr_lo (by omega)]
  by_cases h4 : 24 ≤ k
  · rw [ovr_in (by omega)]
  rw [ovr_lo (by omega)]
  by_cases h3 : 19 ≤ k
  · rw [ovr_in (by omega)]
  rw [ovr_lo (by omega)]
  by_cases h2 : 14 ≤ k
  · rw [ovr_in (by omega)]
  rw [ovr_lo (by omega)]
  by_cases h1 : 9 ≤ k
  · rw [ovr_in (by omega)]
  rw [ovr_lo (by omega)]
  exact hU k (by omega)
theorem cp_U (s s2 : Sz) : ∀ k, k < 9 → (upd (upd (upd (upd (upd (upd (upd (upd (upd s 0 (s2 0)) 2 (s2 2)) 1 (s2 1)) 3 (s2 3)) 4 (s2 4)) 5 (s2 5)) 6 (s2 6)) 7 (s2 7)) 8 (s2 8)) k = s2 k := by
  intro k hk
  rcases (show k = 0 ∨ k = 1 ∨ k = 2 ∨ k = 3 ∨ k = 4 ∨ k = 5 ∨ k = 6 ∨ k = 7 ∨ k = 8 by omega) with rfl | rfl | rfl | rfl | rfl | rfl | rfl | rfl | rfl <;> rfl
theorem cW_eq {cI : ClassId} {a a2 : Nat → Nat} {s s' rk s2 rk2 : Sz} (h : ∀ k, k < 624 → s k = s' k) : cW cI a a2 s rk s2 rk2 = cW cI a a2 s' rk s2 rk2 := by
  unfold cW
  rw [nW_eq h]
theorem ln_min {a b : Nat} (h : a < 2 ^ 31 ∧ b < 2 ^ 31) : (if nI b < nI a then nI b else nI a) = nI (min a b) := by
  by_cases q : b < a
  · rw [if_pos ((nI_ltI h.2 h.1).mpr q), Nat.min_eq_right (Nat.le_of_lt q)]
  · rw [if_neg (fun z => q ((nI_ltI h.2 h.1).mp z)), Nat.min_eq_left (by omega)]
def upS (sv : Nat → Sz) (k : Nat) (s : Sz) : Nat → Sz := fun j => if j = k then s else sv j
def xAft (cI cN : ClassId) (b : Nat → Nat) (an : Nat → Nat → Nat) (s rk : Sz) (sv rv : Nat → Sz) (nx ct : Nat) (iv rj : Int32) (rk2 : Sz) (o : Int32 × Option Sz) : va_W := match o.2 with
  | none => xW cI cN b an s rk sv rv nx ct (if o.1 = -2 then iv + nI 1 else iv) (if o.1 = -2 then rj else rj + nI 1)
  | some s' => xW cI cN b an s' rk2 (upS sv nx s) rv ((nx + 1) % 4) (min (ct + 1) 4) iv rj
theorem xAft_i {cI cN : ClassId} {b : Nat → Nat} {an : Nat → Nat → Nat} {s rk : Sz} {sv rv : Nat → Sz} {nx ct : Nat} {iv rj : Int32} {rk2 : Sz} {o : Int32 × Option Sz} (h : o = (-2, none)) : xW cI cN b an s rk sv rv nx ct (iv + nI 1) rj = xAft cI cN b an s rk sv rv nx ct iv rj rk2 o := by rw [h]; rfl
theorem xAft_r {cI cN : ClassId} {b : Nat → Nat} {an : Nat → Nat → Nat} {s rk : Sz} {sv rv : Nat → Sz} {nx ct : Nat} {iv rj : Int32} {rk2 : Sz} {o : Int32 × Option Sz} (h : o = (-3, none)) : xW cI cN b an s rk sv rv nx ct iv (rj + nI 1) = xAft cI cN b an s rk sv rv nx ct iv rj rk2 o := by rw [h]; rfl
theorem xAft_s {cI cN : ClassId} {b : Nat → Nat} {an : Nat → Nat → Nat} {s rk : Sz} {sv rv : Nat → Sz} {nx ct : Nat} {iv rj : Int32} {rk2 : Sz} {o : Int32 × Option Sz} {r : Int32} {s' : Sz} (h : o = (r, some s')) : xW cI cN b an s' rk2 (upS sv nx s) rv ((nx + 1) % 4) (min (ct + 1) 4) iv rj = xAft cI cN b an s rk sv rv nx ct iv rj rk2 o := by rw [h]; rfl
def xRs0 (cI cN : ClassId) (b : Nat → Nat) (an : Nat → Nat → Nat) (sv rv : Nat → Sz) (nx ct : Nat) (iv rj : Int32) : va_W := [(b 0, .inr (1, xF b an nx ct iv rj)), (b 1, .inl (cN, 4, .inr (.inr (.inr (.inr (xR an))))))] ++ (nW cI (an 2) (sv 1) (rv 1) ++ (nW cI (an 3) (sv 2) (rv 2) ++ nW cI (an 4) (sv 3) (rv 3)))
def xRp0 : List Nat := [0, 1, 18, 19, 20, 21, 22, 23, 24, 25, 26, 27, 28, 29, 30, 31, 32, 33, 34, 35, 36, 37, 38, 39, 40, 41]
def xSp0 : List Nat := [10, 11, 12, 13, 14, 15, 16, 17, 2, 3, 4, 5, 6, 7, 8, 9]
theorem xS_C0 (cI cN : ClassId) (b : Nat → Nat) (an : Nat → Nat → Nat) (s rk : Sz) (sv rv : Nat → Sz) (nx ct : Nat) (iv rj : Int32) : xSp0.map (fun i => (xW cI cN b an s rk sv rv nx ct iv rj)[i]?) = (cW cI (an 1) (an 0) (sv 0) (rv 0) s rk).map some := rfl
theorem xS_R0 (cI cN : ClassId) (b : Nat → Nat) (an : Nat → Nat → Nat) (s rk : Sz) (sv rv : Nat → Sz) (nx ct : Nat) (iv rj : Int32) : xRp0.map (fun i => (xW cI cN b an s rk sv rv nx ct iv rj)[i]?) = (xRs0 cI cN b an sv rv nx ct iv rj).map some := rfl
def xSq0 : List Nat := [0, 1, 34, 35, 36, 37, 38, 39, 40, 41, 26, 27, 28, 29, 30, 31, 32, 33, 2, 3, 4, 5, 6, 7, 8, 9, 10, 11, 12, 13, 14, 15, 16, 17, 18, 19, 20, 21, 22, 23, 24, 25]
theorem xS_S0 (cI cN : ClassId) (b : Nat → Nat) (an : Nat → Nat → Nat) (s rk : Sz) (sv rv : Nat → Sz) (nx ct : Nat) (iv rj : Int32) (z : Sz) : xSq0.map (fun i => (xRs0 cI cN b an sv rv nx ct iv rj ++ cW cI (an 1) (an 0) z (rv 0) s rk)[i]?) = (xW cI cN b an s rk (upS sv 0 z) rv nx ct iv rj).map some := rfl
def xUp0 : List Nat := [2, 3, 4, 5, 6, 7, 8, 9, 10, 11, 12, 13, 14, 15, 16, 17]
theorem xU_C0 (cI cN : ClassId) (b : Nat → Nat) (an : Nat → Nat → Nat) (s rk : Sz) (sv rv : Nat → Sz) (nx ct : Nat) (iv rj : Int32) : xUp0.map (fun i => (xW cI cN b an s rk sv rv nx ct iv rj)[i]?) = (cW cI (an 0) (an 1) s rk (sv 0) (rv 0)).map some := rfl
def xUq0 : List Nat := [0, 1, 26, 27, 28, 29, 30, 31, 32, 33, 34, 35, 36, 37, 38, 39, 40, 41, 2, 3, 4, 5, 6, 7, 8, 9, 10, 11, 12, 13, 14, 15, 16, 17, 18, 19, 20, 21, 22, 23, 24, 25]
theorem xU_S0 (cI cN : ClassId) (b : Nat → Nat) (an : Nat → Nat → Nat) (s rk : Sz) (sv rv : Nat → Sz) (nx ct : Nat) (iv rj : Int32) (z : Sz) : xUq0.map (fun i => (xRs0 cI cN b an sv rv nx ct iv rj ++ cW cI (an 0) (an 1) z rk (sv 0) (rv 0))[i]?) = (xW cI cN b an z rk sv rv nx ct iv rj).map some := rfl
theorem x_d0 : va_nd xSp0 = true ∧ va_nd xUp0 = true ∧ va_nd xRp0 = true ∧ (∀ i ∈ xRp0, i ∉ xSp0) ∧ (∀ i ∈ xRp0, i ∉ xUp0) ∧ va_nd xSq0 = true ∧ va_nd xUq0 = true := by decide
def xRs1 (cI cN : ClassId) (b : Nat → Nat) (an : Nat → Nat → Nat) (sv rv : Nat → Sz) (nx ct : Nat) (iv rj : Int32) : va_W := [(b 0, .inr (1, xF b an nx ct iv rj)), (b 1, .inl (cN, 4, .inr (.inr (.inr (.inr (xR an))))))] ++ (nW cI (an 1) (sv 0) (rv 0) ++ (nW cI (an 3) (sv 2) (rv 2) ++ nW cI (an 4) (sv 3) (rv 3)))
def xRp1 : List Nat := [0, 1, 10, 11, 12, 13, 14, 15, 16, 17, 26, 27, 28, 29, 30, 31, 32, 33, 34, 35, 36, 37, 38, 39, 40, 41]
def xSp1 : List Nat := [18, 19, 20, 21, 22, 23, 24, 25, 2, 3, 4, 5, 6, 7, 8, 9]
theorem xS_C1 (cI cN : ClassId) (b : Nat → Nat) (an : Nat → Nat → Nat) (s rk : Sz) (sv rv : Nat → Sz) (nx ct : Nat) (iv rj : Int32) : xSp1.map (fun i => (xW cI cN b an s rk sv rv nx ct iv rj)[i]?) = (cW cI (an 2) (an 0) (sv 1) (rv 1) s rk).map some := rfl
theorem xS_R1 (cI cN : ClassId) (b : Nat → Nat) (an : Nat → Nat → Nat) (s rk : Sz) (sv rv : Nat → Sz) (nx ct : Nat) (iv rj : Int32) : xRp1.map (fun i => (xW cI cN b an s rk sv rv nx ct iv rj)[i]?) = (xRs1 cI cN b an sv rv nx ct iv rj).map some := rfl
def xSq1 : List Nat := [0, 1, 34, 35, 36, 37, 38, 39, 40, 41, 2, 3, 4, 5, 6, 7, 8, 9, 26, 27, 28, 29, 30, 31, 32, 33, 10, 11, 12, 13, 14, 15, 16, 17, 18, 19, 20, 21, 22, 23, 24, 25]
theorem xS_S1 (cI cN : ClassId) (b : Nat → Nat) (an : Nat → Nat → Nat) (s rk : Sz) (sv rv : Nat → Sz) (nx ct : Nat) (iv rj : Int32) (z : Sz) : xSq1.map (fun i => (xRs1 cI cN b an sv rv nx ct iv rj ++ cW cI (an 2) (an 0) z (rv 1) s rk)[i]?) = (xW cI cN b an s rk (upS sv 1 z) rv nx ct iv rj).map some := rfl
def xUp1 : List Nat := [2, 3, 4, 5, 6, 7, 8, 9, 18, 19, 20, 21, 22, 23, 24, 25]
theorem xU_C1 (cI cN : ClassId) (b : Nat → Nat) (an : Nat → Nat → Nat) (s rk : Sz) (sv rv : Nat → Sz) (nx ct : Nat) (iv rj : Int32) : xUp1.map (fun i => (xW cI cN b an s rk sv rv nx ct iv rj)[i]?) = (cW cI (an 0) (an 2) s rk (sv 1) (rv 1)).map some := rfl
def xUq1 : List Nat := [0, 1, 26, 27, 28, 29, 30, 31, 32, 33, 2, 3, 4, 5, 6, 7, 8, 9, 34, 35, 36, 37, 38, 39, 40, 41, 10, 11, 12, 13, 14, 15, 16, 17, 18, 19, 20, 21, 22, 23, 24, 25]
theorem xU_S1 (cI cN : ClassId) (b : Nat → Nat) (an : Nat → Nat → Nat) (s rk : Sz) (sv rv : Nat → Sz) (nx ct : Nat) (iv rj : Int32) (z : Sz) : xUq1.map (fun i => (xRs1 cI cN b an sv rv nx ct iv rj ++ cW cI (an 0) (an 2) z rk (sv 1) (rv 1))[i]?) = (xW cI cN b an z rk sv rv nx ct iv rj).map some := rfl
theorem x_d1 : va_nd xSp1 = true ∧ va_nd xUp1 = true ∧ va_nd xRp1 = true ∧ (∀ i ∈ xRp1, i ∉ xSp1) ∧ (∀ i ∈ xRp1, i ∉ xUp1) ∧ va_nd xSq1 = true ∧ va_nd xUq1 = true := by decide
def xRs2 (cI cN : ClassId) (b : Nat → Nat) (an : Nat → Nat → Nat) (sv rv : Nat → Sz) (nx ct : Nat) (iv rj : Int32) : va_W := [(b 0, .inr (1, xF b an nx ct iv rj)), (b 1, .inl (cN, 4, .inr (.inr (.inr (.inr (xR an))))))] ++ (nW cI (an 1) (sv 0) (rv 0) ++ (nW cI (an 2) (sv 1) (rv 1) ++ nW cI (an 4) (sv 3) (rv 3)))
def xRp2 : List Nat := [0, 1, 10, 11, 12, 13, 14, 15, 16, 17, 18, 19, 20, 21, 22, 23, 24, 25, 34, 35, 36, 37, 38, 39, 40, 41]
def xSp2 : List Nat := [26, 27, 28, 29, 30, 31, 32, 33, 2, 3, 4, 5, 6, 7, 8, 9]
theorem xS_C2 (cI cN : ClassId) (b : Nat → Nat) (an : Nat → Nat → Nat) (s rk : Sz) (sv rv : Nat → Sz) (nx ct : Nat) (iv rj : Int32) : xSp2.map (fun i => (xW cI cN b an s rk sv rv nx ct iv rj)[i]?) = (cW cI (an 3) (an 0) (sv 2) (rv 2) s rk).map some := rfl
theorem xS_R2 (cI cN : ClassId) (b : Nat → Nat) (an : Nat → Nat → Nat) (s rk : Sz) (sv rv : Nat → Sz) (nx ct : Nat) (iv rj : Int32) : xRp2.map (fun i => (xW cI cN b an s rk sv rv nx ct iv rj)[i]?) = (xRs2 cI cN b an sv rv nx ct iv rj).map some := rfl
def xSq2 : List Nat := [0, 1, 34, 35, 36, 37, 38, 39, 40, 41, 2, 3, 4, 5, 6, 7, 8, 9, 10, 11, 12, 13, 14, 15, 16, 17, 26, 27, 28, 29, 30, 31, 32, 33, 18, 19, 20, 21, 22, 23, 24, 25]
theorem xS_S2 (cI cN : ClassId) (b : Nat → Nat) (an : Nat → Nat → Nat) (s rk : Sz) (sv rv : Nat → Sz) (nx ct : Nat) (iv rj : Int32) (z : Sz) : xSq2.map (fun i => (xRs2 cI cN b an sv rv nx ct iv rj ++ cW cI (an 3) (an 0) z (rv 2) s rk)[i]?) = (xW cI cN b an s rk (upS sv 2 z) rv nx ct iv rj).map some := rfl
def xUp2 : List Nat := [2, 3, 4, 5, 6, 7, 8, 9, 26, 27, 28, 29, 30, 31, 32, 33]
theorem xU_C2 (cI cN : ClassId) (b : Nat → Nat) (an : Nat → Nat → Nat) (s rk : Sz) (sv rv : Nat → Sz) (nx ct : Nat) (iv rj : Int32) : xUp2.map (fun i => (xW cI cN b an s rk sv rv nx ct iv rj)[i]?) = (cW cI (an 0) (an 3) s rk (sv 2) (rv 2)).map some := rfl
def xUq2 : List Nat := [0, 1, 26, 27, 28, 29, 30, 31, 32, 33, 2, 3, 4, 5, 6, 7, 8, 9, 10, 11, 12, 13, 14, 15, 16, 17, 34, 35, 36, 37, 38, 39, 40, 41, 18, 19, 20, 21, 22, 23, 24, 25]
theorem xU_S2 (cI cN : ClassId) (b : Nat → Nat) (an : Nat → Nat → Nat) (s rk : Sz) (sv rv : Nat → Sz) (nx ct : Nat) (iv rj : Int32) (z : Sz) : xUq2.map (fun i => (xRs2 cI cN b an sv rv nx ct iv rj ++ cW cI (an 0) (an 3) z rk (sv 2) (rv 2))[i]?) = (xW cI cN b an z rk sv rv nx ct iv rj).map some := rfl
theorem x_d2 : va_nd xSp2 = true ∧ va_nd xUp2 = true ∧ va_nd xRp2 = true ∧ (∀ i ∈ xRp2, i ∉ xSp2) ∧ (∀ i ∈ xRp2, i ∉ xUp2) ∧ va_nd xSq2 = true ∧ va_nd xUq2 = true := by decide
def xRs3 (cI cN : ClassId) (b : Nat → Nat) (an : Nat → Nat → Nat) (sv rv : Nat → Sz) (nx ct : Nat) (iv rj : Int32) : va_W := [(b 0, .inr (1, xF b an nx ct iv rj)), (b 1, .inl (cN, 4, .inr (.inr (.inr (.inr (xR an))))))] ++ (nW cI (an 1) (sv 0) (rv 0) ++ (nW cI (an 2) (sv 1) (rv 1) ++ nW cI (an 3) (sv 2) (rv 2)))
def xRp3 : List Nat := [0, 1, 10, 11, 12, 13, 14, 15, 16, 17, 18, 19, 20, 21, 22, 23, 24, 25, 26, 27, 28, 29, 30, 31, 32, 33]
def xSp3 : List Nat := [34, 35, 36, 37, 38, 39, 40, 41, 2, 3, 4, 5, 6, 7, 8, 9]
theorem xS_C3 (cI cN : ClassId) (b : Nat → Nat) (an : Nat → Nat → Nat) (s rk : Sz) (sv rv : Nat → Sz) (nx ct : Nat) (iv rj : Int32) : xSp3.map (fun i => (xW cI cN b an s rk sv rv nx ct iv rj)[i]?) = (cW cI (an 4) (an 0) (sv 3) (rv 3) s rk).map some := rfl
theorem xS_R3 (cI cN : ClassId) (b : Nat → Nat) (an : Nat → Nat → Nat) (s rk : Sz) (sv rv : Nat → Sz) (nx ct : Nat) (iv rj : Int32) : xRp3.map (fun i => (xW cI cN b an s rk sv rv nx ct iv rj)[i]?) = (xRs3 cI cN b an sv rv nx ct iv rj).map some := rfl
def xSq3 : List Nat := [0, 1, 34, 35, 36, 37, 38, 39, 40, 41, 2, 3, 4, 5, 6, 7, 8, 9, 10, 11, 12, 13, 14, 15, 16, 17, 18, 19, 20, 21, 22, 23, 24, 25, 26, 27, 28, 29, 30, 31, 32, 33]
theorem xS_S3 (cI cN : ClassId) (b : Nat → Nat) (an : Nat → Nat → Nat) (s rk : Sz) (sv rv : Nat → Sz) (nx ct : Nat) (iv rj : Int32) (z : Sz) : xSq3.map (fun i => (xRs3 cI cN b an sv rv nx ct iv rj ++ cW cI (an 4) (an 0) z (rv 3) s rk)[i]?) = (xW cI cN b an s rk (upS sv 3 z) rv nx ct iv rj).map some := rfl
def xUp3 : List Nat := [2, 3, 4, 5, 6, 7, 8, 9, 34, 35, 36, 37, 38, 39, 40, 41]
theorem xU_C3 (cI cN : ClassId) (b : Nat → Nat) (an : Nat → Nat → Nat) (s rk : Sz) (sv rv : Nat → Sz) (nx ct : Nat) (iv rj : Int32) : xUp3.map (fun i => (xW cI cN b an s rk sv rv nx ct iv rj)[i]?) = (cW cI (an 0) (an 4) s rk (sv 3) (rv 3)).map some := rfl
def xUq3 : List Nat := [0, 1, 26, 27, 28, 29, 30, 31, 32, 33, 2, 3, 4, 5, 6, 7, 8, 9, 10, 11, 12, 13, 14, 15, 16, 17, 18, 19, 20, 21, 22, 23, 24, 25, 34, 35, 36, 37, 38, 39, 40, 41]
theorem xU_S3 (cI cN : ClassId) (b : Nat → Nat) (an : Nat → Nat → Nat) (s rk : Sz) (sv rv : Nat → Sz) (nx ct : Nat) (iv rj : Int32) (z : Sz) : xUq3.map (fun i => (xRs3 cI cN b an sv rv nx ct iv rj ++ cW cI (an 0) (an 4) z rk (sv 3) (rv 3))[i]?) = (xW cI cN b an z rk sv rv nx ct iv rj).map some := rfl
theorem x_d3 : va_nd xSp3 = true ∧ va_nd xUp3 = true ∧ va_nd xRp3 = true ∧ (∀ i ∈ xRp3, i ∉ xSp3) ∧ (∀ i ∈ xRp3, i ∉ xUp3) ∧ va_nd xSq3 = true ∧ va_nd xUq3 = true := by decide
theorem hd_X0_copyFrom : hdZ yX0_copyFrom 1 := by decide +kernel
set_option maxRecDepth 100000 in
set_option maxHeartbeats 4000000 in
theorem c_X0_copyFrom (l : Launch) (D : va_G) (cI cN : ClassId) (a : Nat → Nat) (a2 : Nat → Nat) (s : Sz) (rk : Sz) (s2 : Sz) (rk2 : Sz) : Fn l D cI cN yX0_copyFrom wsX0_copyFrom 1 (cW cI a a2 s rk s2 rk2) [.ref (a 0), .ref (a2 0)] none (cW cI a a2 s2 rk s2 rk2) := by
  refine Fn.of (cc := cX0_copyFrom) (nL := 2) (ret := none) (lv := [(0, .ref (a 0)), (1, .ref (a2 0))]) (by decide +kernel) rfl (Nat.le_of_ble_eq_true rfl) rfl ?_
  intro p e s_ m args below meth c A B hr hA H locs ls hz hl
  have hx := B.1.1
  have hb := B.1.2.1
  have hinX0 : ∀ w ∈ u_ws RX0 TX0 16, w ∈ wsX0_copyFrom := by decide +kernel
  have lk9 : Cond.fieldLink yX0_copyFrom.cls 9 RX0 (TX0 1).2.1 (TX0 1).2.2.1 ∈ wsX0_copyFrom := by decide +kernel
  have lk15 : Cond.fieldLink yX0_copyFrom.cls 15 RX0 (TX0 2).2.1 (TX0 2).2.2.1 ∈ wsX0_copyFrom := by decide +kernel
  have lk18 : Cond.fieldLink yX0_copyFrom.cls 18 RX0 (TX0 6).2.1 (TX0 6).2.2.1 ∈ wsX0_copyFrom := by decide +kernel
  have lk21 : Cond.fieldLink yX0_copyFrom.cls 21 RX0 (TX0 7).2.1 (TX0 7).2.2.1 ∈ wsX0_copyFrom := by decide +kernel
  have lk24 : Cond.fieldLink yX0_copyFrom.cls 24 RX0 (TX0 8).2.1 (TX0 8).2.2.1 ∈ wsX0_copyFrom := by decide +kernel
  have lk27 : Cond.fieldLink yX0_copyFrom.cls 27 RX0 (TX0 9).2.1 (TX0 9).2.2.1 ∈ wsX0_copyFrom := by decide +kernel
  have lk31 : Cond.fieldLink yX0_copyFrom.cls 31 RX0 (TX0 10).2.1 (TX0 10).2.2.1 ∈ wsX0_copyFrom := by decide +kernel
  have lk34 : Cond.fieldLink yX0_copyFrom.cls 34 RX0 (TX0 11).2.1 (TX0 11).2.2.1 ∈ wsX0_copyFrom := by decide +kernel
  have lk37 : Cond.fieldLink yX0_copyFrom.cls 37 RX0 (TX0 12).2.1 (TX0 12).2.2.1 ∈ wsX0_copyFrom := by decide +kernel
  have lk40 : Cond.fieldLink yX0_copyFrom.cls 40 RX0 (TX0 13).2.1 (TX0 13).2.2.1 ∈ wsX0_copyFrom := by decide +kernel
  have lk43 : Cond.fieldLink yX0_copyFrom.cls 43 RX0 (TX0 14).2.1 (TX0 14).2.2.1 ∈ wsX0_copyFrom := by decide +kernel
  have lk55 : Cond.fieldLink yX0_copyFrom.cls 55 RX0 (TX0 0).2.1 (TX0 0).2.2.1 ∈ wsX0_copyFrom := by decide +kernel
  have lk58 : Cond.fieldLink yX0_copyFrom.cls 58 RX0 (TX0 3).2.1 (TX0 3).2.2.1 ∈ wsX0_copyFrom := by decide +kernel
  have lk61 : Cond.fieldLink yX0_copyFrom.cls 61 RX0 (TX0 4).2.1 (TX0 4).2.2.1 ∈ wsX0_copyFrom := by decide +kernel
  have lk64 : Cond.fieldLink yX0_copyFrom.cls 64 RX0 (TX0 5).2.1 (TX0 5).2.2.1 ∈ wsX0_copyFrom := by decide +kernel
  refine lv_aload_n hx hb dX0_copyFrom_0 rfl (lv_at hl 0 rfl) ?_
  refine lv_aload_n hx hb dX0_copyFrom_1 rfl (lv_at hl 1 rfl) ?_
  refine gz (C := RX0) (T := TX0) (N := 16) (v := .int (s2 0)) B hz hinX0 8 rfl rfl 0 (by decide) lk55 rfl rfl dX0_copyFrom_2 ?_
  refine pz (C := RX0) (T := TX0) (N := 16) (ty := .int) (ws1 := (cW cI a a2 (upd s 0 (s2 0)) rk s2 rk2)) B hz hinX0 tyX0_ok nmX0 0 rfl rfl 0 (by decide) lk55 rfl rfl (by decide +kernel) rfl rfl (Nat.le_of_ble_eq_true rfl) (cW_f0 cI a a2 _ _ _ _ _) dX0_copyFrom_5 (fun H locs hz => ?_)
  refine lv_aload_n hx hb dX0_copyFrom_8 rfl (lv_at hl 0 rfl) ?_
  refine lv_aload_n hx hb dX0_copyFrom_9 rfl (lv_at hl 1 rfl) ?_
  refine gz (C := RX0) (T := TX0) (N := 16) (v := .int (s2 2)) B hz hinX0 8 rfl rfl 1 (by decide) lk9 rfl rfl dX0_copyFrom_10 ?_
  refine pz (C := RX0) (T := TX0) (N := 16) (ty := .int) (ws1 := (cW cI a a2 (upd (upd s 0 (s2 0)) 2 (s2 2)) rk s2 rk2)) B hz hinX0 tyX0_ok nmX0 0 rfl rfl 1 (by decide) lk9 rfl rfl (by decide +kernel) rfl rfl (Nat.le_of_ble_eq_true rfl) (cW_f1 cI a a2 _ _ _ _ _) dX0_copyFrom_13 (fun H locs hz => ?_)
  refine lv_aload_n hx hb dX0_copyFrom_16 rfl (lv_at hl 0 rfl) ?_
  refine lv_aload_n hx hb dX0_copyFrom_17 rfl (lv_at hl 1 rfl) ?_
  refine gz (C := RX0) (T := TX0) (N := 16) (v := .int (s2 1)) B hz hinX0 8 rfl rfl 2 (by decide) lk15 rfl rfl dX0_copyFrom_18 ?_
  refine pz (C := RX0) (T := TX0) (N := 16) (ty := .int) (ws1 := (cW cI a a2 (upd (upd (upd s 0 (s2 0)) 2 (s2 2)) 1 (s2 1)) rk s2 rk2)) B hz hinX0 tyX0_ok nmX0 0 rfl rfl 2 (by decide) lk15 rfl rfl (by decide +kernel) rfl rfl (Nat.le_of_ble_eq_true rfl) (cW_f2 cI a a2 _ _ _ _ _) dX0_copyFrom_21 (fun H locs hz => ?_)
  refine lv_aload_n hx hb dX0_copyFrom_24 rfl (lv_at hl 0 rfl) ?_
  refine lv_aload_n hx hb dX0_copyFrom_25 rfl (lv_at hl 1 rfl) ?_
  refine gz (C := RX0) (T := TX0) (N := 16) (v := .int (s2 3)) B hz hinX0 8 rfl rfl 3 (by decide) lk58 rfl rfl dX0_copyFrom_26 ?_
  refine pz (C := RX0) (T := TX0) (N := 16) (ty := .int) (ws1 := (cW cI a a2 (upd (upd (upd (upd s 0 (s2 0)) 2 (s2 2)) 1 (s2 1)) 3 (s2 3)) rk s2 rk2)) B hz hinX0 tyX0_ok nmX0 0 rfl rfl 3 (by decide) lk58 rfl rfl (by decide +kernel) rfl rfl (Nat.le_of_ble_eq_true rfl) (cW_f3 cI a a2 _ _ _ _ _) dX0_copyFrom_29 (fun H locs hz => ?_)
  refine lv_aload_n hx hb dX0_copyFrom_32 rfl (lv_at hl 0 rfl) ?_
  refine lv_aload_n hx hb dX0_copyFrom_33 rfl (lv_at hl 1 rfl) ?_
  refine gz (C := RX0) (T := TX0) (N := 16) (v := .int (s2 4)) B hz hinX0 8 rfl rfl 4 (by decide) lk61 rfl rfl dX0_copyFrom_34 ?_
  refine pz (C := RX0) (T := TX0) (N := 16) (ty := .int) (ws1 := (cW cI a a2 (upd (upd (upd (upd (upd s 0 (s2 0)) 2 (s2 2)) 1 (s2 1)) 3 (s2 3)) 4 (s2 4)) rk s2 rk2)) B hz hinX0 tyX0_ok nmX0 0 rfl rfl 4 (by decide) lk61 rfl rfl (by decide +kernel) rfl rfl (Nat.le_of_ble_eq_true rfl) (cW_f4 cI a a2 _ _ _ _ _) dX0_copyFrom_37 (fun H locs hz => ?_)
  refine lv_aload_n hx hb dX0_copyFrom_40 rfl (lv_at hl 0 rfl) ?_
  refine lv_aload_n hx hb dX0_copyFrom_41 rfl (lv_at hl 1 rfl) ?_
  refine gz (C := RX0) (T := TX0) (N := 16) (v := .int (s2 5)) B hz hinX0 8 rfl rfl 5 (by decide) lk64 rfl rfl dX0_copyFrom_42 ?_
  refine pz (C := RX0) (T := TX0) (N := 16) (ty := .int) (ws1 := (cW cI a a2 (upd (upd (upd (upd (upd (upd s 0 (s2 0)) 2 (s2 2)) 1 (s2 1)) 3 (s2 3)) 4 (s2 4)) 5 (s2 5)) rk s2 rk2)) B hz hinX0 tyX0_ok nmX0 0 rfl rfl 5 (by decide) lk64 rfl rfl (by decide +kernel) rfl rfl (Nat.le_of_ble_eq_true rfl) (cW_f5 cI a a2 _ _ _ _ _) dX0_copyFrom_45 (fun H locs hz => ?_)
  refine lv_aload_n hx hb dX0_copyFrom_48 rfl (lv_at hl 0 rfl) ?_
  refine lv_aload_n hx hb dX0_copyFrom_49 rfl (lv_at hl 1 rfl) ?_
  refine gz (C := RX0) (T := TX0) (N := 16) (v := .int (s2 6)) B hz hinX0 8 rfl rfl 6 (by decide) lk18 rfl rfl dX0_copyFrom_50 ?_
  refine pz (C := RX0) (T := TX0) (N := 16) (ty := .int) (ws1 := (cW cI a a2 (upd (upd (upd (upd (upd (upd (upd s 0 (s2 0)) 2 (s2 2)) 1 (s2 1)) 3 (s2 3)) 4 (s2 4)) 5 (s2 5)) 6 (s2 6)) rk s2 rk2)) B hz hinX0 tyX0_ok nmX0 0 rfl rfl 6 (by decide) lk18 rfl rfl (by decide +kernel) rfl rfl (Nat.le_of_ble_eq_true rfl) (cW_f6 cI a a2 _ _ _ _ _) dX0_copyFrom_53 (fun H locs hz => ?_)
  refine lv_aload_n hx hb dX0_copyFrom_56 rfl (lv_at hl 0 rfl) ?_
  refine lv_aload_n hx hb dX0_copyFrom_57 rfl (lv_at hl 1 rfl) ?_
  refine gz (C := RX0) (T := TX0) (N := 16) (v := .int (s2 7)) B hz hinX0 8 rfl rfl 7 (by decide) lk21 rfl rfl dX0_copyFrom_58 ?_
  refine pz (C := RX0) (T := TX0) (N := 16) (ty := .int) (ws1 := (cW cI a a2 (upd (upd (upd (upd (upd (upd (upd (upd s 0 (s2 0)) 2 (s2 2)) 1 (s2 1)) 3 (s2 3)) 4 (s2 4)) 5 (s2 5)) 6 (s2 6)) 7 (s2 7)) rk s2 rk2)) B hz hinX0 tyX0_ok nmX0 0 rfl rfl 7 (by decide) lk21 rfl rfl (by decide +kernel) rfl rfl (Nat.le_of_ble_eq_true rfl) (cW_f7 cI a a2 _ _ _ _ _) dX0_copyFrom_61 (fun H locs hz => ?_)
  refine lv_aload_n hx hb dX0_copyFrom_64 rfl (lv_at hl 0 rfl) ?_
  refine lv_aload_n hx hb dX0_copyFrom_65 rfl (lv_at hl 1 rfl) ?_
  refine gz (C := RX0) (T := TX0) (N := 16) (v := .int (s2 8)) B hz hinX0 8 rfl rfl 8 (by decide) lk24 rfl rfl dX0_copyFrom_66 ?_
  refine pz (C := RX0) (T := TX0) (N := 16) (ty := .int) (ws1 := (cW cI a a2 (upd (upd (upd (upd (upd (upd (upd (upd (upd s 0 (s2 0)) 2 (s2 2)) 1 (s2 1)) 3 (s2 3)) 4 (s2 4)) 5 (s2 5)) 6 (s2 6)) 7 (s2 7)) 8 (s2 8)) rk s2 rk2)) B hz hinX0 tyX0_ok nmX0 0 rfl rfl 8 (by decide) lk24 rfl rfl (by decide +kernel) rfl rfl (Nat.le_of_ble_eq_true rfl) (cW_f8 cI a a2 _ _ _ _ _) dX0_copyFrom_69 (fun H locs hz => ?_)
  refine lv_aload_n hx hb dX0_copyFrom_72 rfl (lv_at hl 1 rfl) ?_
  refine gz (C := RX0) (T := TX0) (N := 16) (v := .ref (a2 1)) B hz hinX0 8 rfl rfl 9 (by decide) lk27 rfl rfl dX0_copyFrom_73 ?_
  refine lv_iconst (v := (nI 0)) hx hb dX0_copyFrom_76 (by decide) ?_
  refine lv_aload_n hx hb dX0_copyFrom_77 rfl (lv_at hl 0 rfl) ?_
  refine gz (C := RX0) (T := TX0) (N := 16) (v := .ref (a 1)) B hz hinX0 0 rfl rfl 9 (by decide) lk27 rfl rfl dX0_copyFrom_78 ?_
  refine lv_iconst (v := (nI 0)) hx hb dX0_copyFrom_81 (by decide) ?_
  refine lv_iconst (v := (nI 5)) hx hb dX0_copyFrom_82 (by decide) ?_
  refine cpz (n := 5) (ws1 := (cW cI a a2 (ovr (upd (upd (upd (upd (upd (upd (upd (upd (upd s 0 (s2 0)) 2 (s2 2)) 1 (s2 1)) 3 (s2 3)) 4 (s2 4)) 5 (s2 5)) 6 (s2 6)) 7 (s2 7)) 8 (s2 8)) s2 9 5) rk s2 rk2)) B hz hl.1 (by decide +kernel) (by decide +kernel) (by decide +kernel) (by decide +kernel) 9 1 rfl rfl (by decide) (by decide) (by decide) (cW_c1 cI a a2 _ _ _ _) dX0_copyFrom_83 (fun H locs hz => ?_)
  refine lv_aload_n hx hb dX0_copyFrom_86 rfl (lv_at hl 1 rfl) ?_
  refine gz (C := RX0) (T := TX0) (N := 16) (v := .ref (a2 2)) B hz hinX0 8 rfl rfl 10 (by decide) lk31 rfl rfl dX0_copyFrom_87 ?_
  refine lv_iconst (v := (nI 0)) hx hb dX0_copyFrom_90 (by decide) ?_
  refine lv_aload_n hx hb dX0_copyFrom_91 rfl (lv_at hl 0 rfl) ?_
  refine gz (C := RX0) (T := TX0) (N := 16) (v := .ref (a 2)) B hz hinX0 0 rfl rfl 10 (by decide) lk31 rfl rfl dX0_copyFrom_92 ?_
  refine lv_iconst (v := (nI 0)) hx hb dX0_copyFrom_95 (by decide) ?_
  refine lv_iconst (v := (nI 5)) hx hb dX0_copyFrom_96 (by decide) ?_
  refine cpz (n := 5) (ws1 := (cW cI a a2 (ovr (ovr (upd (upd (upd (upd (upd (upd (upd (upd (upd s 0 (s2 0)) 2 (s2 2)) 1 (s2 1)) 3 (s2 3)) 4 (s2 4)) 5 (s2 5)) 6 (s2 6)) 7 (s2 7)) 8 (s2 8)) s2 9 5) s2 14 5) rk s2 rk2)) B hz hl.1 (by decide +kernel) (by decide +kernel) (by decide +kernel) (by decide +kernel) 10 2 rfl rfl (by decide) (by decide) (by decide) (cW_c2 cI a a2 _ _ _ _) dX0_copyFrom_97 (fun H locs hz => ?_)
  refine lv_aload_n hx hb dX0_copyFrom_100 rfl (lv_at hl 1 rfl) ?_
  refine gz (C := RX0) (T := TX0) (N := 16) (v := .ref (a2 3)) B hz hinX0 8 rfl rfl 11 (by decide) lk34 rfl rfl dX0_copyFrom_101 ?_
  refine lv_iconst (v := (nI 0)) hx hb dX0_copyFrom_104 (by decide) ?_
  refine lv_aload_n hx hb dX0_copyFrom_105 rfl (lv_at hl 0 rfl) ?_
  refine gz (C := RX0) (T := TX0) (N := 16) (v := .ref (a 3)) B hz hinX0 0 rfl rfl 11 (by decide) lk34 rfl rfl dX0_copyFrom_106 ?_
  refine lv_iconst (v := (nI 0)) hx hb dX0_copyFrom_109 (by decide) ?_
  refine lv_iconst (v := (nI 5)) hx hb dX0_copyFrom_110 (by decide) ?_
  refine cpz (n := 5) (ws1 := (cW cI a a2 (ovr (ovr (ovr (upd (upd (upd (upd (upd (upd (upd (upd (upd s 0 (s2 0)) 2 (s2 2)) 1 (s2 1)) 3 (s2 3)) 4 (s2 4)) 5 (s2 5)) 6 (s2 6)) 7 (s2 7)) 8 (s2 8)) s2 9 5) s2 14 5) s2 19 5) rk s2 rk2)) B hz hl.1 (by decide +kernel) (by decide +kernel) (by decide +kernel) (by decide +kernel) 11 3 rfl rfl (by decide) (by decide) (by decide) (cW_c3 cI a a2 _ _ _ _) dX0_copyFrom_111 (fun H locs hz => ?_)
  refine lv_aload_n hx hb dX0_copyFrom_114 rfl (lv_at hl 1 rfl) ?_
  refine gz (C := RX0) (T := TX0) (N := 16) (v := .ref (a2 4)) B hz hinX0 8 rfl rfl 12 (by decide) lk37 rfl rfl dX0_copyFrom_115 ?_
  refine lv_iconst (v := (nI 0)) hx hb dX0_copyFrom_118 (by decide) ?_
  refine lv_aload_n hx hb dX0_copyFrom_119 rfl (lv_at hl 0 rfl) ?_
  refine gz (C := RX0) (T := TX0) (N := 16) (v := .ref (a 4)) B hz hinX0 0 rfl rfl 12 (by decide) lk37 rfl rfl dX0_copyFrom_120 ?_
  refine lv_iconst (v := (nI 0)) hx hb dX0_copyFrom_123 (by decide) ?_
  refine lv_sipush (v := (nI 200)) hx hb dX0_copyFrom_124 (by decide) ?_
  refine cpz (n := 200) (ws1 := (cW cI a a2 (ovr (ovr (ovr (ovr (upd (upd (upd (upd (upd (upd (upd (upd (upd s 0 (s2 0)) 2 (s2 2)) 1 (s2 1)) 3 (s2 3)) 4 (s2 4)) 5 (s2 5)) 6 (s2 6)) 7 (s2 7)) 8 (s2 8)) s2 9 5) s2 14 5) s2 19 5) s2 24 200) rk s2 rk2)) B hz hl.1 (by decide +kernel) (by decide +kernel) (by decide +kernel) (by decide +kernel) 12 4 rfl rfl (by decide) (by decide) (by decide) (cW_c4 cI a a2 _ _ _ _) dX0_copyFrom_127 (fun H locs hz => ?_)
  refine lv_aload_n hx hb dX0_copyFrom_130 rfl (lv_at hl 1 rfl) ?_
  refine gz (C := RX0) (T := TX0) (N := 16) (v := .ref (a2 5)) B hz hinX0 8 rfl rfl 13 (by decide) lk40 rfl rfl dX0_copyFrom_131 ?_
  refine lv_iconst (v := (nI 0)) hx hb dX0_copyFrom_134 (by decide) ?_
  refine lv_aload_n hx hb dX0_copyFrom_135 rfl (lv_at hl 0 rfl) ?_
  refine gz (C := RX0) (T := TX0) (N := 16) (v := .ref (a 5)) B hz hinX0 0 rfl rfl 13 (by decide) lk40 rfl rfl dX0_copyFrom_136 ?_
  refine lv_iconst (v := (nI 0)) hx hb dX0_copyFrom_139 (by decide) ?_
  refine lv_sipush (v := (nI 200)) hx hb dX0_copyFrom_140 (by decide) ?_
  refine cpz (n := 200) (ws1 := (cW cI a a2 (ovr (ovr (ovr (ovr (ovr (upd (upd (upd (upd (upd (upd (upd (upd (upd s 0 (s2 0)) 2 (s2 2)) 1 (s2 1)) 3 (s2 3)) 4 (s2 4)) 5 (s2 5)) 6 (s2 6)) 7 (s2 7)) 8 (s2 8)) s2 9 5) s2 14 5) s2 19 5) s2 24 200) s2 224 200) rk s2 rk2)) B hz hl.1 (by decide +kernel) (by decide +kernel) (by decide +kernel) (by decide +kernel) 13 5 rfl rfl (by decide) (by decide) (by decide) (cW_c5 cI a a2 _ _ _ _) dX0_copyFrom_143 (fun H locs hz => ?_)
  refine lv_aload_n hx hb dX0_copyFrom_146 rfl (lv_at hl 1 rfl) ?_
  refine gz (C := RX0) (T := TX0) (N := 16) (v := .ref (a2 6)) B hz hinX0 8 rfl rfl 14 (by decide) lk43 rfl rfl dX0_copyFrom_147 ?_
  refine lv_iconst (v := (nI 0)) hx hb dX0_copyFrom_150 (by decide) ?_
  refine lv_aload_n hx hb dX0_copyFrom_151 rfl (lv_at hl 0 rfl) ?_
  refine gz (C := RX0) (T := TX0) (N := 16) (v := .ref (a 6)) B hz hinX0 0 rfl rfl 14 (by decide) lk43 rfl rfl dX0_copyFrom_152 ?_
  refine lv_iconst (v := (nI 0)) hx hb dX0_copyFrom_155 (by decide) ?_
  refine lv_sipush (v := (nI 200)) hx hb dX0_copyFrom_156 (by decide) ?_
  refine cpz (n := 200) (ws1 := (cW cI a a2 (ovr (ovr (ovr (ovr (ovr (ovr (upd (upd (upd (upd (upd (upd (upd (upd (upd s 0 (s2 0)) 2 (s2 2)) 1 (s2 1)) 3 (s2 3)) 4 (s2 4)) 5 (s2 5)) 6 (s2 6)) 7 (s2 7)) 8 (s2 8)) s2 9 5) s2 14 5) s2 19 5) s2 24 200) s2 224 200) s2 424 200) rk s2 rk2)) B hz hl.1 (by decide +kernel) (by decide +kernel) (by decide +kernel) (by decide +kernel) 14 6 rfl rfl (by decide) (by decide) (by decide) (cW_c6 cI a a2 _ _ _ _) dX0_copyFrom_159 (fun H locs hz => ?_)
  exact rz_v B hr hz dX0_copyFrom_162 (by exact cW_eq (fun k hk => cp_fin (cp_U s s2) hk))
theorem hd_X1_countInvalid : hdZ yX1_countInvalid 0 := by decide +kernel
set_option maxRecDepth 100000 in
set_option maxHeartbeats 4000000 in
theorem c_X1_countInvalid (l : Launch) (D : va_G) (cI cN : ClassId) (b : Nat → Nat) (an : Nat → Nat → Nat) (s : Sz) (rk : Sz) (sv : Nat → Sz) (rv : Nat → Sz) (nx : Nat) (ct : Nat) (iv : Int32) (rj : Int32) : Fn l D cI cN yX1_countInvalid wsX1_countInvalid 0 (xW cI cN b an s rk sv rv nx ct iv rj) [.ref (b 0)] (some (.int (-2))) (xW cI cN b an s rk sv rv nx ct (iv + nI 1) rj) := by
  refine Fn.of (cc := cX1_countInvalid) (nL := 1) (ret := (some .int)) (lv := [(0, .ref (b 0))]) (by decide +kernel) rfl (Nat.le_of_ble_eq_true rfl) rfl ?_
  intro p e s_ m args below meth c A B hr hA H locs ls hz hl
  have hx := B.1.1
  have hb := B.1.2.1
  have hinX1 : ∀ w ∈ u_ws RX1 TX1 6, w ∈ wsX1_countInvalid := by decide +kernel
  have lk138 : Cond.fieldLink yX1_countInvalid.cls 138 RX1 (TX1 4).2.1 (TX1 4).2.2.1 ∈ wsX1_countInvalid := by decide +kernel
  refine lv_aload_n hx hb dX1_countInvalid_0 rfl (lv_at hl 0 rfl) ?_
  refine lv_dup hx hb dX1_countInvalid_1 rfl ?_
  refine gz (C := RX1) (T := TX1) (N := 6) (v := .int iv) B hz hinX1 0 rfl rfl 4 (by decide) lk138 rfl rfl dX1_countInvalid_2 ?_
  refine lv_iconst (v := (nI 1)) hx hb dX1_countInvalid_5 (by decide) ?_
  refine lv_iadd hx hb dX1_countInvalid_6 ?_
  refine pz (C := RX1) (T := TX1) (N := 6) (ty := .int) (ws1 := (xW cI cN b an s rk sv rv nx ct (iv + (nI 1)) rj)) B hz hinX1 tyX1_ok nmX1 0 rfl rfl 4 (by decide) lk138 rfl rfl (by decide +kernel) rfl rfl (Nat.le_of_ble_eq_true rfl) rfl dX1_countInvalid_7 (fun H locs hz => ?_)
  refine lv_bipush (v := (-2)) hx hb dX1_countInvalid_10 (by decide) ?_
  exact rz_i B hr hz dX1_countInvalid_12 (by rfl) (by rfl)
theorem hd_X1_countRejected : hdZ yX1_countRejected 0 := by decide +kernel
set_option maxRecDepth 100000 in
set_option maxHeartbeats 4000000 in
theorem c_X1_countRejected (l : Launch) (D : va_G) (cI cN : ClassId) (b : Nat → Nat) (an : Nat → Nat → Nat) (s : Sz) (rk : Sz) (sv : Nat → Sz) (rv : Nat → Sz) (nx : Nat) (ct : Nat) (iv : Int32) (rj : Int32) : Fn l D cI cN yX1_countRejected wsX1_countRejected 0 (xW cI cN b an s rk sv rv nx ct iv rj) [.ref (b 0)] (some (.int (-3))) (xW cI cN b an s rk sv rv nx ct iv (rj + nI 1)) := by
  refine Fn.of (cc := cX1_countRejected) (nL := 1) (ret := (some .int)) (lv := [(0, .ref (b 0))]) (by decide +kernel) rfl (Nat.le_of_ble_eq_true rfl) rfl ?_
  intro p e s_ m args below meth c A B hr hA H locs ls hz hl
  have hx := B.1.1
  have hb := B.1.2.1
  have hinX1 : ∀ w ∈ u_ws RX1 TX1 6, w ∈ wsX1_countRejected := by decide +kernel
  have lk141 : Cond.fieldLink yX1_countRejected.cls 141 RX1 (TX1 5).2.1 (TX1 5).2.2.1 ∈ wsX1_countRejected := by decide +kernel
  refine lv_aload_n hx hb dX1_countRejected_0 rfl (lv_at hl 0 rfl) ?_
  refine lv_dup hx hb dX1_countRejected_1 rfl ?_
  refine gz (C := RX1) (T := TX1) (N := 6) (v := .int rj) B hz hinX1 0 rfl rfl 5 (by decide) lk141 rfl rfl dX1_countRejected_2 ?_
  refine lv_iconst (v := (nI 1)) hx hb dX1_countRejected_5 (by decide) ?_
  refine lv_iadd hx hb dX1_countRejected_6 ?_
  refine pz (C := RX1) (T := TX1) (N := 6) (ty := .int) (ws1 := (xW cI cN b an s rk sv rv nx ct iv (rj + (nI 1)))) B hz hinX1 tyX1_ok nmX1 0 rfl rfl 5 (by decide) lk141 rfl rfl (by decide +kernel) rfl rfl (Nat.le_of_ble_eq_true rfl) rfl dX1_countRejected_7 (fun H locs hz => ?_)
  refine lv_bipush (v := (-3)) hx hb dX1_countRejected_10 (by decide) ?_
  exact rz_i B hr hz dX1_countRejected_12 (by rfl) (by rfl)
theorem hd_X1_saveState : hdZ yX1_saveState 0 := by decide +kernel
set_option maxRecDepth 100000 in
set_option maxHeartbeats 4000000 in
theorem c_X1_saveState_0 (l : Launch) (D : va_G) (cI cN : ClassId) (b : Nat → Nat) (an : Nat → Nat → Nat) (s : Sz) (rk : Sz) (sv : Nat → Sz) (rv : Nat → Sz) (ct : Nat) (iv : Int32) (rj : Int32) (hct : ct ≤ 4) : Fn l D cI cN yX1_saveState wsX1_saveState 2 (xW cI cN b an s rk sv rv 0 ct iv rj) [.ref (b 0)] none (xW cI cN b an s rk (upS sv 0 s) rv ((0 + 1) % 4) (min (ct + 1) 4) iv rj) := by
  refine Fn.of (cc := cX1_saveState) (nL := 1) (ret := none) (lv := [(0, .ref (b 0))]) (by decide +kernel) rfl (Nat.le_of_ble_eq_true rfl) rfl ?_
  intro p e s_ m args below meth c A B hr hA H locs ls hz hl
  have hx := B.1.1
  have hb := B.1.2.1
  have hinX1 : ∀ w ∈ u_ws RX1 TX1 6, w ∈ wsX1_saveState := by decide +kernel
  have lk12 : Cond.fieldLink yX1_saveState.cls 12 RX1 (TX1 0).2.1 (TX1 0).2.2.1 ∈ wsX1_saveState := by decide +kernel
  have lk16 : Cond.fieldLink yX1_saveState.cls 16 RX1 (TX1 1).2.1 (TX1 1).2.2.1 ∈ wsX1_saveState := by decide +kernel
  have lk128 : Cond.fieldLink yX1_saveState.cls 128 RX1 (TX1 3).2.1 (TX1 3).2.2.1 ∈ wsX1_saveState := by decide +kernel
  have lk131 : Cond.fieldLink yX1_saveState.cls 131 RX1 (TX1 2).2.1 (TX1 2).2.2.1 ∈ wsX1_saveState := by decide +kernel
  refine lv_aload_n hx hb dX1_saveState_0 rfl (lv_at hl 0 rfl) ?_
  refine gz (C := RX1) (T := TX1) (N := 6) (v := .ref (b 1)) B hz hinX1 0 rfl rfl 1 (by decide) lk16 rfl rfl dX1_saveState_1 ?_
  refine lv_aload_n hx hb dX1_saveState_4 rfl (lv_at hl 0 rfl) ?_
  refine gz (C := RX1) (T := TX1) (N := 6) (v := .int (nI 0)) B hz hinX1 0 rfl rfl 2 (by decide) lk131 rfl rfl dX1_saveState_5 ?_
  refine aldz (n := 4) (j := 0) (v := an 1 0) B hz 1 rfl (by omega) (by decide) rfl dX1_saveState_8 ?_
  refine lv_aload_n hx hb dX1_saveState_9 rfl (lv_at hl 0 rfl) ?_
  refine gz (C := RX1) (T := TX1) (N := 6) (v := .ref (an 0 0)) B hz hinX1 0 rfl rfl 0 (by decide) lk12 rfl rfl dX1_saveState_10 ?_
  refine cPv (k := 2) (As := [.ref (an 0 0)]) (rest := []) (C := RX0) (T := TX0) (N := 16) (ci := 0) (q0 := 0) (ws1 := (xW cI cN b an s rk (upS sv 0 s) rv 0 ct iv rj)) B hz hA (c_X0_copyFrom l D cI cN (an 1) (an 0) (sv 0) (rv 0) s rk) gX1_saveState_X0_copyFrom rfl rfl hd_X0_copyFrom (by decide) rfl rfl rfl hl.1 rfl (Nat.le_of_ble_eq_true rfl) dX1_saveState_13 xSp0 xRp0 xSq0 (xS_C0 cI cN b an s rk sv rv 0 ct iv rj) (xS_R0 cI cN b an s rk sv rv 0 ct iv rj) x_d0.1 x_d0.2.2.1 x_d0.2.2.2.1 x_d0.2.2.2.2.2.1 (xS_S0 cI cN b an s rk sv rv 0 ct iv rj s) (fun H locs hz => ?_)
  refine lv_aload_n hx hb dX1_saveState_16 rfl (lv_at hl 0 rfl) ?_
  refine lv_aload_n hx hb dX1_saveState_17 rfl (lv_at hl 0 rfl) ?_
  refine gz (C := RX1) (T := TX1) (N := 6) (v := .int (nI 0)) B hz hinX1 0 rfl rfl 2 (by decide) lk131 rfl rfl dX1_saveState_18 ?_
  refine lv_iconst (v := (nI 1)) hx hb dX1_saveState_21 (by decide) ?_
  refine ln_add hx hb dX1_saveState_22 ?_
  refine lv_iconst (v := (nI 4)) hx hb dX1_saveState_23 (by decide) ?_
  refine lv_irem hx hb dX1_saveState_24 (nI_ne0 (by omega) (by omega)) ?_
  refine cvt (y := nI ((0 + 1) % 4)) (pk_rem (by omega) (by omega) (by omega)) ?_
  refine pz (C := RX1) (T := TX1) (N := 6) (ty := .int) (ws1 := (xW cI cN b an s rk (upS sv 0 s) rv ((0 + 1) % 4) ct iv rj)) B hz hinX1 tyX1_ok nmX1 0 rfl rfl 2 (by decide) lk131 rfl rfl (by decide +kernel) rfl rfl (Nat.le_of_ble_eq_true rfl) rfl dX1_saveState_25 (fun H locs hz => ?_)
  refine lv_aload_n hx hb dX1_saveState_28 rfl (lv_at hl 0 rfl) ?_
  refine lv_aload_n hx hb dX1_saveState_29 rfl (lv_at hl 0 rfl) ?_
  refine gz (C := RX1) (T := TX1) (N := 6) (v := .int (nI ct)) B hz hinX1 0 rfl rfl 3 (by decide) lk128 rfl rfl dX1_saveState_30 ?_
  refine lv_iconst (v := (nI 1)) hx hb dX1_saveState_33 (by decide) ?_
  refine ln_add hx hb dX1_saveState_34 ?_
  refine lv_iconst (v := (nI 4)) hx hb dX1_saveState_35 (by decide) ?_
  refine va_mmin hx hb (B.1.2.2.1.trans hl.1.symm) B.1.2.2.2.1 (B.1.2.2.2.2 (.methodLink yX1_saveState.cls 160 Lib.Math.min.name) (by decide +kernel)) (B.1.2.2.2.2 (.static Lib.Math.min.name) (by decide +kernel)) (B.1.2.2.2.2 (.initialized "java/lang/Math") (by decide +kernel)) (B.1.2.2.2.2 (.code Lib.Math.min.name Lib.Math.min.code 2 (some .int)) (by decide +kernel)) (Nat.le_of_ble_eq_true rfl) (Nat.le_of_ble_eq_true rfl) (Nat.le_refl _) (Nat.le_refl _) dX1_saveState_36 ?_
  refine cvt (y := nI (min (ct + 1) 4)) (ln_min (by constructor <;> omega)) ?_
  refine pz (C := RX1) (T := TX1) (N := 6) (ty := .int) (ws1 := (xW cI cN b an s rk (upS sv 0 s) rv ((0 + 1) % 4) (min (ct + 1) 4) iv rj)) B hz hinX1 tyX1_ok nmX1 0 rfl rfl 3 (by decide) lk128 rfl rfl (by decide +kernel) rfl rfl (Nat.le_of_ble_eq_true rfl) rfl dX1_saveState_39 (fun H locs hz => ?_)
  exact rz_v B hr hz dX1_saveState_42 (by rfl)
set_option maxRecDepth 100000 in
set_option maxHeartbeats 4000000 in
theorem c_X1_saveState_1 (l : Launch) (D : va_G) (cI cN : ClassId) (b : Nat → Nat) (an : Nat → Nat → Nat) (s : Sz) (rk : Sz) (sv : Nat → Sz) (rv : Nat → Sz) (ct : Nat) (iv : Int32) (rj : Int32) (hct : ct ≤ 4) : Fn l D cI cN yX1_saveState wsX1_saveState 2 (xW cI cN b an s rk sv rv 1 ct iv rj) [.ref (b 0)] none (xW cI cN b an s rk (upS sv 1 s) rv ((1 + 1) % 4) (min (ct + 1) 4) iv rj) := by
  refine Fn.of (cc := cX1_saveState) (nL := 1) (ret := none) (lv := [(0, .ref (b 0))]) (by decide +kernel) rfl (Nat.le_of_ble_eq_true rfl) rfl ?_
  intro p e s_ m args below meth c A B hr hA H locs ls hz hl
  have hx := B.1.1
  have hb := B.1.2.1
  have hinX1 : ∀ w ∈ u_ws RX1 TX1 6, w ∈ wsX1_saveState := by decide +kernel
  have lk12 : Cond.fieldLink yX1_saveState.cls 12 RX1 (TX1 0).2.1 (TX1 0).2.2.1 ∈ wsX1_saveState := by decide +kernel
  have lk16 : Cond.fieldLink yX1_saveState.cls 16 RX1 (TX1 1).2.1 (TX1 1).2.2.1 ∈ wsX1_saveState := by decide +kernel
  have lk128 : Cond.fieldLink yX1_saveState.cls 128 RX1 (TX1 3).2.1 (TX1 3).2.2.1 ∈ wsX1_saveState := by decide +kernel
  have lk131 : Cond.fieldLink yX1_saveState.cls 131 RX1 (TX1 2).2.1 (TX1 2).2.2.1 ∈ wsX1_saveState := by decide +kernel
  refine lv_aload_n hx hb dX1_saveState_0 rfl (lv_at hl 0 rfl) ?_
  refine gz (C := RX1) (T := TX1) (N := 6) (v := .ref (b 1)) B hz hinX1 0 rfl rfl 1 (by decide) lk16 rfl rfl dX1_saveState_1 ?_
  refine lv_aload_n hx hb dX1_saveState_4 rfl (lv_at hl 0 rfl) ?_
  refine gz (C := RX1) (T := TX1) (N := 6) (v := .int (nI 1)) B hz hinX1 0 rfl rfl 2 (by decide) lk131 rfl rfl dX1_saveState_5 ?_
  refine aldz (n := 4) (j := 1) (v := an 2 0) B hz 1 rfl (by omega) (by decide) rfl dX1_saveState_8 ?_
  refine lv_aload_n hx hb dX1_saveState_9 rfl (lv_at hl 0 rfl) ?_
  refine gz (C := RX1) (T := TX1) (N := 6) (v := .ref (an 0 0)) B hz hinX1 0 rfl rfl 0 (by decide) lk12 rfl rfl dX1_saveState_10 ?_
  refine cPv (k := 2) (As := [.ref (an 0 0)]) (rest := []) (C := RX0) (T := TX0) (N := 16) (ci := 0) (q0 := 0) (ws1 := (xW cI cN b an s rk (upS sv 1 s) rv 1 ct iv rj)) B hz hA (c_X0_copyFrom l D cI cN (an 2) (an 0) (sv 1) (rv 1) s rk) gX1_saveState_X0_copyFrom rfl rfl hd_X0_copyFrom (by decide) rfl rfl rfl hl.1 rfl (Nat.le_of_ble_eq_true rfl) dX1_saveState_13 xSp1 xRp1 xSq1 (xS_C1 cI cN b an s rk sv rv 1 ct iv rj) (xS_R1 cI cN b an s rk sv rv 1 ct iv rj) x_d1.1 x_d1.2.2.1 x_d1.2.2.2.1 x_d1.2.2.2.2.2.1 (xS_S1 cI cN b an s rk sv rv 1 ct iv rj s) (fun H locs hz => ?_)
  refine lv_aload_n hx hb dX1_saveState_16 rfl (lv_at hl 0 rfl) ?_
  refine lv_aload_n hx hb dX1_saveState_17 rfl (lv_at hl 0 rfl) ?_
  refine gz (C := RX1) (T := TX1) (N := 6) (v := .int (nI 1)) B hz hinX1 0 rfl rfl 2 (by decide) lk131 rfl rfl dX1_saveState_18 ?_
  refine lv_iconst (v := (nI 1)) hx hb dX1_saveState_21 (by decide) ?_
  refine ln_add hx hb dX1_saveState_22 ?_
  refine lv_iconst (v := (nI 4)) hx hb dX1_saveState_23 (by decide) ?_
  refine lv_irem hx hb dX1_saveState_24 (nI_ne0 (by omega) (by omega)) ?_
  refine cvt (y := nI ((1 + 1) % 4)) (pk_rem (by omega) (by omega) (by omega)) ?_
  refine pz (C := RX1) (T := TX1) (N := 6) (ty := .int) (ws1 := (xW cI cN b an s rk (upS sv 1 s) rv ((1 + 1) % 4) ct iv rj)) B hz hinX1 tyX1_ok nmX1 0 rfl rfl 2 (by decide) lk131 rfl rfl (by decide +kernel) rfl rfl (Nat.le_of_ble_eq_true rfl) rfl dX1_saveState_25 (fun H locs hz => ?_)
  refine lv_aload_n hx hb dX1_saveState_28 rfl (lv_at hl 0 rfl) ?_
  refine lv_aload_n hx hb dX1_saveState_29 rfl (lv_at hl 0 rfl) ?_
  refine gz (C := RX1) (T := TX1) (N := 6) (v := .int (nI ct)) B hz hinX1 0 rfl rfl 3 (by decide) lk128 rfl rfl dX1_saveState_30 ?_
  refine lv_iconst (v := (nI 1)) hx hb dX1_saveState_33 (by decide) ?_
  refine ln_add hx hb dX1_saveState_34 ?_
  refine lv_iconst (v := (nI 4)) hx hb dX1_saveState_35 (by decide) ?_
  refine va_mmin hx hb (B.1.2.2.1.trans hl.1.symm) B.1.2.2.2.1 (B.1.2.2.2.2 (.methodLink yX1_saveState.cls 160 Lib.Math.min.name) (by decide +kernel)) (B.1.2.2.2.2 (.static Lib.Math.min.name) (by decide +kernel)) (B.1.2.2.2.2 (.initialized "java/lang/Math") (by decide +kernel)) (B.1.2.2.2.2 (.code Lib.Math.min.name Lib.Math.min.code 2 (some .int)) (by decide +kernel)) (Nat.le_of_ble_eq_true rfl) (Nat.le_of_ble_eq_true rfl) (Nat.le_refl _) (Nat.le_refl _) dX1_saveState_36 ?_
  refine cvt (y := nI (min (ct + 1) 4)) (ln_min (by constructor <;> omega)) ?_
  refine pz (C := RX1) (T := TX1) (N := 6) (ty := .int) (ws1 := (xW cI cN b an s rk (upS sv 1 s) rv ((1 + 1) % 4) (min (ct + 1) 4) iv rj)) B hz hinX1 tyX1_ok nmX1 0 rfl rfl 3 (by decide) lk128 rfl rfl (by decide +kernel) rfl rfl (Nat.le_of_ble_eq_true rfl) rfl dX1_saveState_39 (fun H locs hz => ?_)
  exact rz_v B hr hz dX1_saveState_42 (by rfl)
set_option maxRecDepth 100000 in
set_option maxHeartbeats 4000000 in
theorem c_X1_saveState_2 (l : Launch) (D : va_G) (cI cN : ClassId) (b : Nat → Nat) (an : Nat → Nat → Nat) (s : Sz) (rk : Sz) (sv : Nat → Sz) (rv : Nat → Sz) (ct : Nat) (iv : Int32) (rj : Int32) (hct : ct ≤ 4) : Fn l D cI cN yX1_saveState wsX1_saveState 2 (xW cI cN b an s rk sv rv 2 ct iv rj) [.ref (b 0)] none (xW cI cN b an s rk (upS sv 2 s) rv ((2 + 1) % 4) (min (ct + 1) 4) iv rj) := by
  refine Fn.of (cc := cX1_saveState) (nL := 1) (ret := none) (lv := [(0, .ref (b 0))]) (by decide +kernel) rfl (Nat.le_of_ble_eq_true rfl) rfl ?_
  intro p e s_ m args below meth c A B hr hA H locs ls hz hl
  have hx := B.1.1
  have hb := B.1.2.1
  have hinX1 : ∀ w ∈ u_ws RX1 TX1 6, w ∈ wsX1_saveState := by decide +kernel
  have lk12 : Cond.fieldLink yX1_saveState.cls 12 RX1 (TX1 0).2.1 (TX1 0).2.2.1 ∈ wsX1_saveState := by decide +kernel
  have lk16 : Cond.fieldLink yX1_saveState.cls 16 RX1 (TX1 1).2.1 (TX1 1).2.2.1 ∈ wsX1_saveState := by decide +kernel
  have lk128 : Cond.fieldLink yX1_saveState.cls 128 RX1 (TX1 3).2.1 (TX1 3).2.2.1 ∈ wsX1_saveState := by decide +kernel
  have lk131 : Cond.fieldLink yX1_saveState.cls 131 RX1 (TX1 2).2.1 (TX1 2).2.2.1 ∈ wsX1_saveState := by decide +kernel
  refine lv_aload_n hx hb dX1_saveState_0 rfl (lv_at hl 0 rfl) ?_
  refine gz (C := RX1) (T := TX1) (N := 6) (v := .ref (b 1)) B hz hinX1 0 rfl rfl 1 (by decide) lk16 rfl rfl dX1_saveState_1 ?_
  refine lv_aload_n hx hb dX1_saveState_4 rfl (lv_at hl 0 rfl) ?_
  refine gz (C := RX1) (T := TX1) (N := 6) (v := .int (nI 2)) B hz hinX1 0 rfl rfl 2 (by decide) lk131 rfl rfl dX1_saveState_5 ?_
  refine aldz (n := 4) (j := 2) (v := an 3 0) B hz 1 rfl (by omega) (by decide) rfl dX1_saveState_8 ?_
  refine lv_aload_n hx hb dX1_saveState_9 rfl (lv_at hl 0 rfl) ?_
  refine gz (C := RX1) (T := TX1) (N := 6) (v := .ref (an 0 0)) B hz hinX1 0 rfl rfl 0 (by decide) lk12 rfl rfl dX1_saveState_10 ?_
  refine cPv (k := 2) (As := [.ref (an 0 0)]) (rest := []) (C := RX0) (T := TX0) (N := 16) (ci := 0) (q0 := 0) (ws1 := (xW cI cN b an s rk (upS sv 2 s) rv 2 ct iv rj)) B hz hA (c_X0_copyFrom l D cI cN (an 3) (an 0) (sv 2) (rv 2) s rk) gX1_saveState_X0_copyFrom rfl rfl hd_X0_copyFrom (by decide) rfl rfl rfl hl.1 rfl (Nat.le_of_ble_eq_true rfl) dX1_saveState_13 xSp2 xRp2 xSq2 (xS_C2 cI cN b an s rk sv rv 2 ct iv rj) (xS_R2 cI cN b an s rk sv rv 2 ct iv rj) x_d2.1 x_d2.2.2.1 x_d2.2.2.2.1 x_d2.2.2.2.2.2.1 (xS_S2 cI cN b an s rk sv rv 2 ct iv rj s) (fun H locs hz => ?_)
  refine lv_aload_n hx hb dX1_saveState_16 rfl (lv_at hl 0 rfl) ?_
  refine lv_aload_n hx hb dX1_saveState_17 rfl (lv_at hl 0 rfl) ?_
  refine gz (C := RX1) (T := TX1) (N := 6) (v := .int (nI 2)) B hz hinX1 0 rfl rfl 2 (by decide) lk131 rfl rfl dX1_saveState_18 ?_
  refine lv_iconst (v := (nI 1)) hx hb dX1_saveState_21 (by decide) ?_
  refine ln_add hx hb dX1_saveState_22 ?_
  refine lv_iconst (v := (nI 4)) hx hb dX1_saveState_23 (by decide) ?_
  refine lv_irem hx hb dX1_saveState_24 (nI_ne0 (by omega) (by omega)) ?_
  refine cvt (y := nI ((2 + 1) % 4)) (pk_rem (by omega) (by omega) (by omega)) ?_
  refine pz (C := RX1) (T := TX1) (N := 6) (ty := .int) (ws1 := (xW cI cN b an s rk (upS sv 2 s) rv ((2 + 1) % 4) ct iv rj)) B hz hinX1 tyX1_ok nmX1 0 rfl rfl 2 (by decide) lk131 rfl rfl (by decide +kernel) rfl rfl (Nat.le_of_ble_eq_true rfl) rfl dX1_saveState_25 (fun H locs hz => ?_)
  refine lv_aload_n hx hb dX1_saveState_28 rfl (lv_at hl 0 rfl) ?_
  refine lv_aload_n hx hb dX1_saveState_29 rfl (lv_at hl 0 rfl) ?_
  refine gz (C := RX1) (T := TX1) (N := 6) (v := .int (nI ct)) B hz hinX1 0 rfl rfl 3 (by decide) lk128 rfl rfl dX1_saveState_30 ?_
  refine lv_iconst (v := (nI 1)) hx hb dX1_saveState_33 (by decide) ?_
  refine ln_add hx hb dX1_saveState_34 ?_
  refine lv_iconst (v := (nI 4)) hx hb dX1_saveState_35 (by decide) ?_
  refine va_mmin hx hb (B.1.2.2.1.trans hl.1.symm) B.1.2.2.2.1 (B.1.2.2.2.2 (.methodLink yX1_saveState.cls 160 Lib.Math.min.name) (by decide +kernel)) (B.1.2.2.2.2 (.static Lib.Math.min.name) (by decide +kernel)) (B.1.2.2.2.2 (.initialized "java/lang/Math") (by decide +kernel)) (B.1.2.2.2.2 (.code Lib.Math.min.name Lib.Math.min.code 2 (some .int)) (by decide +kernel)) (Nat.le_of_ble_eq_true rfl) (Nat.le_of_ble_eq_true rfl) (Nat.le_refl _) (Nat.le_refl _) dX1_saveState_36 ?_
  refine cvt (y := nI (min (ct + 1) 4)) (ln_min (by constructor <;> omega)) ?_
  refine pz (C := RX1) (T := TX1) (N := 6) (ty := .int) (ws1 := (xW cI cN b an s rk (upS sv 2 s) rv ((2 + 1) % 4) (min (ct + 1) 4) iv rj)) B hz hinX1 tyX1_ok nmX1 0 rfl rfl 3 (by decide) lk128 rfl rfl (by decide +kernel) rfl rfl (Nat.le_of_ble_eq_true rfl) rfl dX1_saveState_39 (fun H locs hz => ?_)
  exact rz_v B hr hz dX1_saveState_42 (by rfl)
set_option maxRecDepth 100000 in
set_option maxHeartbeats 4000000 in
theorem c_X1_saveState_3 (l : Launch) (D : va_G) (cI cN : ClassId) (b : Nat → Nat) (an : Nat → Nat → Nat) (s : Sz) (rk : Sz) (sv : Nat → Sz) (rv : Nat → Sz) (ct : Nat) (iv : Int32) (rj : Int32) (hct : ct ≤ 4) : Fn l D cI cN yX1_saveState wsX1_saveState 2 (xW cI cN b an s rk sv rv 3 ct iv rj) [.ref (b 0)] none (xW cI cN b an s rk (upS sv 3 s) rv ((3 + 1) % 4) (min (ct + 1) 4) iv rj) := by
  refine Fn.of (cc := cX1_saveState) (nL := 1) (ret := none) (lv := [(0, .ref (b 0))]) (by decide +kernel) rfl (Nat.le_of_ble_eq_true rfl) rfl ?_
  intro p e s_ m args below meth c A B hr hA H locs ls hz hl
  have hx := B.1.1
  have hb := B.1.2.1
  have hinX1 : ∀ w ∈ u_ws RX1 TX1 6, w ∈ wsX1_saveState := by decide +kernel
  have lk12 : Cond.fieldLink yX1_saveState.cls 12 RX1 (TX1 0).2.1 (TX1 0).2.2.1 ∈ wsX1_saveState := by decide +kernel
  have lk16 : Cond.fieldLink yX1_saveState.cls 16 RX1 (TX1 1).2.1 (TX1 1).2.2.1 ∈ wsX1_saveState := by decide +kernel
  have lk128 : Cond.fieldLink yX1_saveState.cls 128 RX1 (TX1 3).2.1 (TX1 3).2.2.1 ∈ wsX1_saveState := by decide +kernel
  have lk131 : Cond.fieldLink yX1_saveState.cls 131 RX1 (TX1 2).2.1 (TX1 2).2.2.1 ∈ wsX1_saveState := by decide +kernel
  refine lv_aload_n hx hb dX1_saveState_0 rfl (lv_at hl 0 rfl) ?_
  refine gz (C := RX1) (T := TX1) (N := 6) (v := .ref (b 1)) B hz hinX1 0 rfl rfl 1 (by decide) lk16 rfl rfl dX1_saveState_1 ?_
  refine lv_aload_n hx hb dX1_saveState_4 rfl (lv_at hl 0 rfl) ?_
  refine gz (C := RX1) (T := TX1) (N := 6) (v := .int (nI 3)) B hz hinX1 0 rfl rfl 2 (by decide) lk131 rfl rfl dX1_saveState_5 ?_
  refine aldz (n := 4) (j := 3) (v := an 4 0) B hz 1 rfl (by omega) (by decide) rfl dX1_saveState_8 ?_
  refine lv_aload_n hx hb dX1_saveState_9 rfl (lv_at hl 0 rfl) ?_
  refine gz (C := RX1) (T := TX1) (N := 6) (v := .ref (an 0 0)) B hz hinX1 0 rfl rfl 0 (by decide) lk12 rfl rfl dX1_saveState_10 ?_
  refine cPv (k := 2) (As := [.ref (an 0 0)]) (rest := []) (C := RX0) (T := TX0) (N := 16) (ci := 0) (q0 := 0) (ws1 := (xW cI cN b an s rk (upS sv 3 s) rv 3 ct iv rj)) B hz hA (c_X0_copyFrom l D cI cN (an 4) (an 0) (sv 3) (rv 3) s rk) gX1_saveState_X0_copyFrom rfl rfl hd_X0_copyFrom (by decide) rfl rfl rfl hl.1 rfl (Nat.le_of_ble_eq_true rfl) dX1_saveState_13 xSp3 xRp3 xSq3 (xS_C3 cI cN b an s rk sv rv 3 ct iv rj) (xS_R3 cI cN b an s rk sv rv 3 ct iv rj) x_d3.1 x_d3.2.2.1 x_d3.2.2.2.1 x_d3.2.2.2.2.2.1 (xS_S3 cI cN b an s rk sv rv 3 ct iv rj s) (fun H locs hz => ?_)
  refine lv_aload_n hx hb dX1_saveState_16 rfl (lv_at hl 0 rfl) ?_
  refine lv_aload_n hx hb dX1_saveState_17 rfl (lv_at hl 0 rfl) ?_
  refine gz (C := RX1) (T := TX1) (N := 6) (v := .int (nI 3)) B hz hinX1 0 rfl rfl 2 (by decide) lk131 rfl rfl dX1_saveState_18 ?_
  refine lv_iconst (v := (nI 1)) hx hb dX1_saveState_21 (by decide) ?_
  refine ln_add hx hb dX1_saveState_22 ?_
  refine lv_iconst (v := (nI 4)) hx hb dX1_saveState_23 (by decide) ?_
  refine lv_irem hx hb dX1_saveState_24 (nI_ne0 (by omega) (by omega)) ?_
  refine cvt (y := nI ((3 + 1) % 4)) (pk_rem (by omega) (by omega) (by omega)) ?_
  refine pz (C := RX1) (T := TX1) (N := 6) (ty := .int) (ws1 := (xW cI cN b an s rk (upS sv 3 s) rv ((3 + 1) % 4) ct iv rj)) B hz hinX1 tyX1_ok nmX1 0 rfl rfl 2 (by decide) lk131 rfl rfl (by decide +kernel) rfl rfl (Nat.le_of_ble_eq_true rfl) rfl dX1_saveState_25 (fun H locs hz => ?_)
  refine lv_aload_n hx hb dX1_saveState_28 rfl (lv_at hl 0 rfl) ?_
  refine lv_aload_n hx hb dX1_saveState_29 rfl (lv_at hl 0 rfl) ?_
  refine gz (C := RX1) (T := TX1) (N := 6) (v := .int (nI ct)) B hz hinX1 0 rfl rfl 3 (by decide) lk128 rfl rfl dX1_saveState_30 ?_
  refine lv_iconst (v := (nI 1)) hx hb dX1_saveState_33 (by decide) ?_
  refine ln_add hx hb dX1_saveState_34 ?_
  refine lv_iconst (v := (nI 4)) hx hb dX1_saveState_35 (by decide) ?_
  refine va_mmin hx hb (B.1.2.2.1.trans hl.1.symm) B.1.2.2.2.1 (B.1.2.2.2.2 (.methodLink yX1_saveState.cls 160 Lib.Math.min.name) (by decide +kernel)) (B.1.2.2.2.2 (.static Lib.Math.min.name) (by decide +kernel)) (B.1.2.2.2.2 (.initialized "java/lang/Math") (by decide +kernel)) (B.1.2.2.2.2 (.code Lib.Math.min.name Lib.Math.min.code 2 (some .int)) (by decide +kernel)) (Nat.le_of_ble_eq_true rfl) (Nat.le_of_ble_eq_true rfl) (Nat.le_refl _) (Nat.le_refl _) dX1_saveState_36 ?_
  refine cvt (y := nI (min (ct + 1) 4)) (ln_min (by constructor <;> omega)) ?_
  refine pz (C := RX1) (T := TX1) (N := 6) (ty := .int) (ws1 := (xW cI cN b an s rk (upS sv 3 s) rv ((3 + 1) % 4) (min (ct + 1) 4) iv rj)) B hz hinX1 tyX1_ok nmX1 0 rfl rfl 3 (by decide) lk128 rfl rfl (by decide +kernel) rfl rfl (Nat.le_of_ble_eq_true rfl) rfl dX1_saveState_39 (fun H locs hz => ?_)
  exact rz_v B hr hz dX1_saveState_42 (by rfl)
theorem c_X1_saveState (l : Launch) (D : va_G) (cI cN : ClassId) (b : Nat → Nat) (an : Nat → Nat → Nat) (s : Sz) (rk : Sz) (sv : Nat → Sz) (rv : Nat → Sz) (nx : Nat) (ct : Nat) (iv : Int32) (rj : Int32) (hnx : nx < 4) (hct : ct ≤ 4) : Fn l D cI cN yX1_saveState wsX1_saveState 2 (xW cI cN b an s rk sv rv nx ct iv rj) [.ref (b 0)] none (xW cI cN b an s rk (upS sv nx s) rv ((nx + 1) % 4) (min (ct + 1) 4) iv rj) := by
  rcases (show nx = 0 ∨ nx = 1 ∨ nx = 2 ∨ nx = 3 by omega) with rfl | rfl | rfl | rfl
  · exact c_X1_saveState_0 l D cI cN b an s rk sv rv ct iv rj hct
  · exact c_X1_saveState_1 l D cI cN b an s rk sv rv ct iv rj hct
  · exact c_X1_saveState_2 l D cI cN b an s rk sv rv ct iv rj hct
  · exact c_X1_saveState_3 l D cI cN b an s rk sv rv ct iv rj hct
theorem hd_X1_undo : hdZ yX1_undo 0 := by decide +kernel
set_option maxRecDepth 100000 in
set_option maxHeartbeats 4000000 in
theorem c_X1_undo_0 (l : Launch) (D : va_G) (cI cN : ClassId) (b : Nat → Nat) (an : Nat → Nat → Nat) (s : Sz) (rk : Sz) (sv : Nat → Sz) (rv : Nat → Sz) (ct : Nat) (iv : Int32) (rj : Int32) (hct : ct ≤ 4) : Fn l D cI cN yX1_undo wsX1_undo 2 (xW cI cN b an s rk sv rv 0 ct iv rj) [.ref (b 0)] (some (.int (if ct = 0 then -3 else nI (ct - 1)))) (xW cI cN b an (if ct = 0 then s else sv ((0 + 4 - 1) % 4)) rk sv rv (if ct = 0 then 0 else (0 + 4 - 1) % 4) (ct - 1) iv (if ct = 0 then rj + nI 1 else rj)) := by
  refine Fn.of (cc := cX1_undo) (nL := 1) (ret := (some .int)) (lv := [(0, .ref (b 0))]) (by decide +kernel) rfl (Nat.le_of_ble_eq_true rfl) rfl ?_
  intro p e s_ m args below meth c A B hr hA H locs ls hz hl
  have hx := B.1.1
  have hb := B.1.2.1
  have hinX1 : ∀ w ∈ u_ws RX1 TX1 6, w ∈ wsX1_undo := by decide +kernel
  have lk12 : Cond.fieldLink yX1_undo.cls 12 RX1 (TX1 0).2.1 (TX1 0).2.2.1 ∈ wsX1_undo := by decide +kernel
  have lk16 : Cond.fieldLink yX1_undo.cls 16 RX1 (TX1 1).2.1 (TX1 1).2.2.1 ∈ wsX1_undo := by decide +kernel
  have lk128 : Cond.fieldLink yX1_undo.cls 128 RX1 (TX1 3).2.1 (TX1 3).2.2.1 ∈ wsX1_undo := by decide +kernel
  have lk131 : Cond.fieldLink yX1_undo.cls 131 RX1 (TX1 2).2.1 (TX1 2).2.2.1 ∈ wsX1_undo := by decide +kernel
  refine lv_aload_n hx hb dX1_undo_0 rfl (lv_at hl 0 rfl) ?_
  refine gz (C := RX1) (T := TX1) (N := 6) (v := .int (nI ct)) B hz hinX1 0 rfl rfl 3 (by decide) lk128 rfl rfl dX1_undo_1 ?_
  refine ln_if_ne (tgt := 12) hx hb dX1_undo_4 (by decide) (by omega) (fun c4 => ?_) (fun c4 => ?_)
  · refine lv_aload_n hx hb dX1_undo_12 rfl (lv_at hl 0 rfl) ?_
    refine lv_aload_n hx hb dX1_undo_13 rfl (lv_at hl 0 rfl) ?_
    refine gz (C := RX1) (T := TX1) (N := 6) (v := .int (nI 0)) B hz hinX1 0 rfl rfl 2 (by decide) lk131 rfl rfl dX1_undo_14 ?_
    refine lv_iconst (v := (nI 4)) hx hb dX1_undo_17 (by decide) ?_
    refine ln_add hx hb dX1_undo_18 ?_
    refine lv_iconst (v := (nI 1)) hx hb dX1_undo_19 (by decide) ?_
    refine lv_isub hx hb dX1_undo_20 ?_
    refine cvt (y := nI (0 + 4 - 1)) (pk_sub (by omega)) ?_
    refine lv_iconst (v := (nI 4)) hx hb dX1_undo_21 (by decide) ?_
    refine lv_irem hx hb dX1_undo_22 (nI_ne0 (by omega) (by omega)) ?_
    refine cvt (y := nI ((0 + 4 - 1) % 4)) (pk_rem (by omega) (by omega) (by omega)) ?_
    refine pz (C := RX1) (T := TX1) (N := 6) (ty := .int) (ws1 := (xW cI cN b an s rk sv rv ((0 + 4 - 1) % 4) ct iv rj)) B hz hinX1 tyX1_ok nmX1 0 rfl rfl 2 (by decide) lk131 rfl rfl (by decide +kernel) rfl rfl (Nat.le_of_ble_eq_true rfl) rfl dX1_undo_23 (fun H locs hz => ?_)
    refine lv_aload_n hx hb dX1_undo_26 rfl (lv_at hl 0 rfl) ?_
    refine lv_dup hx hb dX1_undo_27 rfl ?_
    refine gz (C := RX1) (T := TX1) (N := 6) (v := .int (nI ct)) B hz hinX1 0 rfl rfl 3 (by decide) lk128 rfl rfl dX1_undo_28 ?_
    refine lv_iconst (v := (nI 1)) hx hb dX1_undo_31 (by decide) ?_
    refine lv_isub hx hb dX1_undo_32 ?_
    refine cvt (y := nI (ct - 1)) (pk_sub (by omega)) ?_
    refine pz (C := RX1) (T := TX1) (N := 6) (ty := .int) (ws1 := (xW cI cN b an s rk sv rv ((0 + 4 - 1) % 4) (ct - 1) iv rj)) B hz hinX1 tyX1_ok nmX1 0 rfl rfl 3 (by decide) lk128 rfl rfl (by decide +kernel) rfl rfl (Nat.le_of_ble_eq_true rfl) rfl dX1_undo_33 (fun H locs hz => ?_)
    refine lv_aload_n hx hb dX1_undo_36 rfl (lv_at hl 0 rfl) ?_
    refine gz (C := RX1) (T := TX1) (N := 6) (v := .ref (an 0 0)) B hz hinX1 0 rfl rfl 0 (by decide) lk12 rfl rfl dX1_undo_37 ?_
    refine lv_aload_n hx hb dX1_undo_40 rfl (lv_at hl 0 rfl) ?_
    refine gz (C := RX1) (T := TX1) (N := 6) (v := .ref (b 1)) B hz hinX1 0 rfl rfl 1 (by decide) lk16 rfl rfl dX1_undo_41 ?_
    refine lv_aload_n hx hb dX1_undo_44 rfl (lv_at hl 0 rfl) ?_
    refine gz (C := RX1) (T := TX1) (N := 6) (v := .int (nI ((0 + 4 - 1) % 4))) B hz hinX1 0 rfl rfl 2 (by decide) lk131 rfl rfl dX1_undo_45 ?_
    refine aldz (n := 4) (j := ((0 + 4 - 1) % 4)) (v := an 4 0) B hz 1 rfl (by omega) (by decide) rfl dX1_undo_48 ?_
    refine cPv (k := 2) (As := [.ref (an 4 0)]) (rest := []) (C := RX0) (T := TX0) (N := 16) (ci := 0) (q0 := 0) (ws1 := (xW cI cN b an (sv 3) rk sv rv ((0 + 4 - 1) % 4) (ct - 1) iv rj)) B hz hA (c_X0_copyFrom l D cI cN (an 0) (an 4) s rk (sv 3) (rv 3)) gX1_undo_X0_copyFrom rfl rfl hd_X0_copyFrom (by decide) rfl rfl rfl hl.1 rfl (Nat.le_of_ble_eq_true rfl) dX1_undo_49 xUp3 xRp3 xUq3 (xU_C3 cI cN b an s rk sv rv ((0 + 4 - 1) % 4) (ct - 1) iv rj) (xS_R3 cI cN b an s rk sv rv ((0 + 4 - 1) % 4) (ct - 1) iv rj) x_d3.2.1 x_d3.2.2.1 x_d3.2.2.2.2.1 x_d3.2.2.2.2.2.2 (xU_S3 cI cN b an s rk sv rv ((0 + 4 - 1) % 4) (ct - 1) iv rj (sv 3)) (fun H locs hz => ?_)
    refine lv_aload_n hx hb dX1_undo_52 rfl (lv_at hl 0 rfl) ?_
    refine gz (C := RX1) (T := TX1) (N := 6) (v := .int (nI (ct - 1))) B hz hinX1 0 rfl rfl 3 (by decide) lk128 rfl rfl dX1_undo_53 ?_
    exact rz_i B hr hz dX1_undo_56 (by first | rw [if_pos c4] | rw [if_neg c4]) (by first | (rw [if_pos c4, if_pos c4, if_pos c4, show ct - 1 = ct by omega]; done) | (rw [if_neg c4, if_neg c4, if_neg c4]; done) | (rw [if_neg c4, if_neg c4, if_neg c4]; rfl))
  · refine lv_aload_n hx hb dX1_undo_7 rfl (lv_at hl 0 rfl) ?_
    refine cV (C := RX1) (T := TX1) (N := 6) (ci := 1) (q0 := 0) (k := 2) (As := []) (rest := []) (v := .int (-3)) (ws1 := (xW cI cN b an s rk sv rv 0 ct iv (rj + nI 1))) B hz hA (c_X1_countRejected l D cI cN b an s rk sv rv 0 ct iv rj  ) gX1_undo_X1_countRejected rfl rfl hd_X1_countRejected (by decide) rfl rfl rfl hl.1 rfl (Nat.le_of_ble_eq_true rfl) dX1_undo_8 (fun H locs hz => ?_)
    exact rz_i B hr hz dX1_undo_11 (by first | rw [if_pos c4] | rw [if_neg c4]) (by first | (rw [if_pos c4, if_pos c4, if_pos c4, show ct - 1 = ct by omega]; done) | (rw [if_neg c4, if_neg c4, if_neg c4]; done) | (rw [if_neg c4, if_neg c4, if_neg c4]; rfl))
set_option maxRecDepth 100000 in
set_option maxHeartbeats 4000000 in
theorem c_X1_undo_1 (l : Launch) (D : va_G) (cI cN : ClassId) (b : Nat → Nat) (an : Nat → Nat → Nat) (s : Sz) (rk : Sz) (sv : Nat → Sz) (rv : Nat → Sz) (ct : Nat) (iv : Int32) (rj : Int32) (hct : ct ≤ 4) : Fn l D cI cN yX1_undo wsX1_undo 2 (xW cI cN b an s rk sv rv 1 ct iv rj) [.ref (b 0)] (some (.int (if ct = 0 then -3 else nI (ct - 1)))) (xW cI cN b an (if ct = 0 then s else sv ((1 + 4 - 1) % 4)) rk sv rv (if ct = 0 then 1 else (1 + 4 - 1) % 4) (ct - 1) iv (if ct = 0 then rj + nI 1 else rj)) := by
  refine Fn.of (cc := cX1_undo) (nL := 1) (ret := (some .int)) (lv := [(0, .ref (b 0))]) (by decide +kernel) rfl (Nat.le_of_ble_eq_true rfl) rfl ?_
  intro p e s_ m args below meth c A B hr hA H locs ls hz hl
  have hx := B.1.1
  have hb := B.1.2.1
  have hinX1 : ∀ w ∈ u_ws RX1 TX1 6, w ∈ wsX1_undo := by decide +kernel
  have lk12 : Cond.fieldLink yX1_undo.cls 12 RX1 (TX1 0).2.1 (TX1 0).2.2.1 ∈ wsX1_undo := by decide +kernel
  have lk16 : Cond.fieldLink yX1_undo.cls 16 RX1 (TX1 1).2.1 (TX1 1).2.2.1 ∈ wsX1_undo := by decide +kernel
  have lk128 : Cond.fieldLink yX1_undo.cls 128 RX1 (TX1 3).2.1 (TX1 3).2.2.1 ∈ wsX1_undo := by decide +kernel
  have lk131 : Cond.fieldLink yX1_undo.cls 131 RX1 (TX1 2).2.1 (TX1 2).2.2.1 ∈ wsX1_undo := by decide +kernel
  refine lv_aload_n hx hb dX1_undo_0 rfl (lv_at hl 0 rfl) ?_
  refine gz (C := RX1) (T := TX1) (N := 6) (v := .int (nI ct)) B hz hinX1 0 rfl rfl 3 (by decide) lk128 rfl rfl dX1_undo_1 ?_
  refine ln_if_ne (tgt := 12) hx hb dX1_undo_4 (by decide) (by omega) (fun c4 => ?_) (fun c4 => ?_)
  · refine lv_aload_n hx hb dX1_undo_12 rfl (lv_at hl 0 rfl) ?_
    refine lv_aload_n hx hb dX1_undo_13 rfl (lv_at hl 0 rfl) ?_
    refine gz (C := RX1) (T := TX1) (N := 6) (v := .int (nI 1)) B hz hinX1 0 rfl rfl 2 (by decide) lk131 rfl rfl dX1_undo_14 ?_
    refine lv_iconst (v := (nI 4)) hx hb dX1_undo_17 (by decide) ?_
    refine ln_add hx hb dX1_undo_18 ?_
    refine lv_iconst (v := (nI 1)) hx hb dX1_undo_19 (by decide) ?_
    refine lv_isub hx hb dX1_undo_20 ?_
    refine cvt (y := nI (1 + 4 - 1)) (pk_sub (by omega)) ?_
    refine lv_iconst (v := (nI 4)) hx hb dX1_undo_21 (by decide) ?_
    refine lv_irem hx hb dX1_undo_22 (nI_ne0 (by omega) (by omega)) ?_
    refine cvt (y := nI ((1 + 4 - 1) % 4)) (pk_rem (by omega) (by omega) (by omega)) ?_
    refine pz (C := RX1) (T := TX1) (N := 6) (ty := .int) (ws1 := (xW cI cN b an s rk sv rv ((1 + 4 - 1) % 4) ct iv rj)) B hz hinX1 tyX1_ok nmX1 0 rfl rfl 2 (by decide) lk131 rfl rfl (by decide +kernel) rfl rfl (Nat.le_of_ble_eq_true rfl) rfl dX1_undo_23 (fun H locs hz => ?_)
    refine lv_aload_n hx hb dX1_undo_26 rfl (lv_at hl 0 rfl) ?_
    refine lv_dup hx hb dX1_undo_27 rfl ?_
    refine gz (C := RX1) (T := TX1) (N := 6) (v := .int (nI ct)) B hz hinX1 0 rfl rfl 3 (by decide) lk128 rfl rfl dX1_undo_28 ?_
    refine lv_iconst (v := (nI 1)) hx hb dX1_undo_31 (by decide) ?_
    refine lv_isub hx hb dX1_undo_32 ?_
    refine cvt (y := nI (ct - 1)) (pk_sub (by omega)) ?_
    refine pz (C := RX1) (T := TX1) (N := 6) (ty := .int) (ws1 := (xW cI cN b an s rk sv rv ((1 + 4 - 1) % 4) (ct - 1) iv rj)) B hz hinX1 tyX1_ok nmX1 0 rfl rfl 3 (by decide) lk128 rfl rfl (by decide +kernel) rfl rfl (Nat.le_of_ble_eq_true rfl) rfl dX1_undo_33 (fun H locs hz => ?_)
    refine lv_aload_n hx hb dX1_undo_36 rfl (lv_at hl 0 rfl) ?_
    refine gz (C := RX1) (T := TX1) (N := 6) (v := .ref (an 0 0)) B hz hinX1 0 rfl rfl 0 (by decide) lk12 rfl rfl dX1_undo_37 ?_
    refine lv_aload_n hx hb dX1_undo_40 rfl (lv_at hl 0 rfl) ?_
    refine gz (C := RX1) (T := TX1) (N := 6) (v := .ref (b 1)) B hz hinX1 0 rfl rfl 1 (by decide) lk16 rfl rfl dX1_undo_41 ?_
    refine lv_aload_n hx hb dX1_undo_44 rfl (lv_at hl 0 rfl) ?_
    refine gz (C := RX1) (T := TX1) (N := 6) (v := .int (nI ((1 + 4 - 1) % 4))) B hz hinX1 0 rfl rfl 2 (by decide) lk131 rfl rfl dX1_undo_45 ?_
    refine aldz (n := 4) (j := ((1 + 4 - 1) % 4)) (v := an 1 0) B hz 1 rfl (by omega) (by decide) rfl dX1_undo_48 ?_
    refine cPv (k := 2) (As := [.ref (an 1 0)]) (rest := []) (C := RX0) (T := TX0) (N := 16) (ci := 0) (q0 := 0) (ws1 := (xW cI cN b an (sv 0) rk sv rv ((1 + 4 - 1) % 4) (ct - 1) iv rj)) B hz hA (c_X0_copyFrom l D cI cN (an 0) (an 1) s rk (sv 0) (rv 0)) gX1_undo_X0_copyFrom rfl rfl hd_X0_copyFrom (by decide) rfl rfl rfl hl.1 rfl (Nat.le_of_ble_eq_true rfl) dX1_undo_49 xUp0 xRp0 xUq0 (xU_C0 cI cN b an s rk sv rv ((1 + 4 - 1) % 4) (ct - 1) iv rj) (xS_R0 cI cN b an s rk sv rv ((1 + 4 - 1) % 4) (ct - 1) iv rj) x_d0.2.1 x_d0.2.2.1 x_d0.2.2.2.2.1 x_d0.2.2.2.2.2.2 (xU_S0 cI cN b an s rk sv rv ((1 + 4 - 1) % 4) (ct - 1) iv rj (sv 0)) (fun H locs hz => ?_)
    refine lv_aload_n hx hb dX1_undo_52 rfl (lv_at hl 0 rfl) ?_
    refine gz (C := RX1) (T := TX1) (N := 6) (v := .int (nI (ct - 1))) B hz hinX1 0 rfl rfl 3 (by decide) lk128 rfl rfl dX1_undo_53 ?_
    exact rz_i B hr hz dX1_undo_56 (by first | rw [if_pos c4] | rw [if_neg c4]) (by first | (rw [if_pos c4, if_pos c4, if_pos c4, show ct - 1 = ct by omega]; done) | (rw [if_neg c4, if_neg c4, if_neg c4]; done) | (rw [if_neg c4, if_neg c4, if_neg c4]; rfl))
  · refine lv_aload_n hx hb dX1_undo_7 rfl (lv_at hl 0 rfl) ?_
    refine cV (C := RX1) (T := TX1) (N := 6) (ci := 1) (q0 := 0) (k := 2) (As := []) (rest := []) (v := .int (-3)) (ws1 := (xW cI cN b an s rk sv rv 1 ct iv (rj + nI 1))) B hz hA (c_X1_countRejected l D cI cN b an s rk sv rv 1 ct iv rj  ) gX1_undo_X1_countRejected rfl rfl hd_X1_countRejected (by decide) rfl rfl rfl hl.1 rfl (Nat.le_of_ble_eq_true rfl) dX1_undo_8 (fun H locs hz => ?_)
    exact rz_i B hr hz dX1_undo_11 (by first | rw [if_pos c4] | rw [if_neg c4]) (by first | (rw [if_pos c4, if_pos c4, if_pos c4, show ct - 1 = ct by omega]; done) | (rw [if_neg c4, if_neg c4, if_neg c4]; done) | (rw [if_neg c4, if_neg c4, if_neg c4]; rfl))
set_option maxRecDepth 100000 in
set_option maxHeartbeats 4000000 in
theorem c_X1_undo_2 (l : Launch) (D : va_G) (cI cN : ClassId) (b : Nat → Nat) (an : Nat → Nat → Nat) (s : Sz) (rk : Sz) (sv : Nat → Sz) (rv : Nat → Sz) (ct : Nat) (iv : Int32) (rj : Int32) (hct : ct ≤ 4) : Fn l D cI cN yX1_undo wsX1_undo 2 (xW cI cN b an s rk sv rv 2 ct iv rj) [.ref (b 0)] (some (.int (if ct = 0 then -3 else nI (ct - 1)))) (xW cI cN b an (if ct = 0 then s else sv ((2 + 4 - 1) % 4)) rk sv rv (if ct = 0 then 2 else (2 + 4 - 1) % 4) (ct - 1) iv (if ct = 0 then rj + nI 1 else rj)) := by
  refine Fn.of (cc := cX1_undo) (nL := 1) (ret := (some .int)) (lv := [(0, .ref (b 0))]) (by decide +kernel) rfl (Nat.le_of_ble_eq_true rfl) rfl ?_
  intro p e s_ m args below meth c A B hr hA H locs ls hz hl
  have hx := B.1.1
  have hb := B.1.2.1
  have hinX1 : ∀ w ∈ u_ws RX1 TX1 6, w ∈ wsX1_undo := by decide +kernel
  have lk12 : Cond.fieldLink yX1_undo.cls 12 RX1 (TX1 0).2.1 (TX1 0).2.2.1 ∈ wsX1_undo := by decide +kernel
  have lk16 : Cond.fieldLink yX1_undo.cls 16 RX1 (TX1 1).2.1 (TX1 1).2.2.1 ∈ wsX1_undo := by decide +kernel
  have lk128 : Cond.fieldLink yX1_undo.cls 128 RX1 (TX1 3).2.1 (TX1 3).2.2.1 ∈ wsX1_undo := by decide +kernel
  have lk131 : Cond.fieldLink yX1_undo.cls 131 RX1 (TX1 2).2.1 (TX1 2).2.2.1 ∈ wsX1_undo := by decide +kernel
  refine lv_aload_n hx hb dX1_undo_0 rfl (lv_at hl 0 rfl) ?_
  refine gz (C := RX1) (T := TX1) (N := 6) (v := .int (nI ct)) B hz hinX1 0 rfl rfl 3 (by decide) lk128 rfl rfl dX1_undo_1 ?_
  refine ln_if_ne (tgt := 12) hx hb dX1_undo_4 (by decide) (by omega) (fun c4 => ?_) (fun c4 => ?_)
  · refine lv_aload_n hx hb dX1_undo_12 rfl (lv_at hl 0 rfl) ?_
    refine lv_aload_n hx hb dX1_undo_13 rfl (lv_at hl 0 rfl) ?_
    refine gz (C := RX1) (T := TX1) (N := 6) (v := .int (nI 2)) B hz hinX1 0 rfl rfl 2 (by decide) lk131 rfl rfl dX1_undo_14 ?_
    refine lv_iconst (v := (nI 4)) hx hb dX1_undo_17 (by decide) ?_
    refine ln_add hx hb dX1_undo_18 ?_
    refine lv_iconst (v := (nI 1)) hx hb dX1_undo_19 (by decide) ?_
    refine lv_isub hx hb dX1_undo_20 ?_
    refine cvt (y := nI (2 + 4 - 1)) (pk_sub (by omega)) ?_
    refine lv_iconst (v := (nI 4)) hx hb dX1_undo_21 (by decide) ?_
    refine lv_irem hx hb dX1_undo_22 (nI_ne0 (by omega) (by omega)) ?_
    refine cvt (y := nI ((2 + 4 - 1) % 4)) (pk_rem (by omega) (by omega) (by omega)) ?_
    refine pz (C := RX1) (T := TX1) (N := 6) (ty := .int) (ws1 := (xW cI cN b an s rk sv rv ((2 + 4 - 1) % 4) ct iv rj)) B hz hinX1 tyX1_ok nmX1 0 rfl rfl 2 (by decide) lk131 rfl rfl (by decide +kernel) rfl rfl (Nat.le_of_ble_eq_true rfl) rfl dX1_undo_23 (fun H locs hz => ?_)
    refine lv_aload_n hx hb dX1_undo_26 rfl (lv_at hl 0 rfl) ?_
    refine lv_dup hx hb dX1_undo_27 rfl ?_
    refine gz (C := RX1) (T := TX1) (N := 6) (v := .int (nI ct)) B hz hinX1 0 rfl rfl 3 (by decide) lk128 rfl rfl dX1_undo_28 ?_
    refine lv_iconst (v := (nI 1)) hx hb dX1_undo_31 (by decide) ?_
    refine lv_isub hx hb dX1_undo_32 ?_
    refine cvt (y := nI (ct - 1)) (pk_sub (by omega)) ?_
    refine pz (C := RX1) (T := TX1) (N := 6) (ty := .int) (ws1 := (xW cI cN b an s rk sv rv ((2 + 4 - 1) % 4) (ct - 1) iv rj)) B hz hinX1 tyX1_ok nmX1 0 rfl rfl 3 (by decide) lk128 rfl rfl (by decide +kernel) rfl rfl (Nat.le_of_ble_eq_true rfl) rfl dX1_undo_33 (fun H locs hz => ?_)
    refine lv_aload_n hx hb dX1_undo_36 rfl (lv_at hl 0 rfl) ?_
    refine gz (C := RX1) (T := TX1) (N := 6) (v := .ref (an 0 0)) B hz hinX1 0 rfl rfl 0 (by decide) lk12 rfl rfl dX1_undo_37 ?_
    refine lv_aload_n hx hb dX1_undo_40 rfl (lv_at hl 0 rfl) ?_
    refine gz (C := RX1) (T := TX1) (N := 6) (v := .ref (b 1)) B hz hinX1 0 rfl rfl 1 (by decide) lk16 rfl rfl dX1_undo_41 ?_
    refine lv_aload_n hx hb dX1_undo_44 rfl (lv_at hl 0 rfl) ?_
    refine gz (C := RX1) (T := TX1) (N := 6) (v := .int (nI ((2 + 4 - 1) % 4))) B hz hinX1 0 rfl rfl 2 (by decide) lk131 rfl rfl dX1_undo_45 ?_
    refine aldz (n := 4) (j := ((2 + 4 - 1) % 4)) (v := an 2 0) B hz 1 rfl (by omega) (by decide) rfl dX1_undo_48 ?_
    refine cPv (k := 2) (As := [.ref (an 2 0)]) (rest := []) (C := RX0) (T := TX0) (N := 16) (ci := 0) (q0 := 0) (ws1 := (xW cI cN b an (sv 1) rk sv rv ((2 + 4 - 1) % 4) (ct - 1) iv rj)) B hz hA (c_X0_copyFrom l D cI cN (an 0) (an 2) s rk (sv 1) (rv 1)) gX1_undo_X0_copyFrom rfl rfl hd_X0_copyFrom (by decide) rfl rfl rfl hl.1 rfl (Nat.le_of_ble_eq_true rfl) dX1_undo_49 xUp1 xRp1 xUq1 (xU_C1 cI cN b an s rk sv rv ((2 + 4 - 1) % 4) (ct - 1) iv rj) (xS_R1 cI cN b an s rk sv rv ((2 + 4 - 1) % 4) (ct - 1) iv rj) x_d1.2.1 x_d1.2.2.1 x_d1.2.2.2.2.1 x_d1.2.2.2.2.2.2 (xU_S1 cI cN b an s rk sv rv ((2 + 4 - 1) % 4) (ct - 1) iv rj (sv 1)) (fun H locs hz => ?_)
    refine lv_aload_n hx hb dX1_undo_52 rfl (lv_at hl 0 rfl) ?_
    refine gz (C := RX1) (T := TX1) (N := 6) (v := .int (nI (ct - 1))) B hz hinX1 0 rfl rfl 3 (by decide) lk128 rfl rfl dX1_undo_53 ?_
    exact rz_i B hr hz dX1_undo_56 (by first | rw [if_pos c4] | rw [if_neg c4]) (by first | (rw [if_pos c4, if_pos c4, if_pos c4, show ct - 1 = ct by omega]; done) | (rw [if_neg c4, if_neg c4, if_neg c4]; done) | (rw [if_neg c4, if_neg c4, if_neg c4]; rfl))
  · refine lv_aload_n hx hb dX1_undo_7 rfl (lv_at hl 0 rfl) ?_
    refine cV (C := RX1) (T := TX1) (N := 6) (ci := 1) (q0 := 0) (k := 2) (As := []) (rest := []) (v := .int (-3)) (ws1 := (xW cI cN b an s rk sv rv 2 ct iv (rj + nI 1))) B hz hA (c_X1_countRejected l D cI cN b an s rk sv rv 2 ct iv rj  ) gX1_undo_X1_countRejected rfl rfl hd_X1_countRejected (by decide) rfl rfl rfl hl.1 rfl (Nat.le_of_ble_eq_true rfl) dX1_undo_8 (fun H locs hz => ?_)
    exact rz_i B hr hz dX1_undo_11 (by first | rw [if_pos c4] | rw [if_neg c4]) (by first | (rw [if_pos c4, if_pos c4, if_pos c4, show ct - 1 = ct by omega]; done) | (rw [if_neg c4, if_neg c4, if_neg c4]; done) | (rw [if_neg c4, if_neg c4, if_neg c4]; rfl))
set_option maxRecDepth 100000 in
set_option maxHeartbeats 4000000 in
theorem c_X1_undo_3 (l : Launch) (D : va_G) (cI cN : ClassId) (b : Nat → Nat) (an : Nat → Nat → Nat) (s : Sz) (rk : Sz) (sv : Nat → Sz) (rv : Nat → Sz) (ct : Nat) (iv : Int32) (rj : Int32) (hct : ct ≤ 4) : Fn l D cI cN yX1_undo wsX1_undo 2 (xW cI cN b an s rk sv rv 3 ct iv rj) [.ref (b 0)] (some (.int (if ct = 0 then -3 else nI (ct - 1)))) (xW cI cN b an (if ct = 0 then s else sv ((3 + 4 - 1) % 4)) rk sv rv (if ct = 0 then 3 else (3 + 4 - 1) % 4) (ct - 1) iv (if ct = 0 then rj + nI 1 else rj)) := by
  refine Fn.of (cc := cX1_undo) (nL := 1) (ret := (some .int)) (lv := [(0, .ref (b 0))]) (by decide +kernel) rfl (Nat.le_of_ble_eq_true rfl) rfl ?_
  intro p e s_ m args below meth c A B hr hA H locs ls hz hl
  have hx := B.1.1
  have hb := B.1.2.1
  have hinX1 : ∀ w ∈ u_ws RX1 TX1 6, w ∈ wsX1_undo := by decide +kernel
  have lk12 : Cond.fieldLink yX1_undo.cls 12 RX1 (TX1 0).2.1 (TX1 0).2.2.1 ∈ wsX1_undo := by decide +kernel
  have lk16 : Cond.fieldLink yX1_undo.cls 16 RX1 (TX1 1).2.1 (TX1 1).2.2.1 ∈ wsX1_undo := by decide +kernel
  have lk128 : Cond.fieldLink yX1_undo.cls 128 RX1 (TX1 3).2.1 (TX1 3).2.2.1 ∈ wsX1_undo := by decide +kernel
  have lk131 : Cond.fieldLink yX1_undo.cls 131 RX1 (TX1 2).2.1 (TX1 2).2.2.1 ∈ wsX1_undo := by decide +kernel
  refine lv_aload_n hx hb dX1_undo_0 rfl (lv_at hl 0 rfl) ?_
  refine gz (C := RX1) (T := TX1) (N := 6) (v := .int (nI ct)) B hz hinX1 0 rfl rfl 3 (by decide) lk128 rfl rfl dX1_undo_1 ?_
  refine ln_if_ne (tgt := 12) hx hb dX1_undo_4 (by decide) (by omega) (fun c4 => ?_) (fun c4 => ?_)
  · refine lv_aload_n hx hb dX1_undo_12 rfl (lv_at hl 0 rfl) ?_
    refine lv_aload_n hx hb dX1_undo_13 rfl (lv_at hl 0 rfl) ?_
    refine gz (C := RX1) (T := TX1) (N := 6) (v := .int (nI 3)) B hz hinX1 0 rfl rfl 2 (by decide) lk131 rfl rfl dX1_undo_14 ?_
    refine lv_iconst (v := (nI 4)) hx hb dX1_undo_17 (by decide) ?_
    refine ln_add hx hb dX1_undo_18 ?_
    refine lv_iconst (v := (nI 1)) hx hb dX1_undo_19 (by decide) ?_
    refine lv_isub hx hb dX1_undo_20 ?_
    refine cvt (y := nI (3 + 4 - 1)) (pk_sub (by omega)) ?_
    refine lv_iconst (v := (nI 4)) hx hb dX1_undo_21 (by decide) ?_
    refine lv_irem hx hb dX1_undo_22 (nI_ne0 (by omega) (by omega)) ?_
    refine cvt (y := nI ((3 + 4 - 1) % 4)) (pk_rem (by omega) (by omega) (by omega)) ?_
    refine pz (C := RX1) (T := TX1) (N := 6) (ty := .int) (ws1 := (xW cI cN b an s rk sv rv ((3 + 4 - 1) % 4) ct iv rj)) B hz hinX1 tyX1_ok nmX1 0 rfl rfl 2 (by decide) lk131 rfl rfl (by decide +kernel) rfl rfl (Nat.le_of_ble_eq_true rfl) rfl dX1_undo_23 (fun H locs hz => ?_)
    refine lv_aload_n hx hb dX1_undo_26 rfl (lv_at hl 0 rfl) ?_
    refine lv_dup hx hb dX1_undo_27 rfl ?_
    refine gz (C := RX1) (T := TX1) (N := 6) (v := .int (nI ct)) B hz hinX1 0 rfl rfl 3 (by decide) lk128 rfl rfl dX1_undo_28 ?_
    refine lv_iconst (v := (nI 1)) hx hb dX1_undo_31 (by decide) ?_
    refine lv_isub hx hb dX1_undo_32 ?_
    refine cvt (y := nI (ct - 1)) (pk_sub (by omega)) ?_
    refine pz (C := RX1) (T := TX1) (N := 6) (ty := .int) (ws1 := (xW cI cN b an s rk sv rv ((3 + 4 - 1) % 4) (ct - 1) iv rj)) B hz hinX1 tyX1_ok nmX1 0 rfl rfl 3 (by decide) lk128 rfl rfl (by decide +kernel) rfl rfl (Nat.le_of_ble_eq_true rfl) rfl dX1_undo_33 (fun H locs hz => ?_)
    refine lv_aload_n hx hb dX1_undo_36 rfl (lv_at hl 0 rfl) ?_
    refine gz (C := RX1) (T := TX1) (N := 6) (v := .ref (an 0 0)) B hz hinX1 0 rfl rfl 0 (by decide) lk12 rfl rfl dX1_undo_37 ?_
    refine lv_aload_n hx hb dX1_undo_40 rfl (lv_at hl 0 rfl) ?_
    refine gz (C := RX1) (T := TX1) (N := 6) (v := .ref (b 1)) B hz hinX1 0 rfl rfl 1 (by decide) lk16 rfl rfl dX1_undo_41 ?_
    refine lv_aload_n hx hb dX1_undo_44 rfl (lv_at hl 0 rfl) ?_
    refine gz (C := RX1) (T := TX1) (N := 6) (v := .int (nI ((3 + 4 - 1) % 4))) B hz hinX1 0 rfl rfl 2 (by decide) lk131 rfl rfl dX1_undo_45 ?_
    refine aldz (n := 4) (j := ((3 + 4 - 1) % 4)) (v := an 3 0) B hz 1 rfl (by omega) (by decide) rfl dX1_undo_48 ?_
    refine cPv (k := 2) (As := [.ref (an 3 0)]) (rest := []) (C := RX0) (T := TX0) (N := 16) (ci := 0) (q0 := 0) (ws1 := (xW cI cN b an (sv 2) rk sv rv ((3 + 4 - 1) % 4) (ct - 1) iv rj)) B hz hA (c_X0_copyFrom l D cI cN (an 0) (an 3) s rk (sv 2) (rv 2)) gX1_undo_X0_copyFrom rfl rfl hd_X0_copyFrom (by decide) rfl rfl rfl hl.1 rfl (Nat.le_of_ble_eq_true rfl) dX1_undo_49 xUp2 xRp2 xUq2 (xU_C2 cI cN b an s rk sv rv ((3 + 4 - 1) % 4) (ct - 1) iv rj) (xS_R2 cI cN b an s rk sv rv ((3 + 4 - 1) % 4) (ct - 1) iv rj) x_d2.2.1 x_d2.2.2.1 x_d2.2.2.2.2.1 x_d2.2.2.2.2.2.2 (xU_S2 cI cN b an s rk sv rv ((3 + 4 - 1) % 4) (ct - 1) iv rj (sv 2)) (fun H locs hz => ?_)
    refine lv_aload_n hx hb dX1_undo_52 rfl (lv_at hl 0 rfl) ?_
    refine gz (C := RX1) (T := TX1) (N := 6) (v := .int (nI (ct - 1))) B hz hinX1 0 rfl rfl 3 (by decide) lk128 rfl rfl dX1_undo_53 ?_
    exact rz_i B hr hz dX1_undo_56 (by first | rw [if_pos c4] | rw [if_neg c4]) (by first | (rw [if_pos c4, if_pos c4, if_pos c4, show ct - 1 = ct by omega]; done) | (rw [if_neg c4, if_neg c4, if_neg c4]; done) | (rw [if_neg c4, if_neg c4, if_neg c4]; rfl))
  · refine lv_aload_n hx hb dX1_undo_7 rfl (lv_at hl 0 rfl) ?_
    refine cV (C := RX1) (T := TX1) (N := 6) (ci := 1) (q0 := 0) (k := 2) (As := []) (rest := []) (v := .int (-3)) (ws1 := (xW cI cN b an s rk sv rv 3 ct iv (rj + nI 1))) B hz hA (c_X1_countRejected l D cI cN b an s rk sv rv 3 ct iv rj  ) gX1_undo_X1_countRejected rfl rfl hd_X1_countRejected (by decide) rfl rfl rfl hl.1 rfl (Nat.le_of_ble_eq_true rfl) dX1_undo_8 (fun H locs hz => ?_)
    exact rz_i B hr hz dX1_undo_11 (by first | rw [if_pos c4] | rw [if_neg c4]) (by first | (rw [if_pos c4, if_pos c4, if_pos c4, show ct - 1 = ct by omega]; done) | (rw [if_neg c4, if_neg c4, if_neg c4]; done) | (rw [if_neg c4, if_neg c4, if_neg c4]; rfl))
theorem c_X1_undo (l : Launch) (D : va_G) (cI cN : ClassId) (b : Nat → Nat) (an : Nat → Nat → Nat) (s : Sz) (rk : Sz) (sv : Nat → Sz) (rv : Nat → Sz) (nx : Nat) (ct : Nat) (iv : Int32) (rj : Int32) (hnx : nx < 4) (hct : ct ≤ 4) : Fn l D cI cN yX1_undo wsX1_undo 2 (xW cI cN b an s rk sv rv nx ct iv rj) [.ref (b 0)] (some (.int (if ct = 0 then -3 else nI (ct - 1)))) (xW cI cN b an (if ct = 0 then s else sv ((nx + 4 - 1) % 4)) rk sv rv (if ct = 0 then nx else (nx + 4 - 1) % 4) (ct - 1) iv (if ct = 0 then rj + nI 1 else rj)) := by
  rcases (show nx = 0 ∨ nx = 1 ∨ nx = 2 ∨ nx = 3 by omega) with rfl | rfl | rfl | rfl
  · exact c_X1_undo_0 l D cI cN b an s rk sv rv ct iv rj hct
  · exact c_X1_undo_1 l D cI cN b an s rk sv rv ct iv rj hct
  · exact c_X1_undo_2 l D cI cN b an s rk sv rv ct iv rj hct
  · exact c_X1_undo_3 l D cI cN b an s rk sv rv ct iv rj hct
