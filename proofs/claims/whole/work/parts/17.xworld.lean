/-! THE CLASS'S WORLD: the object, the row of saved states, five networks -/
def xRest (cI cN : ClassId) (b : Nat → Nat) (an : Nat → Nat → Nat) (sv rv : Nat → Sz) (nx ct : Nat) (iv rj : Int32) : va_W := [(b 0, .inr (1, xF b an nx ct iv rj)), (b 1, .inl (cN, 4, .inr (.inr (.inr (.inr (xR an))))))] ++ (nW cI (an 1) (sv 0) (rv 0) ++ (nW cI (an 2) (sv 1) (rv 1) ++ (nW cI (an 3) (sv 2) (rv 2) ++ nW cI (an 4) (sv 3) (rv 3))))
theorem xn_C (cI cN : ClassId) (b : Nat → Nat) (an : Nat → Nat → Nat) (s rk : Sz) (sv rv : Nat → Sz) (nx ct : Nat) (iv rj : Int32) : ([2, 3, 4, 5, 6, 7, 8, 9] : List Nat).map (fun i => (xW cI cN b an s rk sv rv nx ct iv rj)[i]?) = (nW cI (an 0) s rk).map some := rfl
theorem xn_R (cI cN : ClassId) (b : Nat → Nat) (an : Nat → Nat → Nat) (s rk : Sz) (sv rv : Nat → Sz) (nx ct : Nat) (iv rj : Int32) : ([0, 1, 10, 11, 12, 13, 14, 15, 16, 17, 18, 19, 20, 21, 22, 23, 24, 25, 26, 27, 28, 29, 30, 31, 32, 33, 34, 35, 36, 37, 38, 39, 40, 41] : List Nat).map (fun i => (xW cI cN b an s rk sv rv nx ct iv rj)[i]?) = (xRest cI cN b an sv rv nx ct iv rj).map some := rfl
theorem xn_S (cI cN : ClassId) (b : Nat → Nat) (an : Nat → Nat → Nat) (s rk : Sz) (sv rv : Nat → Sz) (nx ct : Nat) (iv rj : Int32) : ([0, 1, 34, 35, 36, 37, 38, 39, 40, 41, 2, 3, 4, 5, 6, 7, 8, 9, 10, 11, 12, 13, 14, 15, 16, 17, 18, 19, 20, 21, 22, 23, 24, 25, 26, 27, 28, 29, 30, 31, 32, 33] : List Nat).map (fun i => (xRest cI cN b an sv rv nx ct iv rj ++ nW cI (an 0) s rk)[i]?) = (xW cI cN b an s rk sv rv nx ct iv rj).map some := rfl
def xLC : List Nat := [2, 3, 4, 5, 6, 7, 8, 9]
def xLR : List Nat := [0, 1, 10, 11, 12, 13, 14, 15, 16, 17, 18, 19, 20, 21, 22, 23, 24, 25, 26, 27, 28, 29, 30, 31, 32, 33, 34, 35, 36, 37, 38, 39, 40, 41]
def xLS : List Nat := [0, 1, 34, 35, 36, 37, 38, 39, 40, 41, 2, 3, 4, 5, 6, 7, 8, 9, 10, 11, 12, 13, 14, 15, 16, 17, 18, 19, 20, 21, 22, 23, 24, 25, 26, 27, 28, 29, 30, 31, 32, 33]
theorem xn_d : va_nd xLC = true ∧ va_nd xLR = true ∧ (∀ i ∈ xLR, i ∉ xLC) ∧ va_nd xLS = true := by decide
section XC
variable {p : Program} {l : Launch} {e : Env} {k : Nat} {s0 : State} {m : MethodId} {args : Array Value} {below : List Frame} {meth : Method} {c : Code} {H : Heap} {locs : List Loc} {Q : State → Prop}
variable {D : va_G} {A : Nat → Prop} {cI cN : ClassId} {cc : ByteArray} {nL : Nat} {Ts : List Cond} {own : String} {pc : Nat} {ls : Array Slot} {rest : List Value} {H0 : Heap}
variable {y : MethodName} {wy wy' : List Cond} {kc index n maxL : Nat} {bytes : ByteArray} {ret : Option FieldType} {As st0 : List Value} {b : Nat → Nat} {an : Nat → Nat → Nat} {s rk s' rk' : Sz} {sv rv : Nat → Sz} {nx ct : Nat} {iv rj : Int32}
/-- a call of the network's own method -/
theorem cX {v : Value} (B : Bz p m meth c cc nL s0 args Ts own D cI cN) (h : Hz D A H0 H locs (xW cI cN b an s rk sv rv nx ct iv rj)) (hA : ∀ q, H0.size ≤ q → A q) (hM : Fn l D cI cN y wy kc (nW cI (an 0) s rk) (.ref (an 0 0) :: As) (some v) (nW cI (an 0) s' rk')) (g : GoodIn Ts (wsV own index RX0 y wy)) (hw : wy = Cond.code y bytes maxL ret :: wy') (hyc : y.cls = RX0) (hd : hdZ y n) (hR : hRZ kc k maxL)
    (hn : As.length = n) (hl : ls.size = nL) (hst : st0 = As.reverse ++ .ref (an 0 0) :: rest) (hW : (rest.map fun v => v.category).sum ≤ 8) (d : decode cc pc = .ok (.invokevirtual index, 3))
    (kk : ∀ (H1 : Heap) (locs1 : List Loc), Hz D A H0 H1 locs1 (xW cI cN b an s' rk' sv rv nx ct iv rj) → W p l e (rmZ k) s0 m args below meth c H1 locs1 0 0 Q (F0 m (pc + 3) ls (v :: rest))) : W p l e (rmZ k) s0 m args below meth c H locs 0 0 Q (F0 m pc ls st0) :=
  cP (C := RX0) (T := TX0) (N := 16) (ci := 0) (q0 := 0) (fs := nF (an 0) s) B h hA hM g hw hyc hd hR rfl rfl hn hl hst hW d xLC xLR xLS (xn_C cI cN b an s rk sv rv nx ct iv rj) (xn_R cI cN b an s rk sv rv nx ct iv rj) xn_d.1 xn_d.2.1 xn_d.2.2.1 xn_d.2.2.2 (xn_S cI cN b an s' rk' sv rv nx ct iv rj) kk
end XC
theorem xW_f0 (cI cN : ClassId) (b : Nat → Nat) (an : Nat → Nat → Nat) (s rk : Sz) (sv rv : Nat → Sz) (nx ct : Nat) (iv rj : Int32) (v : Int32) : (xW cI cN b an s rk sv rv nx ct iv rj).set 2 (an 0 0, .inr (0, (nF (an 0) s).set 0 (.int v))) = xW cI cN b an (upd s 0 v) rk sv rv nx ct iv rj := by
  unfold xW
  rw [← nW_f0 cI (an 0) s rk v]
  rfl
theorem xW_f1 (cI cN : ClassId) (b : Nat → Nat) (an : Nat → Nat → Nat) (s rk : Sz) (sv rv : Nat → Sz) (nx ct : Nat) (iv rj : Int32) (v : Int32) : (xW cI cN b an s rk sv rv nx ct iv rj).set 2 (an 0 0, .inr (0, (nF (an 0) s).set 1 (.int v))) = xW cI cN b an (upd s 2 v) rk sv rv nx ct iv rj := by
  unfold xW
  rw [← nW_f1 cI (an 0) s rk v]
  rfl
theorem xW_f2 (cI cN : ClassId) (b : Nat → Nat) (an : Nat → Nat → Nat) (s rk : Sz) (sv rv : Nat → Sz) (nx ct : Nat) (iv rj : Int32) (v : Int32) : (xW cI cN b an s rk sv rv nx ct iv rj).set 2 (an 0 0, .inr (0, (nF (an 0) s).set 2 (.int v))) = xW cI cN b an (upd s 1 v) rk sv rv nx ct iv rj := by
  unfold xW
  rw [← nW_f2 cI (an 0) s rk v]
  rfl
theorem xW_f3 (cI cN : ClassId) (b : Nat → Nat) (an : Nat → Nat → Nat) (s rk : Sz) (sv rv : Nat → Sz) (nx ct : Nat) (iv rj : Int32) (v : Int32) : (xW cI cN b an s rk sv rv nx ct iv rj).set 2 (an 0 0, .inr (0, (nF (an 0) s).set 3 (.int v))) = xW cI cN b an (upd s 3 v) rk sv rv nx ct iv rj := by
  unfold xW
  rw [← nW_f3 cI (an 0) s rk v]
  rfl
theorem xW_f4 (cI cN : ClassId) (b : Nat → Nat) (an : Nat → Nat → Nat) (s rk : Sz) (sv rv : Nat → Sz) (nx ct : Nat) (iv rj : Int32) (v : Int32) : (xW cI cN b an s rk sv rv nx ct iv rj).set 2 (an 0 0, .inr (0, (nF (an 0) s).set 4 (.int v))) = xW cI cN b an (upd s 4 v) rk sv rv nx ct iv rj := by
  unfold xW
  rw [← nW_f4 cI (an 0) s rk v]
  rfl
theorem xW_f5 (cI cN : ClassId) (b : Nat → Nat) (an : Nat → Nat → Nat) (s rk : Sz) (sv rv : Nat → Sz) (nx ct : Nat) (iv rj : Int32) (v : Int32) : (xW cI cN b an s rk sv rv nx ct iv rj).set 2 (an 0 0, .inr (0, (nF (an 0) s).set 5 (.int v))) = xW cI cN b an (upd s 5 v) rk sv rv nx ct iv rj := by
  unfold xW
  rw [← nW_f5 cI (an 0) s rk v]
  rfl
theorem xW_f6 (cI cN : ClassId) (b : Nat → Nat) (an : Nat → Nat → Nat) (s rk : Sz) (sv rv : Nat → Sz) (nx ct : Nat) (iv rj : Int32) (v : Int32) : (xW cI cN b an s rk sv rv nx ct iv rj).set 2 (an 0 0, .inr (0, (nF (an 0) s).set 6 (.int v))) = xW cI cN b an (upd s 6 v) rk sv rv nx ct iv rj := by
  unfold xW
  rw [← nW_f6 cI (an 0) s rk v]
  rfl
theorem xW_f7 (cI cN : ClassId) (b : Nat → Nat) (an : Nat → Nat → Nat) (s rk : Sz) (sv rv : Nat → Sz) (nx ct : Nat) (iv rj : Int32) (v : Int32) : (xW cI cN b an s rk sv rv nx ct iv rj).set 2 (an 0 0, .inr (0, (nF (an 0) s).set 7 (.int v))) = xW cI cN b an (upd s 7 v) rk sv rv nx ct iv rj := by
  unfold xW
  rw [← nW_f7 cI (an 0) s rk v]
  rfl
theorem xW_f8 (cI cN : ClassId) (b : Nat → Nat) (an : Nat → Nat → Nat) (s rk : Sz) (sv rv : Nat → Sz) (nx ct : Nat) (iv rj : Int32) (v : Int32) : (xW cI cN b an s rk sv rv nx ct iv rj).set 2 (an 0 0, .inr (0, (nF (an 0) s).set 8 (.int v))) = xW cI cN b an (upd s 8 v) rk sv rv nx ct iv rj := by
  unfold xW
  rw [← nW_f8 cI (an 0) s rk v]
  rfl
theorem xW_a1 (cI cN : ClassId) (b : Nat → Nat) (an : Nat → Nat → Nat) (s rk : Sz) (sv rv : Nat → Sz) (nx ct : Nat) (iv rj : Int32) {j : Nat} (h : j < 5) (v : Int32) : (xW cI cN b an s rk sv rv nx ct iv rj).set 3 (an 0 1, .inl (cI, 5, .inl (upd (seg s 9 5) j v))) = xW cI cN b an (upd s (9 + j) v) rk sv rv nx ct iv rj := by
  unfold xW
  rw [← nW_a1 cI (an 0) s rk h v]
  rfl
theorem xW_a2 (cI cN : ClassId) (b : Nat → Nat) (an : Nat → Nat → Nat) (s rk : Sz) (sv rv : Nat → Sz) (nx ct : Nat) (iv rj : Int32) {j : Nat} (h : j < 5) (v : Int32) : (xW cI cN b an s rk sv rv nx ct iv rj).set 4 (an 0 2, .inl (cI, 5, .inl (upd (seg s 14 5) j v))) = xW cI cN b an (upd s (14 + j) v) rk sv rv nx ct iv rj := by
  unfold xW
  rw [← nW_a2 cI (an 0) s rk h v]
  rfl
theorem xW_a3 (cI cN : ClassId) (b : Nat → Nat) (an : Nat → Nat → Nat) (s rk : Sz) (sv rv : Nat → Sz) (nx ct : Nat) (iv rj : Int32) {j : Nat} (h : j < 5) (v : Int32) : (xW cI cN b an s rk sv rv nx ct iv rj).set 5 (an 0 3, .inl (cI, 5, .inl (upd (seg s 19 5) j v))) = xW cI cN b an (upd s (19 + j) v) rk sv rv nx ct iv rj := by
  unfold xW
  rw [← nW_a3 cI (an 0) s rk h v]
  rfl
theorem xW_a4 (cI cN : ClassId) (b : Nat → Nat) (an : Nat → Nat → Nat) (s rk : Sz) (sv rv : Nat → Sz) (nx ct : Nat) (iv rj : Int32) {j : Nat} (h : j < 200) (v : Int32) : (xW cI cN b an s rk sv rv nx ct iv rj).set 6 (an 0 4, .inl (cI, 200, .inl (upd (seg s 24 200) j v))) = xW cI cN b an (upd s (24 + j) v) rk sv rv nx ct iv rj := by
  unfold xW
  rw [← nW_a4 cI (an 0) s rk h v]
  rfl
theorem xW_a5 (cI cN : ClassId) (b : Nat → Nat) (an : Nat → Nat → Nat) (s rk : Sz) (sv rv : Nat → Sz) (nx ct : Nat) (iv rj : Int32) {j : Nat} (h : j < 200) (v : Int32) : (xW cI cN b an s rk sv rv nx ct iv rj).set 7 (an 0 5, .inl (cI, 200, .inl (upd (seg s 224 200) j v))) = xW cI cN b an (upd s (224 + j) v) rk sv rv nx ct iv rj := by
  unfold xW
  rw [← nW_a5 cI (an 0) s rk h v]
  rfl
theorem xW_a6 (cI cN : ClassId) (b : Nat → Nat) (an : Nat → Nat → Nat) (s rk : Sz) (sv rv : Nat → Sz) (nx ct : Nat) (iv rj : Int32) {j : Nat} (h : j < 200) (v : Int32) : (xW cI cN b an s rk sv rv nx ct iv rj).set 8 (an 0 6, .inl (cI, 200, .inl (upd (seg s 424 200) j v))) = xW cI cN b an (upd s (424 + j) v) rk sv rv nx ct iv rj := by
  unfold xW
  rw [← nW_a6 cI (an 0) s rk h v]
  rfl
def ovr (s s2 : Sz) (o n : Nat) : Sz := fun k => if o ≤ k ∧ k < o + n then s2 k else s k
theorem ovr_lo {s s2 : Sz} {o n k : Nat} (h : k < o ∨ o + n ≤ k) : ovr s s2 o n k = s k := if_neg (by omega)
theorem ovr_in {s s2 : Sz} {o n k : Nat} (h : o ≤ k ∧ k < o + n) : ovr s s2 o n k = s2 k := if_pos h
theorem seg_ovr_out {s s2 : Sz} {o n o2 n2 : Nat} (h : o2 + n2 ≤ o ∨ o + n ≤ o2) : seg (ovr s s2 o n) o2 n2 = seg s o2 n2 := seg_eq (fun k hk => ovr_lo (by omega))
theorem seg_ovr {s s2 : Sz} {o n : Nat} : seg (ovr s s2 o n) o n = seg s2 o n := seg_eq (fun k hk => ovr_in (by omega))
theorem seg_cpy {s s2 : Sz} {o n : Nat} : va_cpy (seg s2 o n) (seg s o n) 0 0 n = seg s2 o n := by
  funext k
  unfold va_cpy
  by_cases h : k < n
  · rw [if_pos (by omega)]; congr 1; omega
  · rw [if_neg (by omega)]
    unfold seg
    rw [if_neg h, if_neg h]
theorem nF_ovr (a : Nat → Nat) (s s2 : Sz) (o n : Nat) (h : 9 ≤ o) : nF a (ovr s s2 o n) = nF a s := by
  simp only [nF, ovr_lo (s := s) (s2 := s2) (o := o) (n := n) (k := 0) (by omega), ovr_lo (s := s) (s2 := s2) (o := o) (n := n) (k := 1) (by omega), ovr_lo (s := s) (s2 := s2) (o := o) (n := n) (k := 2) (by omega), ovr_lo (s := s) (s2 := s2) (o := o) (n := n) (k := 3) (by omega), ovr_lo (s := s) (s2 := s2) (o := o) (n := n) (k := 4) (by omega), ovr_lo (s := s) (s2 := s2) (o := o) (n := n) (k := 5) (by omega), ovr_lo (s := s) (s2 := s2) (o := o) (n := n) (k := 6) (by omega), ovr_lo (s := s) (s2 := s2) (o := o) (n := n) (k := 7) (by omega), ovr_lo (s := s) (s2 := s2) (o := o) (n := n) (k := 8) (by omega)]
theorem nW_c1 (cI : ClassId) (a : Nat → Nat) (s s2 rk : Sz) : (nW cI a s rk).set 1 (a 1, .inl (cI, 5, .inl (va_cpy (seg s2 9 5) (seg s 9 5) 0 0 5))) = nW cI a (ovr s s2 9 5) rk := by
  rw [seg_cpy]
  unfold nW
  rw [nF_ovr a s s2 9 5 (by omega), seg_ovr, seg_ovr_out (o := 9) (n := 5) (o2 := 14) (n2 := 5) (by omega), seg_ovr_out (o := 9) (n := 5) (o2 := 19) (n2 := 5) (by omega), seg_ovr_out (o := 9) (n := 5) (o2 := 24) (n2 := 200) (by omega), seg_ovr_out (o := 9) (n := 5) (o2 := 224) (n2 := 200) (by omega), seg_ovr_out (o := 9) (n := 5) (o2 := 424) (n2 := 200) (by omega)]
  rfl
theorem nW_c2 (cI : ClassId) (a : Nat → Nat) (s s2 rk : Sz) : (nW cI a s rk).set 2 (a 2, .inl (cI, 5, .inl (va_cpy (seg s2 14 5) (seg s 14 5) 0 0 5))) = nW cI a (ovr s s2 14 5) rk := by
  rw [seg_cpy]
  unfold nW
  rw [nF_ovr a s s2 14 5 (by omega), seg_ovr_out (o := 14) (n := 5) (o2 := 9) (n2 := 5) (by omega), seg_ovr, seg_ovr_out (o := 14) (n := 5) (o2 := 19) (n2 := 5) (by omega), seg_ovr_out (o := 14) (n := 5) (o2 := 24) (n2 := 200) (by omega), seg_ovr_out (o := 14) (n := 5) (o2 := 224) (n2 := 200) (by omega), seg_ovr_out (o := 14) (n := 5) (o2 := 424) (n2 := 200) (by omega)]
  rfl
theorem nW_c3 (cI : ClassId) (a : Nat → Nat) (s s2 rk : Sz) : (nW cI a s rk).set 3 (a 3, .inl (cI, 5, .inl (va_cpy (seg s2 19 5) (seg s 19 5) 0 0 5))) = nW cI a (ovr s s2 19 5) rk := by
  rw [seg_cpy]
  unfold nW
  rw [nF_ovr a s s2 19 5 (by omega), seg_ovr_out (o := 19) (n := 5) (o2 := 9) (n2 := 5) (by omega), seg_ovr_out (o := 19) (n := 5) (o2 := 14) (n2 := 5) (by omega), seg_ovr, seg_ovr_out (o := 19) (n := 5) (o2 := 24) (n2 := 200) (by omega), seg_ovr_out (o := 19) (n := 5) (o2 := 224) (n2 := 200) (by omega), seg_ovr_out (o := 19) (n := 5) (o2 := 424) (n2 := 200) (by omega)]
  rfl
theorem nW_c4 (cI : ClassId) (a : Nat → Nat) (s s2 rk : Sz) : (nW cI a s rk).set 4 (a 4, .inl (cI, 200, .inl (va_cpy (seg s2 24 200) (seg s 24 200) 0 0 200))) = nW cI a (ovr s s2 24 200) rk := by
  rw [seg_cpy]
  unfold nW
  rw [nF_ovr a s s2 24 200 (by omega), seg_ovr_out (o := 24) (n := 200) (o2 := 9) (n2 := 5) (by omega), seg_ovr_out (o := 24) (n := 200) (o2 := 14) (n2 := 5) (by omega), seg_ovr_out (o := 24) (n := 200) (o2 := 19) (n2 := 5) (by omega), seg_ovr, seg_ovr_out (o := 24) (n := 200) (o2 := 224) (n2 := 200) (by omega), seg_ovr_out (o := 24) (n := 200) (o2 := 424) (n2 := 200) (by omega)]
  rfl
theorem nW_c5 (cI : ClassId) (a : Nat → Nat) (s s2 rk : Sz) : (nW cI a s rk).set 5 (a 5, .inl (cI, 200, .inl (va_cpy (seg s2 224 200) (seg s 224 200) 0 0 200))) = nW cI a (ovr s s2 224 200) rk := by
  rw [seg_cpy]
  unfold nW
  rw [nF_ovr a s s2 224 200 (by omega), seg_ovr_out (o := 224) (n := 200) (o2 := 9) (n2 := 5) (by omega), seg_ovr_out (o := 224) (n := 200) (o2 := 14) (n2 := 5) (by omega), seg_ovr_out (o := 224) (n := 200) (o2 := 19) (n2 := 5) (by omega), seg_ovr_out (o := 224) (n := 200) (o2 := 24) (n2 := 200) (by omega), seg_ovr, seg_ovr_out (o := 224) (n := 200) (o2 := 424) (n2 := 200) (by omega)]
  rfl
theorem nW_c6 (cI : ClassId) (a : Nat → Nat) (s s2 rk : Sz) : (nW cI a s rk).set 6 (a 6, .inl (cI, 200, .inl (va_cpy (seg s2 424 200) (seg s 424 200) 0 0 200))) = nW cI a (ovr s s2 424 200) rk := by
  rw [seg_cpy]
  unfold nW
  rw [nF_ovr a s s2 424 200 (by omega), seg_ovr_out (o := 424) (n := 200) (o2 := 9) (n2 := 5) (by omega), seg_ovr_out (o := 424) (n := 200) (o2 := 14) (n2 := 5) (by omega), seg_ovr_out (o := 424) (n := 200) (o2 := 19) (n2 := 5) (by omega), seg_ovr_out (o := 424) (n := 200) (o2 := 24) (n2 := 200) (by omega), seg_ovr_out (o := 424) (n := 200) (o2 := 224) (n2 := 200) (by omega), seg_ovr]
  rfl
def cW (cI : ClassId) (a : Nat → Nat) (a2 : Nat → Nat) (s rk s2 rk2 : Sz) : va_W := nW cI a s rk ++ nW cI a2 s2 rk2
theorem cW_f0 (cI : ClassId) (a a2 : Nat → Nat) (s rk s2 rk2 : Sz) (v : Int32) : (cW cI a a2 s rk s2 rk2).set 0 (a 0, .inr (0, (nF a s).set 0 (.int v))) = cW cI a a2 (upd s 0 v) rk s2 rk2 := by
  unfold cW
  rw [← nW_f0 cI a s rk v]
  rfl
theorem cW_f1 (cI : ClassId) (a a2 : Nat → Nat) (s rk s2 rk2 : Sz) (v : Int32) : (cW cI a a2 s rk s2 rk2).set 0 (a 0, .inr (0, (nF a s).set 1 (.int v))) = cW cI a a2 (upd s 2 v) rk s2 rk2 := by
  unfold cW
  rw [← nW_f1 cI a s rk v]
  rfl
theorem cW_f2 (cI : ClassId) (a a2 : Nat → Nat) (s rk s2 rk2 : Sz) (v : Int32) : (cW cI a a2 s rk s2 rk2).set 0 (a 0, .inr (0, (nF a s).set 2 (.int v))) = cW cI a a2 (upd s 1 v) rk s2 rk2 := by
  unfold cW
  rw [← nW_f2 cI a s rk v]
  rfl
theorem cW_f3 (cI : ClassId) (a a2 : Nat → Nat) (s rk s2 rk2 : Sz) (v : Int32) : (cW cI a a2 s rk s2 rk2).set 0 (a 0, .inr (0, (nF a s).set 3 (.int v))) = cW cI a a2 (upd s 3 v) rk s2 rk2 := by
  unfold cW
  rw [← nW_f3 cI a s rk v]
  rfl
theorem cW_f4 (cI : ClassId) (a a2 : Nat → Nat) (s rk s2 rk2 : Sz) (v : Int32) : (cW cI a a2 s rk s2 rk2).set 0 (a 0, .inr (0, (nF a s).set 4 (.int v))) = cW cI a a2 (upd s 4 v) rk s2 rk2 := by
  unfold cW
  rw [← nW_f4 cI a s rk v]
  rfl
theorem cW_f5 (cI : ClassId) (a a2 : Nat → Nat) (s rk s2 rk2 : Sz) (v : Int32) : (cW cI a a2 s rk s2 rk2).set 0 (a 0, .inr (0, (nF a s).set 5 (.int v))) = cW cI a a2 (upd s 5 v) rk s2 rk2 := by
  unfold cW
  rw [← nW_f5 cI a s rk v]
  rfl
theorem cW_f6 (cI : ClassId) (a a2 : Nat → Nat) (s rk s2 rk2 : Sz) (v : Int32) : (cW cI a a2 s rk s2 rk2).set 0 (a 0, .inr (0, (nF a s).set 6 (.int v))) = cW cI a a2 (upd s 6 v) rk s2 rk2 := by
  unfold cW
  rw [← nW_f6 cI a s rk v]
  rfl
theorem cW_f7 (cI : ClassId) (a a2 : Nat → Nat) (s rk s2 rk2 : Sz) (v : Int32) : (cW cI a a2 s rk s2 rk2).set 0 (a 0, .inr (0, (nF a s).set 7 (.int v))) = cW cI a a2 (upd s 7 v) rk s2 rk2 := by
  unfold cW
  rw [← nW_f7 cI a s rk v]
  rfl
theorem cW_f8 (cI : ClassId) (a a2 : Nat → Nat) (s rk s2 rk2 : Sz) (v : Int32) : (cW cI a a2 s rk s2 rk2).set 0 (a 0, .inr (0, (nF a s).set 8 (.int v))) = cW cI a a2 (upd s 8 v) rk s2 rk2 := by
  unfold cW
  rw [← nW_f8 cI a s rk v]
  rfl
theorem cW_c1 (cI : ClassId) (a a2 : Nat → Nat) (s rk s2 rk2 : Sz) : (cW cI a a2 s rk s2 rk2).set 1 (a 1, .inl (cI, 5, .inl (va_cpy (seg s2 9 5) (seg s 9 5) 0 0 5))) = cW cI a a2 (ovr s s2 9 5) rk s2 rk2 := by
  unfold cW
  rw [← nW_c1 cI a s s2 rk]
  rfl
theorem cW_c2 (cI : ClassId) (a a2 : Nat → Nat) (s rk s2 rk2 : Sz) : (cW cI a a2 s rk s2 rk2).set 2 (a 2, .inl (cI, 5, .inl (va_cpy (seg s2 14 5) (seg s 14 5) 0 0 5))) = cW cI a a2 (ovr s s2 14 5) rk s2 rk2 := by
  unfold cW
  rw [← nW_c2 cI a s s2 rk]
  rfl
theorem cW_c3 (cI : ClassId) (a a2 : Nat → Nat) (s rk s2 rk2 : Sz) : (cW cI a a2 s rk s2 rk2).set 3 (a 3, .inl (cI, 5, .inl (va_cpy (seg s2 19 5) (seg s 19 5) 0 0 5))) = cW cI a a2 (ovr s s2 19 5) rk s2 rk2 := by
  unfold cW
  rw [← nW_c3 cI a s s2 rk]
  rfl
theorem cW_c4 (cI : ClassId) (a a2 : Nat → Nat) (s rk s2 rk2 : Sz) : (cW cI a a2 s rk s2 rk2).set 4 (a 4, .inl (cI, 200, .inl (va_cpy (seg s2 24 200) (seg s 24 200) 0 0 200))) = cW cI a a2 (ovr s s2 24 200) rk s2 rk2 := by
  unfold cW
  rw [← nW_c4 cI a s s2 rk]
  rfl
theorem cW_c5 (cI : ClassId) (a a2 : Nat → Nat) (s rk s2 rk2 : Sz) : (cW cI a a2 s rk s2 rk2).set 5 (a 5, .inl (cI, 200, .inl (va_cpy (seg s2 224 200) (seg s 224 200) 0 0 200))) = cW cI a a2 (ovr s s2 224 200) rk s2 rk2 := by
  unfold cW
  rw [← nW_c5 cI a s s2 rk]
  rfl
theorem cW_c6 (cI : ClassId) (a a2 : Nat → Nat) (s rk s2 rk2 : Sz) : (cW cI a a2 s rk s2 rk2).set 6 (a 6, .inl (cI, 200, .inl (va_cpy (seg s2 424 200) (seg s 424 200) 0 0 200))) = cW cI a a2 (ovr s s2 424 200) rk s2 rk2 := by
  unfold cW
  rw [← nW_c6 cI a s s2 rk]
  rfl
