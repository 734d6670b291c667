/-! the base rows once more, at any room and any counters of cells: for the constructors and the law; laid out of 02.base by program -/
section BASEG
variable {p : Program} {l : Launch} {e : Env} {R : Room} {s : State} {m : MethodId} {args : Array Value} {below : List Frame} {meth : Method} {c : Code} {H : Heap} {locs : List Loc} {Q : State → Prop}
variable {D : va_G} {A : Nat → Prop} {cI cN : ClassId} {cc : ByteArray} {nL : Nat} {Ts : List Cond} {own : String} {pc : Nat} {ls : Array Slot} {rest : List Value} {ws ws1 ws' : va_W} {H0 : Heap} {ce sl : Nat}
-- numbers that are known to be natural
theorem ln_addG {a b : Nat} (hx : p.tables.exec = Jvm.exec) (hb : c.code = cc) (d : decode cc pc = .ok (.iadd, 1)) (kk : W p l e R s m args below meth c H locs ce sl Q (F0 m (pc + 1) ls (.int (nI (a + b)) :: rest))) : W p l e R s m args below meth c H locs ce sl Q (F0 m pc ls (.int (nI b) :: .int (nI a) :: rest)) := lv_iadd hx hb d (by rw [nI_add]; exact kk)
theorem ln_mulG {a b : Nat} (hx : p.tables.exec = Jvm.exec) (hb : c.code = cc) (d : decode cc pc = .ok (.imul, 1)) (kk : W p l e R s m args below meth c H locs ce sl Q (F0 m (pc + 1) ls (.int (nI (a * b)) :: rest))) : W p l e R s m args below meth c H locs ce sl Q (F0 m pc ls (.int (nI b) :: .int (nI a) :: rest)) := lv_imul hx hb d (by rw [pk_mul]; exact kk)
theorem ln_icmp_geG {a b : Nat} (hx : p.tables.exec = Jvm.exec) (hb : c.code = cc) {off : Int} {tgt : Nat} (d : decode cc pc = .ok (.if_icmp .ge off, 3)) (ht : (pc : Int) + off = (tgt : Int)) (h : a < 2 ^ 31 ∧ b < 2 ^ 31)
    (kt : b ≤ a → W p l e R s m args below meth c H locs ce sl Q (F0 m tgt ls rest)) (kf : a < b → W p l e R s m args below meth c H locs ce sl Q (F0 m (pc + 3) ls rest)) : W p l e R s m args below meth c H locs ce sl Q (F0 m pc ls (.int (nI b) :: .int (nI a) :: rest)) :=
  lv_icmp_ge hx hb d ht (fun q => kt ((nI_leI h.2 h.1).mp q)) (fun q => kf (Nat.not_le.mp fun z => q ((nI_leI h.2 h.1).mpr z)))
theorem ln_icmp_gtG {a b : Nat} (hx : p.tables.exec = Jvm.exec) (hb : c.code = cc) {off : Int} {tgt : Nat} (d : decode cc pc = .ok (.if_icmp .gt off, 3)) (ht : (pc : Int) + off = (tgt : Int)) (h : a < 2 ^ 31 ∧ b < 2 ^ 31)
    (kt : b < a → W p l e R s m args below meth c H locs ce sl Q (F0 m tgt ls rest)) (kf : a ≤ b → W p l e R s m args below meth c H locs ce sl Q (F0 m (pc + 3) ls rest)) : W p l e R s m args below meth c H locs ce sl Q (F0 m pc ls (.int (nI b) :: .int (nI a) :: rest)) :=
  lv_icmp_gt hx hb d ht (fun q => kt ((nI_ltI h.2 h.1).mp q)) (fun q => kf (Nat.not_lt.mp fun z => q ((nI_ltI h.2 h.1).mpr z)))
theorem ln_icmp_neG {a b : Nat} (hx : p.tables.exec = Jvm.exec) (hb : c.code = cc) {off : Int} {tgt : Nat} (d : decode cc pc = .ok (.if_icmp .ne off, 3)) (ht : (pc : Int) + off = (tgt : Int)) (h : a < 2 ^ 31 ∧ b < 2 ^ 31)
    (kt : ¬ a = b → W p l e R s m args below meth c H locs ce sl Q (F0 m tgt ls rest)) (kf : a = b → W p l e R s m args below meth c H locs ce sl Q (F0 m (pc + 3) ls rest)) : W p l e R s m args below meth c H locs ce sl Q (F0 m pc ls (.int (nI b) :: .int (nI a) :: rest)) :=
  lv_icmp_ne hx hb d ht (fun q => kt (fun z => q (by rw [z]))) (fun q => kf ((nI_eq h.1 h.2).mp q))
theorem ln_icmp_eqG {a b : Nat} (hx : p.tables.exec = Jvm.exec) (hb : c.code = cc) {off : Int} {tgt : Nat} (d : decode cc pc = .ok (.if_icmp .eq off, 3)) (ht : (pc : Int) + off = (tgt : Int)) (h : a < 2 ^ 31 ∧ b < 2 ^ 31)
    (kt : a = b → W p l e R s m args below meth c H locs ce sl Q (F0 m tgt ls rest)) (kf : ¬ a = b → W p l e R s m args below meth c H locs ce sl Q (F0 m (pc + 3) ls rest)) : W p l e R s m args below meth c H locs ce sl Q (F0 m pc ls (.int (nI b) :: .int (nI a) :: rest)) :=
  lv_icmp_eq hx hb d ht (fun q => kt ((nI_eq h.1 h.2).mp q)) (fun q => kf (fun z => q (by rw [z])))
theorem ln_icmp_ltG {a b : Nat} (hx : p.tables.exec = Jvm.exec) (hb : c.code = cc) {off : Int} {tgt : Nat} (d : decode cc pc = .ok (.if_icmp .lt off, 3)) (ht : (pc : Int) + off = (tgt : Int)) (h : a < 2 ^ 31 ∧ b < 2 ^ 31)
    (kt : a < b → W p l e R s m args below meth c H locs ce sl Q (F0 m tgt ls rest)) (kf : b ≤ a → W p l e R s m args below meth c H locs ce sl Q (F0 m (pc + 3) ls rest)) : W p l e R s m args below meth c H locs ce sl Q (F0 m pc ls (.int (nI b) :: .int (nI a) :: rest)) :=
  lv_icmp_lt hx hb d ht (fun q => kt ((nI_ltI h.1 h.2).mp q)) (fun q => kf (Nat.not_lt.mp fun z => q ((nI_ltI h.1 h.2).mpr z)))
theorem ln_if_eqG {a : Nat} (hx : p.tables.exec = Jvm.exec) (hb : c.code = cc) {off : Int} {tgt : Nat} (d : decode cc pc = .ok (.ifCond .eq off, 3)) (ht : (pc : Int) + off = (tgt : Int)) (h : a < 2 ^ 31)
    (kt : a = 0 → W p l e R s m args below meth c H locs ce sl Q (F0 m tgt ls rest)) (kf : ¬ a = 0 → W p l e R s m args below meth c H locs ce sl Q (F0 m (pc + 3) ls rest)) : W p l e R s m args below meth c H locs ce sl Q (F0 m pc ls (.int (nI a) :: rest)) :=
  lv_if_eq hx hb d ht (fun q => kt ((nI_eq h (by decide)).mp (q.trans nI_0.symm))) (fun q => kf (fun z => q (by rw [z]; rfl)))
theorem ln_if_neG {a : Nat} (hx : p.tables.exec = Jvm.exec) (hb : c.code = cc) {off : Int} {tgt : Nat} (d : decode cc pc = .ok (.ifCond .ne off, 3)) (ht : (pc : Int) + off = (tgt : Int)) (h : a < 2 ^ 31)
    (kt : ¬ a = 0 → W p l e R s m args below meth c H locs ce sl Q (F0 m tgt ls rest)) (kf : a = 0 → W p l e R s m args below meth c H locs ce sl Q (F0 m (pc + 3) ls rest)) : W p l e R s m args below meth c H locs ce sl Q (F0 m pc ls (.int (nI a) :: rest)) :=
  lv_if_ne hx hb d ht (fun q => kt (fun z => q (by rw [z]; rfl))) (fun q => kf ((nI_eq h (by decide)).mp (q.trans nI_0.symm)))
theorem ln_icmp_leG {a b : Nat} (hx : p.tables.exec = Jvm.exec) (hb : c.code = cc) {off : Int} {tgt : Nat} (d : decode cc pc = .ok (.if_icmp .le off, 3)) (ht : (pc : Int) + off = (tgt : Int)) (h : a < 2 ^ 31 ∧ b < 2 ^ 31)
    (kt : a ≤ b → W p l e R s m args below meth c H locs ce sl Q (F0 m tgt ls rest)) (kf : b < a → W p l e R s m args below meth c H locs ce sl Q (F0 m (pc + 3) ls rest)) : W p l e R s m args below meth c H locs ce sl Q (F0 m pc ls (.int (nI b) :: .int (nI a) :: rest)) :=
  lv_icmp_le hx hb d ht (fun q => kt ((nI_leI h.1 h.2).mp q)) (fun q => kf (Nat.not_le.mp fun z => q ((nI_leI h.1 h.2).mpr z)))
theorem ln_if_leG {a : Nat} (hx : p.tables.exec = Jvm.exec) (hb : c.code = cc) {off : Int} {tgt : Nat} (d : decode cc pc = .ok (.ifCond .le off, 3)) (ht : (pc : Int) + off = (tgt : Int)) (h : a < 2 ^ 31)
    (kt : a = 0 → W p l e R s m args below meth c H locs ce sl Q (F0 m tgt ls rest)) (kf : ¬ a = 0 → W p l e R s m args below meth c H locs ce sl Q (F0 m (pc + 3) ls rest)) : W p l e R s m args below meth c H locs ce sl Q (F0 m pc ls (.int (nI a) :: rest)) :=
  lv_if_le hx hb d ht (fun q => kt (Nat.le_zero.mp ((nI_leI h (by decide)).mp (show nI a ≤ nI 0 from q)))) (fun q => kf (fun z => q (by rw [z]; exact nI_le (Nat.le_refl 0) (by decide))))
-- booleans
theorem lb_if_eqG {b : Bool} (hx : p.tables.exec = Jvm.exec) (hb : c.code = cc) {off : Int} {tgt : Nat} (d : decode cc pc = .ok (.ifCond .eq off, 3)) (ht : (pc : Int) + off = (tgt : Int))
    (kt : b = false → W p l e R s m args below meth c H locs ce sl Q (F0 m tgt ls rest)) (kf : b = true → W p l e R s m args below meth c H locs ce sl Q (F0 m (pc + 3) ls rest)) : W p l e R s m args below meth c H locs ce sl Q (F0 m pc ls (.int (b2i b) :: rest)) :=
  lv_if_eq hx hb d ht (fun q => kt (b2i_0.mp q)) (fun q => kf (by cases b with | false => exact absurd rfl q | true => rfl))
theorem lb_if_neG {b : Bool} (hx : p.tables.exec = Jvm.exec) (hb : c.code = cc) {off : Int} {tgt : Nat} (d : decode cc pc = .ok (.ifCond .ne off, 3)) (ht : (pc : Int) + off = (tgt : Int))
    (kt : b = true → W p l e R s m args below meth c H locs ce sl Q (F0 m tgt ls rest)) (kf : b = false → W p l e R s m args below meth c H locs ce sl Q (F0 m (pc + 3) ls rest)) : W p l e R s m args below meth c H locs ce sl Q (F0 m pc ls (.int (b2i b) :: rest)) :=
  lv_if_ne hx hb d ht (fun q => kt (by cases b with | false => exact absurd rfl q | true => rfl)) (fun q => kf (b2i_0.mp q))
/-- the number on top, written otherwise -/
theorem cvtG {x y : Int32} {g0 : List Value} (h : x = y) (kk : W p l e R s m args below meth c H locs ce sl Q (F0 m pc ls (.int y :: g0))) : W p l e R s m args below meth c H locs ce sl Q (F0 m pc ls (.int x :: g0)) := h ▸ kk
-- cells
theorem gzG {C : String} {T : u_T} {N ci index a : Nat} {fs : List Value} {v : Value} (B : Bz p m meth c cc nL s args Ts own D cI cN) (h : Hz D A H0 H locs ws) (hin : ∀ w ∈ u_ws C T N, w ∈ Ts) (q0 : Nat) (he : ws[q0]? = some (a, .inr (ci, fs))) (hc : vwCl[ci]? = some (C, T, N)) (j : Nat) (hj : j < N)
    (hlink : Cond.fieldLink own index C (T j).2.1 (T j).2.2.1 ∈ Ts) (hC : (T j).1 = C) (hv : fs[j]? = some v) (d : decode cc pc = .ok (.getfield index, 3))
    (kk : W p l e R s m args below meth c H locs ce sl Q (F0 m (pc + 3) ls (v :: rest))) : W p l e R s m args below meth c H locs ce sl Q (F0 m pc ls (.ref a :: rest)) :=
  va_get (D := D) (ci := ci) (v := v) (C := C) (T := T) (N := N) B.1.1 B.1.2.1 B.1.2.2.2.2 hin B.1.2.2.2.1 B.2.1 h.1 q0 he hc j hj (B.1.2.2.2.2 _ hlink) (fun _ h9 => by rw [hC] at h9; exact h9) hv d kk
theorem pzG {C : String} {T : u_T} {N ci index a : Nat} {fs : List Value} {v : Value} {ty0 : Nat → FieldType} (B : Bz p m meth c cc nL s args Ts own D cI cN) (h : Hz D A H0 H locs ws) (hin : ∀ w ∈ u_ws C T N, w ∈ Ts) (hty : ∀ k, k < N → parseFieldDescriptor (T k).2.2.1 = some (ty0 k)) (hnm : ∀ a, a < N → ∀ b, b < N → a ≠ b → (T a).2.1 ≠ (T b).2.1) (q0 : Nat) (he : ws[q0]? = some (a, .inr (ci, fs))) (hc : vwCl[ci]? = some (C, T, N)) (j : Nat) (hj : j < N)
    (hlink : Cond.fieldLink own index C (T j).2.1 (T j).2.2.1 ∈ Ts) (hC : (T j).1 = C) (hfin : (T j).2.2.2 = false) {ty : FieldType} (hd : parseFieldDescriptor (T j).2.2.1 = some ty) (hn : narrow ty v = v) (hfit : fits ty v = true) (hl : j < fs.length) (hs : ws.set q0 (a, .inr (ci, fs.set j v)) = ws1) (d : decode cc pc = .ok (.putfield index, 3))
    (kk : ∀ (H1 : Heap) (locs1 : List Loc), Hz D A H0 H1 locs1 ws1 → W p l e R s m args below meth c H1 locs1 ce sl Q (F0 m (pc + 3) ls rest)) : W p l e R s m args below meth c H locs ce sl Q (F0 m pc ls (v :: .ref a :: rest)) := by
  subst hs
  exact va_put (D := D) (ci := ci) (v := v) (C := C) (T := T) (N := N) B.1.1 B.1.2.1 B.1.2.2.2.2 hin ty0 hty hnm B.1.2.2.2.1 B.2.1 h.1 h.2.1 h.2.2 q0 he hc j hj (B.1.2.2.2.2 _ hlink) (fun _ h9 => by rw [hC] at h9; exact h9) hfin hd hn hfit hl d (fun H1 locs1 a1 a2 a3 => kk H1 locs1 ⟨a1, a2, a3⟩)
theorem ildzG {n a j : Nat} {f : Nat → Int32} {v : Int32} (B : Bz p m meth c cc nL s args Ts own D cI cN) (h : Hz D A H0 H locs ws) (q0 : Nat) (ha : ws[q0]? = some (a, .inl (cI, n, .inl f))) (hj : j < n) (hn : n < 2 ^ 31) (hv : f j = v) (d : decode cc pc = .ok (.iaload, 1))
    (kk : W p l e R s m args below meth c H locs ce sl Q (F0 m (pc + 1) ls (.int v :: rest))) : W p l e R s m args below meth c H locs ce sl Q (F0 m pc ls (.int (nI j) :: .ref a :: rest)) :=
  va_iald B.1.1 B.1.2.1 B.2.1 h.1 q0 0 ha rfl (vp_in_nI hj hn) d (by rw [nI_clamp (by omega), hv]; exact kk)
theorem istzG {n a j : Nat} {f : Nat → Int32} {x : Int32} (B : Bz p m meth c cc nL s args Ts own D cI cN) (h : Hz D A H0 H locs ws) (q0 : Nat) (ha : ws[q0]? = some (a, .inl (cI, n, .inl f))) (hj : j < n) (hn : n < 2 ^ 31) (hs : ws.set q0 (a, .inl (cI, n, .inl (upd f j x))) = ws1) (d : decode cc pc = .ok (.iastore, 1))
    (kk : ∀ (H1 : Heap) (locs1 : List Loc), Hz D A H0 H1 locs1 ws1 → W p l e R s m args below meth c H1 locs1 ce sl Q (F0 m (pc + 1) ls rest)) : W p l e R s m args below meth c H locs ce sl Q (F0 m pc ls (.int x :: .int (nI j) :: .ref a :: rest)) := by
  subst hs
  refine va_iast B.1.1 B.1.2.1 B.2.1 h.1 h.2.1 h.2.2 q0 0 ha rfl (vp_in_nI hj hn) d (fun H1 locs1 a1 a2 a3 => ?_)
  rw [nI_clamp (by omega)] at a1 a2
  exact kk H1 locs1 ⟨a1, a2, a3⟩
theorem ldczG {index : Nat} {v : Int32} (B : Bz p m meth c cc nL s args Ts own D cI cN) (hc : Cond.constant own index v ∈ Ts) (d : decode cc pc = .ok (.ldc index, 2)) (kk : W p l e R s m args below meth c H locs ce sl Q (F0 m (pc + 2) ls (.int v :: rest))) : W p l e R s m args below meth c H locs ce sl Q (F0 m pc ls rest) :=
  lv_ldc B.1.1 B.1.2.1 B.1.2.2.2.1 (B.1.2.2.2.2 _ hc) d kk
theorem ldcwzG {index : Nat} {v : Int32} (B : Bz p m meth c cc nL s args Ts own D cI cN) (hc : Cond.constant own index v ∈ Ts) (d : decode cc pc = .ok (.ldc_w index, 3)) (kk : W p l e R s m args below meth c H locs ce sl Q (F0 m (pc + 3) ls (.int v :: rest))) : W p l e R s m args below meth c H locs ce sl Q (F0 m pc ls rest) :=
  lv_ldcw B.1.1 B.1.2.1 B.1.2.2.2.1 (B.1.2.2.2.2 _ hc) d kk
theorem ldc2zG {index : Nat} {v : Int64} (B : Bz p m meth c cc nL s args Ts own D cI cN) (hc : Cond.constantLong own index v ∈ Ts) (d : decode cc pc = .ok (.ldc2_w index, 3)) (kk : W p l e R s m args below meth c H locs ce sl Q (F0 m (pc + 3) ls (.long v :: rest))) : W p l e R s m args below meth c H locs ce sl Q (F0 m pc ls rest) :=
  lv_ldc2 B.1.1 B.1.2.1 B.1.2.2.2.1 (B.1.2.2.2.2 _ hc) d kk
-- calls
/-- behind a call whose world stood at the places isC: the rest at isR; put back in order by is -/
theorem cz_runG {st0 : List Value} {a : Array Value} {o : Option Value} {wc wr w1 : va_W} (run : va_Run p l e R s m args below meth c H locs ce sl 0 0 (F0 m pc ls st0) rest (QcA D (va_A wc H.size) o w1 a) (va_A wc H.size)) (h : Hz D A H0 H locs ws) (hA : ∀ q, H0.size ≤ q → A q)
    (isC isR is : List Nat) (hC : isC.map (fun i => ws[i]?) = wc.map some) (hR : isR.map (fun i => ws[i]?) = wr.map some) (hn : va_nd isR = true) (hdis : ∀ i ∈ isR, i ∉ isC) (hn2 : va_nd is = true) (hs : is.map (fun i => (wr ++ w1)[i]?) = ws1.map some)
    (kk : ∀ (H1 : Heap) (locs1 : List Loc), Hz D A H0 H1 locs1 ws1 → W p l e R s m args below meth c H1 locs1 ce sl Q (F0 m (pc + 3) ls (o.toList ++ rest))) : W p l e R s m args below meth c H locs ce sl Q (F0 m pc ls st0) := by
  obtain ⟨hP, hD, hS⟩ := h
  have hF := va_free (wc := wc) hD hS hA isC hC
  intro T hT X
  obtain ⟨v, st₀, t, T', L, h0, X', hL, e1, e2, ⟨⟨hv, hP1, hD1⟩, hz, hk⟩, st⟩ := run T hT X
  cases hv
  rw [h0] at hz hk
  rw [← e1] at hP1 hz hk
  obtain ⟨hP2, hD2⟩ := va_join (wr := wr) (w1 := w1) hP hD isC isR hC hR hn hdis hk hF hP1 hD1
  have hP3 : va_P D vwCl ws1 T'.heap := hP2.sub is (fm_map _ _ _ hs)
  have hD3 : va_D A ws1 := hD2.sub is hn2 hs
  obtain ⟨t2, a1, b1⟩ := kk T'.heap (locs ++ L) ⟨hP3, hD3, Nat.le_trans hS.1 hz, fun q h1 h2 => by rw [hk q (Nat.lt_of_lt_of_le h1 hS.1) (fun z => h2 (hF q z))]; exact hS.2.1 q h1 h2, fun q hq => by
      rcases List.mem_append.mp hq with h | h
      · exact hS.2.2 q h
      · exact hF _ (hL q h)⟩ T' rfl X'
  exact ⟨t2, st t2 a1, b1⟩
/-- the callee's world is the whole world -/
theorem cz_allG {st0 : List Value} {a : Array Value} {o : Option Value} (run : va_Run p l e R s m args below meth c H locs ce sl 0 0 (F0 m pc ls st0) rest (QcA D (va_A ws H.size) o ws1 a) (va_A ws H.size)) (h : Hz D A H0 H locs ws) (hA : ∀ q, H0.size ≤ q → A q)
    (kk : ∀ (H1 : Heap) (locs1 : List Loc), Hz D A H0 H1 locs1 ws1 → W p l e R s m args below meth c H1 locs1 ce sl Q (F0 m (pc + 3) ls (o.toList ++ rest))) : W p l e R s m args below meth c H locs ce sl Q (F0 m pc ls st0) :=
  cz_runG (wr := []) (w1 := ws1) run h hA (List.range ws.length) [] (List.range ws1.length) (map_range_get ws) rfl rfl (fun _ h => by cases h) (va_nd_range _) (map_range_get ws1) kk
/-- the callee has no world -/
theorem cz_noneG {st0 : List Value} {a : Array Value} {o : Option Value} (run : va_Run p l e R s m args below meth c H locs ce sl 0 0 (F0 m pc ls st0) rest (QcA D (va_A [] H.size) o [] a) (va_A [] H.size)) (h : Hz D A H0 H locs ws) (hA : ∀ q, H0.size ≤ q → A q)
    (kk : ∀ (H1 : Heap) (locs1 : List Loc), Hz D A H0 H1 locs1 ws → W p l e R s m args below meth c H1 locs1 ce sl Q (F0 m (pc + 3) ls (o.toList ++ rest))) : W p l e R s m args below meth c H locs ce sl Q (F0 m pc ls st0) :=
  cz_runG (wr := ws) (w1 := []) (ws1 := ws) run h hA [] (List.range ws.length) (List.range ws.length) rfl (map_range_get ws) (va_nd_range _) (fun _ _ h => by cases h) (va_nd_range _) (by rw [List.append_nil]; exact map_range_get ws) kk
variable {y : MethodName} {wy wy' : List Cond} {kc index n maxL : Nat} {bytes : ByteArray} {ret : Option FieldType} {As st0 : List Value} {o : Option Value} {wc wc' : va_W}
abbrev hRG (kc : Nat) (R : Room) (maxL : Nat) : Prop := kc + 1 ≤ R.frames ∧ 8 + (maxL + 11) + 36 * kc ≤ R.locals
theorem run_SG (B : Bz p m meth c cc nL s args Ts own D cI cN) (hM : Fn l D cI cN y wy kc wc As o wc') (g : GoodIn Ts (va_wsS own index y wy)) (hw : wy = Cond.code y bytes maxL ret :: wy') (hd : hdZ y n) (hR : hRG kc R maxL) (hcs : ce ≤ R.cells ∧ sl ≤ R.slots)
    (hP : va_P D vwCl wc H) (hD : va_D A wc) (hn : As.length = n) (hl : ls.size = nL) (hst : st0 = As.reverse ++ rest) (hW : (rest.map fun v => v.category).sum ≤ 8) (d : decode cc pc = .ok (.invokestatic index, 3)) :
    va_Run p l e R s m args below meth c H locs ce sl 0 0 (F0 m pc ls st0) rest (QcA D (va_A wc H.size) o wc' As.toArray) (va_A wc H.size) :=
  va_runS B.1 (hM H.size) (va_cwS n B.1.2.2.2.2 g hw rfl rfl hd hR) ⟨PcZ.blind, fun U hU hW => ⟨rfl, by rw [hU], by rw [hU]; exact hP, va_K.moved hW.alike B.2.1, NZ.alike hW B.2.2.2, hD.weaken (fun _ _ _ _ => trivial)⟩⟩ rfl hn hl hst (lv_room hW) d ⟨hcs.1, hcs.2⟩
theorem run_NG (B : Bz p m meth c cc nL s args Ts own D cI cN) (hM : Fn l D cI cN y wy kc wc As o wc') (g : GoodIn Ts wy) (hown : own = RX0) (hq : (index, y) ∈ nwZ) (hini : Cond.initialized y.cls ∈ Ts) (hstt : Cond.static y ∈ Ts) (hw : wy = Cond.code y bytes maxL ret :: wy') (hd : hdZ y n) (hR : hRG kc R maxL) (hcs : ce ≤ R.cells ∧ sl ≤ R.slots)
    (hP : va_P D vwCl wc H) (hD : va_D A wc) (hn : As.length = n) (hl : ls.size = nL) (hst : st0 = As.reverse ++ rest) (hW : (rest.map fun v => v.category).sum ≤ 8) (d : decode cc pc = .ok (.invokestatic index, 3)) :
    va_Run p l e R s m args below meth c H locs ce sl 0 0 (F0 m pc ls st0) rest (QcA D (va_A wc H.size) o wc' As.toArray) (va_A wc H.size) := by
  subst hown
  exact va_runSN B.1 (hM H.size) ⟨va_cnB (host := "LinkEstablisher") n B.1.2.2.2.2 g hw rfl rfl (B.2.2.2 _ hq) (B.1.2.2.2.2 _ hini) hd hR, B.1.2.2.2.2 _ hstt, trivial⟩ ⟨PcZ.blind, fun U hU hW => ⟨rfl, by rw [hU], by rw [hU]; exact hP, va_K.moved hW.alike B.2.1, NZ.alike hW B.2.2.2, hD.weaken (fun _ _ _ _ => trivial)⟩⟩ rfl hn hl hst (lv_room hW) d ⟨hcs.1, hcs.2⟩
theorem run_VG {C : String} {T : u_T} {N ci b q0 : Nat} {fs : List Value} (B : Bz p m meth c cc nL s args Ts own D cI cN) (hM : Fn l D cI cN y wy kc wc (.ref b :: As) o wc') (g : GoodIn Ts (wsV own index C y wy)) (hw : wy = Cond.code y bytes maxL ret :: wy') (hyc : y.cls = C) (hd : hdZ y n) (hR : hRG kc R maxL) (hcs : ce ≤ R.cells ∧ sl ≤ R.slots)
    (hc : vwCl[ci]? = some (C, T, N)) (he : wc[q0]? = some (b, .inr (ci, fs))) (hP : va_P D vwCl wc H) (hD : va_D A wc) (hn : As.length = n) (hl : ls.size = nL) (hst : st0 = As.reverse ++ .ref b :: rest) (hW : (rest.map fun v => v.category).sum ≤ 8) (d : decode cc pc = .ok (.invokevirtual index, 3)) :
    va_Run p l e R s m args below meth c H locs ce sl 0 0 (F0 m pc ls st0) rest (QcA D (va_A wc H.size) o wc' (Value.ref b :: As).toArray) (va_A wc H.size) :=
  va_runV (C := C) (b := b) B.1 (hM H.size) (cwV n B.1.2.2.2.2 g hw rfl rfl ⟨hyc, hd⟩ hR) ⟨PcZ.blind, va_recv B.2.1 hP (ci := ci) (q0 := q0) hc he, fun U hU hW => ⟨rfl, by rw [hU], by rw [hU]; exact hP, va_K.moved hW.alike B.2.1, NZ.alike hW B.2.2.2, hD.weaken (fun _ _ _ _ => trivial)⟩⟩ rfl hn hl hst (lv_room hW) d ⟨hcs.1, hcs.2⟩
/-- a call of a static method without a world, that answers an int -/
theorem cSG {v : Value} (B : Bz p m meth c cc nL s args Ts own D cI cN) (h : Hz D A H0 H locs ws) (hA : ∀ q, H0.size ≤ q → A q) (hM : Fn l D cI cN y wy kc [] As (some v) []) (g : GoodIn Ts (va_wsS own index y wy)) (hw : wy = Cond.code y bytes maxL ret :: wy') (hd : hdZ y n) (hR : hRG kc R maxL) (hcs : ce ≤ R.cells ∧ sl ≤ R.slots)
    (hn : As.length = n) (hl : ls.size = nL) (hst : st0 = As.reverse ++ rest) (hW : (rest.map fun v => v.category).sum ≤ 8) (d : decode cc pc = .ok (.invokestatic index, 3))
    (kk : ∀ (H1 : Heap) (locs1 : List Loc), Hz D A H0 H1 locs1 ws → W p l e R s m args below meth c H1 locs1 ce sl Q (F0 m (pc + 3) ls (v :: rest))) : W p l e R s m args below meth c H locs ce sl Q (F0 m pc ls st0) :=
  cz_noneG (o := some v) (run_SG (A := A) B hM g hw hd hR hcs (fun k q h => by simp at h) ⟨fun i j p q h => by simp at h, fun k q h => by simp at h⟩ hn hl hst hW d) h hA kk
theorem cNstG {v : Value} (B : Bz p m meth c cc nL s args Ts own D cI cN) (h : Hz D A H0 H locs ws) (hA : ∀ q, H0.size ≤ q → A q) (hM : Fn l D cI cN y wy kc [] As (some v) []) (g : GoodIn Ts wy) (hown : own = RX0) (hq : (index, y) ∈ nwZ) (hini : Cond.initialized y.cls ∈ Ts) (hstt : Cond.static y ∈ Ts) (hw : wy = Cond.code y bytes maxL ret :: wy') (hd : hdZ y n) (hR : hRG kc R maxL) (hcs : ce ≤ R.cells ∧ sl ≤ R.slots)
    (hn : As.length = n) (hl : ls.size = nL) (hst : st0 = As.reverse ++ rest) (hW : (rest.map fun v => v.category).sum ≤ 8) (d : decode cc pc = .ok (.invokestatic index, 3))
    (kk : ∀ (H1 : Heap) (locs1 : List Loc), Hz D A H0 H1 locs1 ws → W p l e R s m args below meth c H1 locs1 ce sl Q (F0 m (pc + 3) ls (v :: rest))) : W p l e R s m args below meth c H locs ce sl Q (F0 m pc ls st0) :=
  cz_noneG (o := some v) (run_NG (A := A) B hM g hown hq hini hstt hw hd hR hcs (fun k q h => by simp at h) ⟨fun i j p q h => by simp at h, fun k q h => by simp at h⟩ hn hl hst hW d) h hA kk
/-- a call of a method of the same world -/
theorem cVG {C : String} {T : u_T} {N ci b q0 : Nat} {fs : List Value} {v : Value} (B : Bz p m meth c cc nL s args Ts own D cI cN) (h : Hz D A H0 H locs ws) (hA : ∀ q, H0.size ≤ q → A q) (hM : Fn l D cI cN y wy kc ws (.ref b :: As) (some v) ws1) (g : GoodIn Ts (wsV own index C y wy)) (hw : wy = Cond.code y bytes maxL ret :: wy') (hyc : y.cls = C) (hd : hdZ y n) (hR : hRG kc R maxL) (hcs : ce ≤ R.cells ∧ sl ≤ R.slots)
    (hc : vwCl[ci]? = some (C, T, N)) (he : ws[q0]? = some (b, .inr (ci, fs))) (hn : As.length = n) (hl : ls.size = nL) (hst : st0 = As.reverse ++ .ref b :: rest) (hW : (rest.map fun v => v.category).sum ≤ 8) (d : decode cc pc = .ok (.invokevirtual index, 3))
    (kk : ∀ (H1 : Heap) (locs1 : List Loc), Hz D A H0 H1 locs1 ws1 → W p l e R s m args below meth c H1 locs1 ce sl Q (F0 m (pc + 3) ls (v :: rest))) : W p l e R s m args below meth c H locs ce sl Q (F0 m pc ls st0) :=
  cz_allG (o := some v) (run_VG (A := A) B hM g hw hyc hd hR hcs hc he h.1 h.2.1 hn hl hst hW d) h hA kk
theorem cVvG {C : String} {T : u_T} {N ci b q0 : Nat} {fs : List Value} (B : Bz p m meth c cc nL s args Ts own D cI cN) (h : Hz D A H0 H locs ws) (hA : ∀ q, H0.size ≤ q → A q) (hM : Fn l D cI cN y wy kc ws (.ref b :: As) none ws1) (g : GoodIn Ts (wsV own index C y wy)) (hw : wy = Cond.code y bytes maxL ret :: wy') (hyc : y.cls = C) (hd : hdZ y n) (hR : hRG kc R maxL) (hcs : ce ≤ R.cells ∧ sl ≤ R.slots)
    (hc : vwCl[ci]? = some (C, T, N)) (he : ws[q0]? = some (b, .inr (ci, fs))) (hn : As.length = n) (hl : ls.size = nL) (hst : st0 = As.reverse ++ .ref b :: rest) (hW : (rest.map fun v => v.category).sum ≤ 8) (d : decode cc pc = .ok (.invokevirtual index, 3))
    (kk : ∀ (H1 : Heap) (locs1 : List Loc), Hz D A H0 H1 locs1 ws1 → W p l e R s m args below meth c H1 locs1 ce sl Q (F0 m (pc + 3) ls rest)) : W p l e R s m args below meth c H locs ce sl Q (F0 m pc ls st0) :=
  cz_allG (o := none) (run_VG (A := A) B hM g hw hyc hd hR hcs hc he h.1 h.2.1 hn hl hst hW d) h hA kk
/-- a call of a method whose world is a part of this one -/
theorem cPG {C : String} {T : u_T} {N ci b q0 : Nat} {fs : List Value} {v : Value} {wr : va_W} (B : Bz p m meth c cc nL s args Ts own D cI cN) (h : Hz D A H0 H locs ws) (hA : ∀ q, H0.size ≤ q → A q) (hM : Fn l D cI cN y wy kc wc (.ref b :: As) (some v) wc') (g : GoodIn Ts (wsV own index C y wy)) (hw : wy = Cond.code y bytes maxL ret :: wy') (hyc : y.cls = C) (hd : hdZ y n) (hR : hRG kc R maxL) (hcs : ce ≤ R.cells ∧ sl ≤ R.slots)
    (hc : vwCl[ci]? = some (C, T, N)) (he : wc[q0]? = some (b, .inr (ci, fs))) (hn : As.length = n) (hl : ls.size = nL) (hst : st0 = As.reverse ++ .ref b :: rest) (hW : (rest.map fun v => v.category).sum ≤ 8) (d : decode cc pc = .ok (.invokevirtual index, 3))
    (isC isR is : List Nat) (hC : isC.map (fun i => ws[i]?) = wc.map some) (hR2 : isR.map (fun i => ws[i]?) = wr.map some) (hnc : va_nd isC = true) (hnr : va_nd isR = true) (hdis : ∀ i ∈ isR, i ∉ isC) (hn2 : va_nd is = true) (hs : is.map (fun i => (wr ++ wc')[i]?) = ws1.map some)
    (kk : ∀ (H1 : Heap) (locs1 : List Loc), Hz D A H0 H1 locs1 ws1 → W p l e R s m args below meth c H1 locs1 ce sl Q (F0 m (pc + 3) ls (v :: rest))) : W p l e R s m args below meth c H locs ce sl Q (F0 m pc ls st0) :=
  cz_runG (o := some v) (run_VG (A := A) B hM g hw hyc hd hR hcs hc he (h.1.sub isC (fm_map _ _ _ hC)) (h.2.1.sub isC hnc hC) hn hl hst hW d) h hA isC isR is hC hR2 hnr hdis hn2 hs kk
theorem cPvG {C : String} {T : u_T} {N ci b q0 : Nat} {fs : List Value} {wr : va_W} (B : Bz p m meth c cc nL s args Ts own D cI cN) (h : Hz D A H0 H locs ws) (hA : ∀ q, H0.size ≤ q → A q) (hM : Fn l D cI cN y wy kc wc (.ref b :: As) none wc') (g : GoodIn Ts (wsV own index C y wy)) (hw : wy = Cond.code y bytes maxL ret :: wy') (hyc : y.cls = C) (hd : hdZ y n) (hR : hRG kc R maxL) (hcs : ce ≤ R.cells ∧ sl ≤ R.slots)
    (hc : vwCl[ci]? = some (C, T, N)) (he : wc[q0]? = some (b, .inr (ci, fs))) (hn : As.length = n) (hl : ls.size = nL) (hst : st0 = As.reverse ++ .ref b :: rest) (hW : (rest.map fun v => v.category).sum ≤ 8) (d : decode cc pc = .ok (.invokevirtual index, 3))
    (isC isR is : List Nat) (hC : isC.map (fun i => ws[i]?) = wc.map some) (hR2 : isR.map (fun i => ws[i]?) = wr.map some) (hnc : va_nd isC = true) (hnr : va_nd isR = true) (hdis : ∀ i ∈ isR, i ∉ isC) (hn2 : va_nd is = true) (hs : is.map (fun i => (wr ++ wc')[i]?) = ws1.map some)
    (kk : ∀ (H1 : Heap) (locs1 : List Loc), Hz D A H0 H1 locs1 ws1 → W p l e R s m args below meth c H1 locs1 ce sl Q (F0 m (pc + 3) ls rest)) : W p l e R s m args below meth c H locs ce sl Q (F0 m pc ls st0) :=
  cz_runG (o := none) (run_VG (A := A) B hM g hw hyc hd hR hcs hc he (h.1.sub isC (fm_map _ _ _ hC)) (h.2.1.sub isC hnc hC) hn hl hst hW d) h hA isC isR is hC hR2 hnr hdis hn2 hs kk
end BASEG
