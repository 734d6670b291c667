/-! constructors: contracts that make cells -/
def PcI (D : va_G) (cI cN : ClassId) (ws : va_W) (As : List Value) (sz : Nat) : Array Value → State → Prop := va_Pc As (fun U => U.heap.size = sz ∧ va_P D vwCl ws U.heap ∧ va_K D vwCl (tysZ cI cN) U ∧ NZ U ∧ va_AO RX0 U ∧ va_D (fun _ => True) ws)
def QcI (D : va_G) (A : Nat → Prop) (post : va_W → Prop) : Array Value → State → Outcome → State → Prop := fun _ st oc t => (oc = .returned none ∧ ∃ w, post w ∧ va_P D vwCl w t.heap ∧ va_D A w) ∧ va_F A st t
def FnI (l : Launch) (D : va_G) (cI cN : ClassId) (y : MethodName) (wy : List Cond) (rm : Room) (mc ms : Nat) (ws : va_W) (As : List Value) (post : va_W → Prop) : Prop :=
  ∀ sz : Nat, Met l y wy rm (PcI D cI cN ws As sz) (QcI D (va_A ws sz) post) mc ms (va_A ws sz)
theorem PcI.blind {D : va_G} {cI cN : ClassId} {ws : va_W} {As : List Value} {sz : Nat} : FrameBlind (PcI D cI cN ws As sz) := by
  intro a U g mk q
  obtain ⟨q0, q1, qP, qK, qN, qO, qD⟩ := q
  exact ⟨q0, q1, qP, va_K.moved (u := U) (U := U.calling g mk a) (Vm.Alike.refl U.vm) qK, NZ.same (u := U) (U := U.calling g mk a) rfl qN, va_AO.moved (u := U) (U := U.calling g mk a) (Vm.Alike.refl U.vm) qO, qD⟩
theorem FnI.of {l : Launch} {D : va_G} {cI cN : ClassId} {y : MethodName} {wy wy' : List Cond} {rm : Room} {mc ms : Nat} {ws : va_W} {As : List Value} {post : va_W → Prop} {cc : ByteArray} {nL : Nat} {lv : List (Nat × Value)}
    (hy : plainFor y = true) (hyi : y.name = "<init>") (hw : wy = Cond.code y cc nL none :: wy') (hlen : (lg_sl As).length ≤ nL) (hlv : lv_args 0 As = lv)
    (body : ∀ (p : Program) (e : Env) (s : State) (m : MethodId) (args : Array Value) (below : List Frame) (meth : Method) (c : Code) (A : Nat → Prop), Bz p m meth c cc nL s args wy y.cls D cI cN → va_AO RX0 s → meth.name = "<init>" → meth.sig.returnType = none → (∀ q, s.heap.size ≤ q → A q) →
      ∀ (H : Heap) (locs : List Loc) (ls : Array Slot), Hz D A s.heap H locs ws → lv_has ls nL lv → W p l e rm s m args below meth c H locs 0 0 (MQ below (QcI D A post) args s mc ms A) (F0 m 0 ls [])) : FnI l D cI cN y wy rm mc ms ws As post := by
  intro sz
  refine Met.ofWF (cc := cc) (maxL := nL) (ret := none) hy hw ?_
  intro p e s m args below meth c s₁ B hml hv
  obtain ⟨rfl, hsz, hP, hK, hN, hO, hD0⟩ := hv
  subst hsz
  subst hlv
  have hts := atoms_spec (ws := wy) B.pre
  have hown : s.vm.findClass y.cls = some m.cls := findClass_of_methodNamed B.named
  have hD := hD0.self (sz := s.heap.size)
  have hl := lv_entry As (n := nL) hlen
  rw [lg_entry_eq]
  exact body p e s m _ below meth c (va_A ws s.heap.size) ⟨⟨B.exec, B.bytes, hml, hown, hts⟩, hK, B.notSynchronized, hN⟩ hO ((name_of_methodNamed B.named B.method).1.trans hyi) B.returns (fun q h => Or.inr h) s.heap [] _ ⟨hP, hD, va_S.rf⟩ hl
section MAKE
variable {p : Program} {l : Launch} {e : Env} {R : Room} {s : State} {m : MethodId} {args : Array Value} {below : List Frame} {meth : Method} {c : Code} {H : Heap} {locs : List Loc} {Q : State → Prop}
variable {D : va_G} {A : Nat → Prop} {cI cN : ClassId} {cc : ByteArray} {nL : Nat} {Ts : List Cond} {own : String} {pc : Nat} {ls : Array Slot} {rest : List Value} {ws ws1 : va_W} {H0 : Heap} {ce sl : Nat}
theorem rzI {post : va_W → Prop} (B : Bz p m meth c cc nL s args Ts own D cI cN) (hr : meth.sig.returnType = none) (h : Hz D A s.heap H locs ws1) (d : decode cc pc = .ok (.return_, 1)) (hw : post ws1) : W p l e R s m args below meth c H locs ce sl (MQ below (QcI D A post) args s ce sl A) (F0 m pc ls []) :=
  W.vret (Qc := QcI D A post) (free := A) B.1.1 B.1.2.1 hr (fun t ht hW => ⟨⟨rfl, ws1, hw, by rw [ht]; exact h.1, h.2.1⟩, h.2.2.F ht⟩) h.2.2.2.2 d (hlocks := B.2.2.1)
/-- a final field, in a constructor -/
theorem pzF {C : String} {T : u_T} {N ci index a : Nat} {fs : List Value} {v : Value} {ty0 : Nat → FieldType} (B : Bz p m meth c cc nL s args Ts own D cI cN) (hin2 : meth.name = "<init>") (h : Hz D A H0 H locs ws) (hin : ∀ w ∈ u_ws C T N, w ∈ Ts) (hty : ∀ k, k < N → parseFieldDescriptor (T k).2.2.1 = some (ty0 k)) (hnm : ∀ a, a < N → ∀ b, b < N → a ≠ b → (T a).2.1 ≠ (T b).2.1) (q0 : Nat) (he : ws[q0]? = some (a, .inr (ci, fs))) (hc : vwCl[ci]? = some (C, T, N)) (j : Nat) (hj : j < N)
    (hlink : Cond.fieldLink own index C (T j).2.1 (T j).2.2.1 ∈ Ts) (hC : (T j).1 = C) (hfin : (T j).2.2.2 = true) (hdecl : (T j).1 = own) {ty : FieldType} (hd : parseFieldDescriptor (T j).2.2.1 = some ty) (hn : narrow ty v = v) (hfit : fits ty v = true) (hl : j < fs.length) (hs : ws.set q0 (a, .inr (ci, fs.set j v)) = ws1) (d : decode cc pc = .ok (.putfield index, 3))
    (kk : ∀ (H1 : Heap) (locs1 : List Loc), Hz D A H0 H1 locs1 ws1 → W p l e R s m args below meth c H1 locs1 ce sl Q (F0 m (pc + 3) ls rest)) : W p l e R s m args below meth c H locs ce sl Q (F0 m pc ls (v :: .ref a :: rest)) := by
  subst hs
  exact va_putF (D := D) (ci := ci) (v := v) (C := C) (T := T) (N := N) B.1.1 B.1.2.1 B.1.2.2.2.2 hin ty0 hty hnm B.1.2.2.2.1 B.2.1 h.1 h.2.1 h.2.2 q0 he hc j hj (B.1.2.2.2.2 _ hlink) (fun _ h9 => by rw [hC] at h9; exact h9) hfin hin2 hdecl hd hn hfit hl d (fun H1 locs1 a1 a2 a3 => kk H1 locs1 ⟨a1, a2, a3⟩)
/-- a new row of ints -/
theorem nzI {N' : Nat} (B : Bz p m meth c cc nL s args Ts own D cI cN) (h : Hz D A H0 H locs ws) (hA : ∀ q, H0.size ≤ q → A q) (hw : Cond.arrayClass .int ∈ Ts) (hN : N' < 2 ^ 27) (hcells : ce + 1 ≤ R.cells) (hslots : sl + N' ≤ R.slots) (d : decode cc pc = .ok (.newarray .int, 2))
    (kk : ∀ (q : Nat) (H1 : Heap), Hz D A H0 H1 locs (ws ++ [(q, .inl (cI, N', .inl (fun _ => 0)))]) → W p l e R s m args below meth c H1 locs (ce + 1) (sl + N') Q (F0 m (pc + 2) ls (.ref q :: rest))) : W p l e R s m args below meth c H locs ce sl Q (F0 m pc ls (.int (nI N') :: rest)) := by
  refine va_newa (atype := .int) (ty := .int) (a0 := (N', .inl (fun _ => 0))) B.1.1 B.1.2.1 (B.1.2.2.2.2 _ hw) rfl B.2.1 h.1 h.2.1 h.2.2 hA (fun _ => rfl) (nI_pos (by omega)) (nI_clamp (by omega)) (by show N' * 4 ≤ _; omega) hcells hslots d (fun q cA H1 k1 k2 k3 k4 => ?_)
  have e1 : s.vm.findClass ("[" ++ (FieldType.int).toString) = some cA := (k1.2 2 (cA, .int) rfl).2
  have e2 : s.vm.findClass ("[" ++ (FieldType.int).toString) = some cI := (k1.2 0 (cI, .int) rfl).2
  have e3 : cA = cI := by rw [e1] at e2; exact Option.some.inj e2
  subst e3
  exact kk q H1 ⟨k2, k3, k4⟩
/-- a new row of references -/
theorem nzQ {N' index : Nat} (B : Bz p m meth c cc nL s args Ts own D cI cN) (hO : va_AO RX0 s) (h : Hz D A H0 H locs ws) (hA : ∀ q, H0.size ≤ q → A q) (hw : Cond.classLink own index RX0 ∈ Ts) (hN : N' < 2 ^ 27) (hcells : ce + 1 ≤ R.cells) (hslots : sl + N' ≤ R.slots) (d : decode cc pc = .ok (.anewarray index, 3))
    (kk : ∀ (q : Nat) (H1 : Heap), Hz D A H0 H1 locs (ws ++ [(q, .inl (cN, N', .inr (.inr (.inr (.inr (fun _ => none))))))]) → W p l e R s m args below meth c H1 locs (ce + 1) (sl + N') Q (F0 m (pc + 3) ls (.ref q :: rest))) : W p l e R s m args below meth c H locs ce sl Q (F0 m pc ls (.int (nI N') :: rest)) := by
  refine va_newq (C := RX0) B.1.1 B.1.2.1 B.1.2.2.2.1 (B.1.2.2.2.2 _ hw) hO B.2.1 h.1 h.2.1 h.2.2 hA (nI_pos (by omega)) (nI_clamp (by omega)) (by omega) hcells hslots d (fun q cA H1 k1 k2 k3 k4 => ?_)
  have e1 : ∃ (kA : Class) (comp : ClassId), s.vm.classes[cA]? = some kA ∧ kA.kind = .array comp (.object RX0) ∧ s.vm.findClass RX0 = some comp ∧ s.vm.findClass ("[" ++ (FieldType.object RX0).toString) = some cA := (k1.2 2 (cA, .object RX0) rfl).2
  have e2 : ∃ (kA : Class) (comp : ClassId), s.vm.classes[cN]? = some kA ∧ kA.kind = .array comp (.object RX0) ∧ s.vm.findClass RX0 = some comp ∧ s.vm.findClass ("[" ++ (FieldType.object RX0).toString) = some cN := (k1.2 1 (cN, .object RX0) rfl).2
  obtain ⟨-, -, -, -, -, e1⟩ := e1
  obtain ⟨-, -, -, -, -, e2⟩ := e2
  have e3 : cA = cN := by rw [e1] at e2; exact Option.some.inj e2
  subst e3
  exact kk q H1 ⟨k2, k3, k4⟩
theorem nzO {C : String} {T : u_T} {N ci index : Nat} {fs : List Value} {ty0 : Nat → FieldType} (B : Bz p m meth c cc nL s args Ts own D cI cN) (h : Hz D A H0 H locs ws) (hA : ∀ q, H0.size ≤ q → A q) (hin : ∀ w ∈ u_ws C T N, w ∈ Ts) (hty : ∀ k, k < N → parseFieldDescriptor (T k).2.2.1 = some (ty0 k)) (w1 : Cond.classLink own index C ∈ Ts) (w2 : Cond.instantiable C N ∈ Ts) (w3 : Cond.initialized C ∈ Ts) (hc : vwCl[ci]? = some (C, T, N)) (hfs : ∀ j, j < N → defaultValue (ty0 j) = vp_V fs j) (hcells : ce + 1 ≤ R.cells) (hslots : sl + N ≤ R.slots) (d : decode cc pc = .ok (.new index, 3))
    (kk : ∀ (q : Nat) (H1 : Heap), Hz D A H0 H1 locs (ws ++ [(q, .inr (ci, fs))]) → W p l e R s m args below meth c H1 locs (ce + 1) (sl + N) Q (F0 m (pc + 3) ls (.ref q :: rest))) : W p l e R s m args below meth c H locs ce sl Q (F0 m pc ls rest) :=
  va_new (ci := ci) (fs := fs) (C := C) (T := T) (N := N) B.1.1 B.1.2.1 B.1.2.2.2.2 hin ty0 hty B.1.2.2.2.1 (B.1.2.2.2.2 _ w1) (B.1.2.2.2.2 _ w2) (B.1.2.2.2.2 _ w3) B.2.1 h.1 h.2.1 h.2.2 hA hc hfs hcells hslots d (fun q H1 k1 k2 k3 => kk q H1 ⟨k1, k2, k3⟩)
theorem asz {n a j v qk ci : Nat} {r : vw_C} {vs : List Value} {f : Nat → Option Nat} (B : Bz p m meth c cc nL s args Ts own D cI cN) (h : Hz D A H0 H locs ws) (q0 : Nat) (ha : ws[q0]? = some (a, .inl (cN, n, .inr (.inr (.inr (.inr f)))))) (hv : ws[qk]? = some (v, .inr (ci, vs))) (hc : vwCl[ci]? = some r) (hr : r.1 = RX0) (hj : j < n) (hn : n < 2 ^ 31) (hs : ws.set q0 (a, .inl (cN, n, .inr (.inr (.inr (.inr (va_up f j (some v))))))) = ws1) (d : decode cc pc = .ok (.aastore, 1))
    (kk : ∀ (H1 : Heap) (locs1 : List Loc), Hz D A H0 H1 locs1 ws1 → W p l e R s m args below meth c H1 locs1 ce sl Q (F0 m (pc + 1) ls rest)) : W p l e R s m args below meth c H locs ce sl Q (F0 m pc ls (.ref v :: .int (nI j) :: .ref a :: rest)) := by
  subst hs
  refine va_astq (r := r) B.1.1 B.1.2.1 B.2.1 h.1 h.2.1 h.2.2 q0 1 qk ci ha (by rw [hr]; rfl) hv hc (vp_in_nI hj hn) d (fun H1 locs1 a1 a2 a3 => ?_)
  rw [nI_clamp (by omega)] at a1 a2
  exact kk H1 locs1 ⟨a1, a2, a3⟩
variable {y : MethodName} {wy wy' : List Cond} {index n maxL mc ms b : Nat} {bytes : ByteArray} {As st0 : List Value} {wc wr : va_W} {rm : Room} {post : va_W → Prop}
/-- a constructor is called -/
theorem cIz (B : Bz p m meth c cc nL s args Ts own D cI cN) (hO : va_AO RX0 s) (h : Hz D A H0 H locs ws) (hA : ∀ q, H0.size ≤ q → A q) (hM : FnI l D cI cN y wy rm mc ms wc (.ref b :: As) post) (g : GoodIn Ts wy) (hw : wy = Cond.code y bytes maxL none :: wy') (hrc : rm.cells = mc) (hrs : rm.slots = ms) (hyi : y.name = "<init>") (w1 : Cond.initialized y.cls ∈ Ts) (w2 : Cond.methodLink own index y ∈ Ts) (w3 : Cond.instanceMethod y ∈ Ts) (hd : hdZ y n) (hR : rm.frames + 1 ≤ R.frames ∧ 8 + (maxL + 11) + rm.locals ≤ R.locals) (hcs : ce + mc ≤ R.cells ∧ sl + ms ≤ R.slots)
    (hn : As.length = n) (hl : ls.size = nL) (hst : st0 = As.reverse ++ .ref b :: rest) (hW : (rest.map fun v => v.category).sum ≤ 8) (d : decode cc pc = .ok (.invokespecial index, 3)) (isC isR : List Nat) (hC : isC.map (fun i => ws[i]?) = wc.map some) (hRR : isR.map (fun i => ws[i]?) = wr.map some) (hnc : va_nd isC = true) (hnr : va_nd isR = true) (hdis : ∀ i ∈ isR, i ∉ isC)
    (kk : ∀ (w : va_W) (H1 : Heap) (locs1 : List Loc), post w → Hz D A H0 H1 locs1 (wr ++ w) → W p l e R s m args below meth c H1 locs1 (ce + mc) (sl + ms) Q (F0 m (pc + 3) ls rest)) : W p l e R s m args below meth c H locs ce sl Q (F0 m pc ls st0) := by
  obtain ⟨hP, hD, hS⟩ := h
  have hPc := hP.sub isC (fm_map _ _ _ hC)
  have hDc := hD.sub isC hnc hC
  have hF := va_free (wc := wc) hD hS hA isC hC
  have run := va_runI (l := l) (e := e) (R := R) (below := below) (meth := meth) (H := H) (locs := locs) (cells := ce) (slots := sl) (g := F0 m pc ls st0) (b := b) (As := As) (rest := rest) B.1 (hM H.size) (cwI n B.1.2.2.2.2 g hw hrc hrs (B.1.2.2.2.2 _ w1) (B.1.2.2.2.2 _ w2) (B.1.2.2.2.2 _ w3) hyi hd hR) ⟨PcI.blind, fun U hU hW => ⟨rfl, by rw [hU], by rw [hU]; exact hPc, va_K.moved hW.alike B.2.1, NZ.alike hW B.2.2.2, va_AO.moved hW.alike hO, hDc.weaken (fun _ _ _ _ => trivial)⟩⟩ rfl hn hl hst (lv_room hW) d hcs
  intro T hT X
  obtain ⟨v, st₀, t, T', L, h0, X', hL, e1, e2, ⟨⟨hv, w, hw1, hP1, hD1⟩, hz, hk⟩, st⟩ := run T hT X
  cases hv
  rw [h0] at hz hk
  rw [← e1] at hP1 hz hk
  obtain ⟨hP2, hD2⟩ := va_join (wr := wr) (w1 := w) hP hD isC isR hC hRR hnr hdis hk hF hP1 hD1
  obtain ⟨t2, a1, b1⟩ := kk w T'.heap (locs ++ L) hw1 ⟨hP2, hD2, Nat.le_trans hS.1 hz, fun q h1 h2 => by rw [hk q (Nat.lt_of_lt_of_le h1 hS.1) (fun z => h2 (hF q z))]; exact hS.2.1 q h1 h2, fun q hq => by
      rcases List.mem_append.mp hq with h | h
      · exact hS.2.2 q h
      · exact hF _ (hL q h)⟩ T' rfl X'
  exact ⟨t2, st t2 a1, b1⟩
theorem oIz (B : Bz p m meth c cc nL s args Ts own D cI cN) (w1 : Cond.methodLink own index Lib.objectInit ∈ Ts) (w2 : Cond.instanceMethod Lib.objectInit ∈ Ts) (w3 : Cond.code Lib.objectInit ⟨#[0xb1]⟩ 1 none ∈ Ts) (hl : ls.size = nL) (hf : 1 ≤ R.frames) (hlo : (rest.map fun v => v.category).sum + 12 ≤ R.locals) (d : decode cc pc = .ok (.invokespecial index, 3))
    (kk : W p l e R s m args below meth c H locs ce sl Q (F0 m (pc + 3) ls rest)) : W p l e R s m args below meth c H locs ce sl Q (F0 m pc ls (.ref b :: rest)) :=
  W.objInit B.1.1 B.1.2.1 B.1.2.2.2.1 (B.1.2.2.2.2 _ w1) (B.1.2.2.2.2 _ w2) (B.1.2.2.2.2 _ w3) rfl (hl.trans B.1.2.2.1.symm) (a := b) (rest := rest) rfl d hf (by show 2 * 0 + _ + 12 ≤ _; omega) kk
end MAKE
