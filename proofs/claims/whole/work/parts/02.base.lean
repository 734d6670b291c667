/-! BASE: one judgement for all methods of this system: no method but the constructors makes a cell, so a contract is: arguments and world in, answer and world out -/
abbrev tysZ (cI cN : ClassId) : List (ClassId × FieldType) := [(cI, .int), (cN, .object RX0)]
def nwZ : List (Nat × MethodName) := [(89, yX1_contains), (103, yX1_cell), (110, yX1_majority), (156, yX1_mix)]
def NZ (U : State) : Prop := ∀ q ∈ nwZ, va_Nw (.methodLinkNest RX0 q.1 q.2 "LinkEstablisher") U
def rmZ (k : Nat) : Room := { frames := k, cells := 0, slots := 0, locals := 36 * k }
def b2i (b : Bool) : Int32 := match b with
  | true => 1
  | false => 0
def Hz (D : va_G) (A : Nat → Prop) (H0 H : Heap) (locs : List Loc) (ws : va_W) : Prop := va_P D vwCl ws H ∧ va_D A ws ∧ va_S A H0 H locs
def QcA (D : va_G) (A : Nat → Prop) (o : Option Value) (ws' : va_W) : Array Value → State → Outcome → State → Prop := fun _ st oc t => (oc = .returned o ∧ va_P D vwCl ws' t.heap ∧ va_D A ws') ∧ va_F A st t
def PcZ (D : va_G) (cI cN : ClassId) (ws : va_W) (As : List Value) (sz : Nat) : Array Value → State → Prop := va_Pc As (fun U => U.heap.size = sz ∧ va_P D vwCl ws U.heap ∧ va_K D vwCl (tysZ cI cN) U ∧ NZ U ∧ va_D (fun _ => True) ws)
def Fn (l : Launch) (D : va_G) (cI cN : ClassId) (y : MethodName) (wy : List Cond) (k : Nat) (ws : va_W) (As : List Value) (o : Option Value) (ws' : va_W) : Prop :=
  ∀ sz : Nat, Met l y wy (rmZ k) (PcZ D cI cN ws As sz) (QcA D (va_A ws sz) o ws') 0 0 (va_A ws sz)
def Bz (p : Program) (m : MethodId) (meth : Method) (c : Code) (cc : ByteArray) (nL : Nat) (s : State) (args : Array Value) (Ts : List Cond) (own : String) (D : va_G) (cI cN : ClassId) : Prop :=
  CallFix p m c cc nL s args Ts own ∧ va_K D vwCl (tysZ cI cN) s ∧ meth.locks = false ∧ NZ s
abbrev Qz (D : va_G) (A : Nat → Prop) (o : Option Value) (ws' : va_W) (below : List Frame) (args : Array Value) (s : State) : State → Prop := MQ below (QcA D A o ws') args s 0 0 A
abbrev Wz (p : Program) (l : Launch) (e : Env) (k : Nat) (s : State) (m : MethodId) (args : Array Value) (below : List Frame) (meth : Method) (c : Code) (D : va_G) (A : Nat → Prop) (o : Option Value) (ws' : va_W) (H : Heap) (locs : List Loc) (g : JFrame) : Prop :=
  W p l e (rmZ k) s m args below meth c H locs 0 0 (Qz D A o ws' below args s) g
theorem NZ.alike {u U : State} (hW : u.WarmedH U.vm) (h : NZ u) : NZ U := fun q hq => va_Nw.warmM hW (h q hq)
theorem NZ.same {u U : State} (e : u.vm = U.vm) (h : NZ u) : NZ U := fun q hq => va_Nw.same rfl e (h q hq)
theorem PcZ.blind {D : va_G} {cI cN : ClassId} {ws : va_W} {As : List Value} {sz : Nat} : FrameBlind (PcZ D cI cN ws As sz) := by
  intro a U g mk q
  obtain ⟨q0, q1, qP, qK, qN, qD⟩ := q
  exact ⟨q0, q1, qP, va_K.moved (u := U) (U := U.calling g mk a) (Vm.Alike.refl U.vm) qK, NZ.same (u := U) (U := U.calling g mk a) rfl qN, qD⟩
/-- as Met.ofW, for a class some of whose methods are run by an entry instead, where this one isn't -/
theorem Met.ofWF {l : Launch} {y : MethodName} {ws ws' : List Cond} {rm : Room} {Pc : Array Value → State → Prop} {Qc : Array Value → State → Outcome → State → Prop} {mc ms : Nat} {free : Addr → Prop} {cc : ByteArray} {maxL : Nat} {ret : Option FieldType}
    (hy : plainFor y = true) (hw : ws = Cond.code y cc maxL ret :: ws')
    (body : ∀ p e s m args below meth c s₁, BodyLoose p l y (headSpec ws rm) cc maxL ret e s m args below meth c s₁ → c.maxLocals = maxL → Pc args s →
      W p l e (headSpec ws rm).room s m args below meth c s.heap [] 0 0 (MQ below Qc args s mc ms free) (entryFrame m args maxL)) : Met l y ws rm Pc Qc mc ms free := by
  refine MetFree.of_bodySF (code := cc) (maxLocals := maxL) (ret := ret) hy ?_ ?_
  · intro args s m h hn
    obtain ⟨meth, c, h1, h2, h3, h4, h5, h6, -, -⟩ := Cond.code_spec hn (atoms_spec (ws := ws) h _ (by rw [hw]; exact List.mem_cons_self))
    exact ⟨meth, c, h1, h2, h3, h4, h5, h6⟩
  · intro p e s m args below meth c s₁ B hml hP _
    have hh0 : s₁.heap = s.heap := by rw [B.state]; rfl
    obtain ⟨t, a1, o, b1, b2, b3⟩ := body p e s m args below meth c s₁ B hml hP s₁ hh0 (Stand.of_body B)
    exact ⟨t, o, a1, b1, b2, ⟨b3.1, b3.2⟩⟩
theorem Fn.of {l : Launch} {D : va_G} {cI cN : ClassId} {y : MethodName} {wy wy' : List Cond} {k : Nat} {ws : va_W} {As : List Value} {o : Option Value} {ws' : va_W} {cc : ByteArray} {nL : Nat} {ret : Option FieldType} {lv : List (Nat × Value)}
    (hy : plainFor y = true) (hw : wy = Cond.code y cc nL ret :: wy') (hlen : (lg_sl As).length ≤ nL) (hlv : lv_args 0 As = lv)
    (body : ∀ (p : Program) (e : Env) (s : State) (m : MethodId) (args : Array Value) (below : List Frame) (meth : Method) (c : Code) (A : Nat → Prop), Bz p m meth c cc nL s args wy y.cls D cI cN → meth.sig.returnType = ret → (∀ q, s.heap.size ≤ q → A q) →
      ∀ (H : Heap) (locs : List Loc) (ls : Array Slot), Hz D A s.heap H locs ws → lv_has ls nL lv → Wz p l e k s m args below meth c D A o ws' H locs (F0 m 0 ls [])) : Fn l D cI cN y wy k ws As o ws' := by
  intro sz
  refine Met.ofWF (cc := cc) (maxL := nL) (ret := ret) hy hw ?_
  intro p e s m args below meth c s₁ B hml hv
  obtain ⟨rfl, hsz, hP, hK, hN, hD0⟩ := hv
  subst hsz
  subst hlv
  have hts := atoms_spec (ws := wy) B.pre
  have hown : s.vm.findClass y.cls = some m.cls := findClass_of_methodNamed B.named
  have hD := hD0.self (sz := s.heap.size)
  have hl := lv_entry As (n := nL) hlen
  rw [lg_entry_eq]
  exact body p e s m _ below meth c (va_A ws s.heap.size) ⟨⟨B.exec, B.bytes, hml, hown, hts⟩, hK, B.notSynchronized, hN⟩ B.returns (fun q h => Or.inr h) s.heap [] _ ⟨hP, hD, va_S.rf⟩ hl
theorem lv_cast {ls : Array Slot} {n : Nat} {l l' : List (Nat × Value)} (h : lv_has ls n l) (e : l = l') : lv_has ls n l' := e ▸ h
theorem Hz.cast {D : va_G} {A : Nat → Prop} {H0 H : Heap} {locs : List Loc} {w w' : va_W} (h : Hz D A H0 H locs w) (e : w = w') : Hz D A H0 H locs w' := e ▸ h
section BASE
variable {p : Program} {l : Launch} {e : Env} {k : Nat} {s : State} {m : MethodId} {args : Array Value} {below : List Frame} {meth : Method} {c : Code} {H : Heap} {locs : List Loc} {Q : State → Prop}
variable {D : va_G} {A : Nat → Prop} {cI cN : ClassId} {cc : ByteArray} {nL : Nat} {Ts : List Cond} {own : String} {pc : Nat} {ls : Array Slot} {rest : List Value} {ws ws1 ws' : va_W} {H0 : Heap}
-- ends
theorem rz_i {v v' : Int32} (B : Bz p m meth c cc nL s args Ts own D cI cN) (hr : meth.sig.returnType = some .int) (h : Hz D A s.heap H locs ws1) (d : decode cc pc = .ok (.ireturn, 1)) (hv : v = v') (hw : ws1 = ws') : Wz p l e k s m args below meth c D A (some (.int v')) ws' H locs (F0 m pc ls [.int v]) := by
  subst hv; subst hw
  exact W.iret (Qc := QcA D A (some (.int v)) ws1) (free := A) B.1.1 B.1.2.1 hr (fun t ht hW => ⟨⟨rfl, by rw [ht]; exact h.1, h.2.1⟩, h.2.2.F ht⟩) h.2.2.2.2 d (hlocks := B.2.2.1)
theorem narrow_b2i (b : Bool) : narrow .boolean (.int (b2i b)) = .int (b2i b) := by cases b <;> rfl
theorem rz_z {b b' : Bool} (B : Bz p m meth c cc nL s args Ts own D cI cN) (hr : meth.sig.returnType = some .boolean) (h : Hz D A s.heap H locs ws1) (d : decode cc pc = .ok (.ireturn, 1)) (hv : b = b') (hw : ws1 = ws') : Wz p l e k s m args below meth c D A (some (.int (b2i b'))) ws' H locs (F0 m pc ls [.int (b2i b)]) := by
  subst hv; subst hw
  exact W.zret (Qc := QcA D A (some (.int (b2i b))) ws1) (free := A) B.1.1 B.1.2.1 hr (narrow_b2i b) (fun t ht hW => ⟨⟨rfl, by rw [ht]; exact h.1, h.2.1⟩, h.2.2.F ht⟩) h.2.2.2.2 d (hlocks := B.2.2.1)
theorem rz_z1 {b' : Bool} (B : Bz p m meth c cc nL s args Ts own D cI cN) (hr : meth.sig.returnType = some .boolean) (h : Hz D A s.heap H locs ws1) (d : decode cc pc = .ok (.ireturn, 1)) (hv : true = b') (hw : ws1 = ws') : Wz p l e k s m args below meth c D A (some (.int (b2i b'))) ws' H locs (F0 m pc ls [.int 1]) := rz_z (b := true) B hr h d hv hw
theorem rz_z0 {b' : Bool} (B : Bz p m meth c cc nL s args Ts own D cI cN) (hr : meth.sig.returnType = some .boolean) (h : Hz D A s.heap H locs ws1) (d : decode cc pc = .ok (.ireturn, 1)) (hv : false = b') (hw : ws1 = ws') : Wz p l e k s m args below meth c D A (some (.int (b2i b'))) ws' H locs (F0 m pc ls [.int 0]) := rz_z (b := false) B hr h d hv hw
theorem rz_l {v v' : Int64} (B : Bz p m meth c cc nL s args Ts own D cI cN) (hr : meth.sig.returnType = some .long) (h : Hz D A s.heap H locs ws1) (d : decode cc pc = .ok (.lreturn, 1)) (hv : v = v') (hw : ws1 = ws') : Wz p l e k s m args below meth c D A (some (.long v')) ws' H locs (F0 m pc ls [.long v]) := by
  subst hv; subst hw
  exact W.lret (Qc := QcA D A (some (.long v)) ws1) (free := A) B.1.1 B.1.2.1 hr (fun t ht hW => ⟨⟨rfl, by rw [ht]; exact h.1, h.2.1⟩, h.2.2.F ht⟩) h.2.2.2.2 d (hlocks := B.2.2.1)
theorem rz_v (B : Bz p m meth c cc nL s args Ts own D cI cN) (hr : meth.sig.returnType = none) (h : Hz D A s.heap H locs ws1) (d : decode cc pc = .ok (.return_, 1)) (hw : ws1 = ws') : Wz p l e k s m args below meth c D A none ws' H locs (F0 m pc ls []) := by
  subst hw
  exact W.vret (Qc := QcA D A none ws1) (free := A) B.1.1 B.1.2.1 hr (fun t ht hW => ⟨⟨rfl, by rw [ht]; exact h.1, h.2.1⟩, h.2.2.F ht⟩) h.2.2.2.2 d (hlocks := B.2.2.1)
-- numbers that are known to be natural
theorem ln_add {a b : Nat} (hx : p.tables.exec = Jvm.exec) (hb : c.code = cc) (d : decode cc pc = .ok (.iadd, 1)) (kk : W p l e (rmZ k) s m args below meth c H locs 0 0 Q (F0 m (pc + 1) ls (.int (nI (a + b)) :: rest))) : W p l e (rmZ k) s m args below meth c H locs 0 0 Q (F0 m pc ls (.int (nI b) :: .int (nI a) :: rest)) := lv_iadd hx hb d (by rw [nI_add]; exact kk)
theorem ln_mul {a b : Nat} (hx : p.tables.exec = Jvm.exec) (hb : c.code = cc) (d : decode cc pc = .ok (.imul, 1)) (kk : W p l e (rmZ k) s m args below meth c H locs 0 0 Q (F0 m (pc + 1) ls (.int (nI (a * b)) :: rest))) : W p l e (rmZ k) s m args below meth c H locs 0 0 Q (F0 m pc ls (.int (nI b) :: .int (nI a) :: rest)) := lv_imul hx hb d (by rw [pk_mul]; exact kk)
theorem ln_icmp_ge {a b : Nat} (hx : p.tables.exec = Jvm.exec) (hb : c.code = cc) {off : Int} {tgt : Nat} (d : decode cc pc = .ok (.if_icmp .ge off, 3)) (ht : (pc : Int) + off = (tgt : Int)) (h : a < 2 ^ 31 ∧ b < 2 ^ 31)
    (kt : b ≤ a → W p l e (rmZ k) s m args below meth c H locs 0 0 Q (F0 m tgt ls rest)) (kf : a < b → W p l e (rmZ k) s m args below meth c H locs 0 0 Q (F0 m (pc + 3) ls rest)) : W p l e (rmZ k) s m args below meth c H locs 0 0 Q (F0 m pc ls (.int (nI b) :: .int (nI a) :: rest)) :=
  lv_icmp_ge hx hb d ht (fun q => kt ((nI_leI h.2 h.1).mp q)) (fun q => kf (Nat.not_le.mp fun z => q ((nI_leI h.2 h.1).mpr z)))
theorem ln_icmp_gt {a b : Nat} (hx : p.tables.exec = Jvm.exec) (hb : c.code = cc) {off : Int} {tgt : Nat} (d : decode cc pc = .ok (.if_icmp .gt off, 3)) (ht : (pc : Int) + off = (tgt : Int)) (h : a < 2 ^ 31 ∧ b < 2 ^ 31)
    (kt : b < a → W p l e (rmZ k) s m args below meth c H locs 0 0 Q (F0 m tgt ls rest)) (kf : a ≤ b → W p l e (rmZ k) s m args below meth c H locs 0 0 Q (F0 m (pc + 3) ls rest)) : W p l e (rmZ k) s m args below meth c H locs 0 0 Q (F0 m pc ls (.int (nI b) :: .int (nI a) :: rest)) :=
  lv_icmp_gt hx hb d ht (fun q => kt ((nI_ltI h.2 h.1).mp q)) (fun q => kf (Nat.not_lt.mp fun z => q ((nI_ltI h.2 h.1).mpr z)))
theorem ln_icmp_ne {a b : Nat} (hx : p.tables.exec = Jvm.exec) (hb : c.code = cc) {off : Int} {tgt : Nat} (d : decode cc pc = .ok (.if_icmp .ne off, 3)) (ht : (pc : Int) + off = (tgt : Int)) (h : a < 2 ^ 31 ∧ b < 2 ^ 31)
    (kt : ¬ a = b → W p l e (rmZ k) s m args below meth c H locs 0 0 Q (F0 m tgt ls rest)) (kf : a = b → W p l e (rmZ k) s m args below meth c H locs 0 0 Q (F0 m (pc + 3) ls rest)) : W p l e (rmZ k) s m args below meth c H locs 0 0 Q (F0 m pc ls (.int (nI b) :: .int (nI a) :: rest)) :=
  lv_icmp_ne hx hb d ht (fun q => kt (fun z => q (by rw [z]))) (fun q => kf ((nI_eq h.1 h.2).mp q))
theorem ln_icmp_eq {a b : Nat} (hx : p.tables.exec = Jvm.exec) (hb : c.code = cc) {off : Int} {tgt : Nat} (d : decode cc pc = .ok (.if_icmp .eq off, 3)) (ht : (pc : Int) + off = (tgt : Int)) (h : a < 2 ^ 31 ∧ b < 2 ^ 31)
    (kt : a = b → W p l e (rmZ k) s m args below meth c H locs 0 0 Q (F0 m tgt ls rest)) (kf : ¬ a = b → W p l e (rmZ k) s m args below meth c H locs 0 0 Q (F0 m (pc + 3) ls rest)) : W p l e (rmZ k) s m args below meth c H locs 0 0 Q (F0 m pc ls (.int (nI b) :: .int (nI a) :: rest)) :=
  lv_icmp_eq hx hb d ht (fun q => kt ((nI_eq h.1 h.2).mp q)) (fun q => kf (fun z => q (by rw [z])))
theorem ln_icmp_lt {a b : Nat} (hx : p.tables.exec = Jvm.exec) (hb : c.code = cc) {off : Int} {tgt : Nat} (d : decode cc pc = .ok (.if_icmp .lt off, 3)) (ht : (pc : Int) + off = (tgt : Int)) (h : a < 2 ^ 31 ∧ b < 2 ^ 31)
    (kt : a < b → W p l e (rmZ k) s m args below meth c H locs 0 0 Q (F0 m tgt ls rest)) (kf : b ≤ a → W p l e (rmZ k) s m args below meth c H locs 0 0 Q (F0 m (pc + 3) ls rest)) : W p l e (rmZ k) s m args below meth c H locs 0 0 Q (F0 m pc ls (.int (nI b) :: .int (nI a) :: rest)) :=
  lv_icmp_lt hx hb d ht (fun q => kt ((nI_ltI h.1 h.2).mp q)) (fun q => kf (Nat.not_lt.mp fun z => q ((nI_ltI h.1 h.2).mpr z)))
theorem ln_if_eq {a : Nat} (hx : p.tables.exec = Jvm.exec) (hb : c.code = cc) {off : Int} {tgt : Nat} (d : decode cc pc = .ok (.ifCond .eq off, 3)) (ht : (pc : Int) + off = (tgt : Int)) (h : a < 2 ^ 31)
    (kt : a = 0 → W p l e (rmZ k) s m args below meth c H locs 0 0 Q (F0 m tgt ls rest)) (kf : ¬ a = 0 → W p l e (rmZ k) s m args below meth c H locs 0 0 Q (F0 m (pc + 3) ls rest)) : W p l e (rmZ k) s m args below meth c H locs 0 0 Q (F0 m pc ls (.int (nI a) :: rest)) :=
  lv_if_eq hx hb d ht (fun q => kt ((nI_eq h (by decide)).mp (q.trans nI_0.symm))) (fun q => kf (fun z => q (by rw [z]; rfl)))
theorem ln_if_ne {a : Nat} (hx : p.tables.exec = Jvm.exec) (hb : c.code = cc) {off : Int} {tgt : Nat} (d : decode cc pc = .ok (.ifCond .ne off, 3)) (ht : (pc : Int) + off = (tgt : Int)) (h : a < 2 ^ 31)
    (kt : ¬ a = 0 → W p l e (rmZ k) s m args below meth c H locs 0 0 Q (F0 m tgt ls rest)) (kf : a = 0 → W p l e (rmZ k) s m args below meth c H locs 0 0 Q (F0 m (pc + 3) ls rest)) : W p l e (rmZ k) s m args below meth c H locs 0 0 Q (F0 m pc ls (.int (nI a) :: rest)) :=
  lv_if_ne hx hb d ht (fun q => kt (fun z => q (by rw [z]; rfl))) (fun q => kf ((nI_eq h (by decide)).mp (q.trans nI_0.symm)))
theorem ln_icmp_le {a b : Nat} (hx : p.tables.exec = Jvm.exec) (hb : c.code = cc) {off : Int} {tgt : Nat} (d : decode cc pc = .ok (.if_icmp .le off, 3)) (ht : (pc : Int) + off = (tgt : Int)) (h : a < 2 ^ 31 ∧ b < 2 ^ 31)
    (kt : a ≤ b → W p l e (rmZ k) s m args below meth c H locs 0 0 Q (F0 m tgt ls rest)) (kf : b < a → W p l e (rmZ k) s m args below meth c H locs 0 0 Q (F0 m (pc + 3) ls rest)) : W p l e (rmZ k) s m args below meth c H locs 0 0 Q (F0 m pc ls (.int (nI b) :: .int (nI a) :: rest)) :=
  lv_icmp_le hx hb d ht (fun q => kt ((nI_leI h.1 h.2).mp q)) (fun q => kf (Nat.not_le.mp fun z => q ((nI_leI h.1 h.2).mpr z)))
theorem ln_if_le {a : Nat} (hx : p.tables.exec = Jvm.exec) (hb : c.code = cc) {off : Int} {tgt : Nat} (d : decode cc pc = .ok (.ifCond .le off, 3)) (ht : (pc : Int) + off = (tgt : Int)) (h : a < 2 ^ 31)
    (kt : a = 0 → W p l e (rmZ k) s m args below meth c H locs 0 0 Q (F0 m tgt ls rest)) (kf : ¬ a = 0 → W p l e (rmZ k) s m args below meth c H locs 0 0 Q (F0 m (pc + 3) ls rest)) : W p l e (rmZ k) s m args below meth c H locs 0 0 Q (F0 m pc ls (.int (nI a) :: rest)) :=
  lv_if_le hx hb d ht (fun q => kt (Nat.le_zero.mp ((nI_leI h (by decide)).mp (show nI a ≤ nI 0 from q)))) (fun q => kf (fun z => q (by rw [z]; exact nI_le (Nat.le_refl 0) (by decide))))
-- booleans
theorem b2i_0 {b : Bool} : b2i b = 0 ↔ b = false := by cases b <;> decide
theorem lb_if_eq {b : Bool} (hx : p.tables.exec = Jvm.exec) (hb : c.code = cc) {off : Int} {tgt : Nat} (d : decode cc pc = .ok (.ifCond .eq off, 3)) (ht : (pc : Int) + off = (tgt : Int))
    (kt : b = false → W p l e (rmZ k) s m args below meth c H locs 0 0 Q (F0 m tgt ls rest)) (kf : b = true → W p l e (rmZ k) s m args below meth c H locs 0 0 Q (F0 m (pc + 3) ls rest)) : W p l e (rmZ k) s m args below meth c H locs 0 0 Q (F0 m pc ls (.int (b2i b) :: rest)) :=
  lv_if_eq hx hb d ht (fun q => kt (b2i_0.mp q)) (fun q => kf (by cases b with | false => exact absurd rfl q | true => rfl))
theorem lb_if_ne {b : Bool} (hx : p.tables.exec = Jvm.exec) (hb : c.code = cc) {off : Int} {tgt : Nat} (d : decode cc pc = .ok (.ifCond .ne off, 3)) (ht : (pc : Int) + off = (tgt : Int))
    (kt : b = true → W p l e (rmZ k) s m args below meth c H locs 0 0 Q (F0 m tgt ls rest)) (kf : b = false → W p l e (rmZ k) s m args below meth c H locs 0 0 Q (F0 m (pc + 3) ls rest)) : W p l e (rmZ k) s m args below meth c H locs 0 0 Q (F0 m pc ls (.int (b2i b) :: rest)) :=
  lv_if_ne hx hb d ht (fun q => kt (by cases b with | false => exact absurd rfl q | true => rfl)) (fun q => kf (b2i_0.mp q))
/-- the number on top, written otherwise -/
theorem cvt {x y : Int32} {g0 : List Value} (h : x = y) (kk : W p l e (rmZ k) s m args below meth c H locs 0 0 Q (F0 m pc ls (.int y :: g0))) : W p l e (rmZ k) s m args below meth c H locs 0 0 Q (F0 m pc ls (.int x :: g0)) := h ▸ kk
-- cells
theorem gz {C : String} {T : u_T} {N ci index a : Nat} {fs : List Value} {v : Value} (B : Bz p m meth c cc nL s args Ts own D cI cN) (h : Hz D A H0 H locs ws) (hin : ∀ w ∈ u_ws C T N, w ∈ Ts) (q0 : Nat) (he : ws[q0]? = some (a, .inr (ci, fs))) (hc : vwCl[ci]? = some (C, T, N)) (j : Nat) (hj : j < N)
    (hlink : Cond.fieldLink own index C (T j).2.1 (T j).2.2.1 ∈ Ts) (hC : (T j).1 = C) (hv : fs[j]? = some v) (d : decode cc pc = .ok (.getfield index, 3))
    (kk : W p l e (rmZ k) s m args below meth c H locs 0 0 Q (F0 m (pc + 3) ls (v :: rest))) : W p l e (rmZ k) s m args below meth c H locs 0 0 Q (F0 m pc ls (.ref a :: rest)) :=
  va_get (D := D) (ci := ci) (v := v) (C := C) (T := T) (N := N) B.1.1 B.1.2.1 B.1.2.2.2.2 hin B.1.2.2.2.1 B.2.1 h.1 q0 he hc j hj (B.1.2.2.2.2 _ hlink) (fun _ h9 => by rw [hC] at h9; exact h9) hv d kk
theorem pz {C : String} {T : u_T} {N ci index a : Nat} {fs : List Value} {v : Value} {ty0 : Nat → FieldType} (B : Bz p m meth c cc nL s args Ts own D cI cN) (h : Hz D A H0 H locs ws) (hin : ∀ w ∈ u_ws C T N, w ∈ Ts) (hty : ∀ k, k < N → parseFieldDescriptor (T k).2.2.1 = some (ty0 k)) (hnm : ∀ a, a < N → ∀ b, b < N → a ≠ b → (T a).2.1 ≠ (T b).2.1) (q0 : Nat) (he : ws[q0]? = some (a, .inr (ci, fs))) (hc : vwCl[ci]? = some (C, T, N)) (j : Nat) (hj : j < N)
    (hlink : Cond.fieldLink own index C (T j).2.1 (T j).2.2.1 ∈ Ts) (hC : (T j).1 = C) (hfin : (T j).2.2.2 = false) {ty : FieldType} (hd : parseFieldDescriptor (T j).2.2.1 = some ty) (hn : narrow ty v = v) (hfit : fits ty v = true) (hl : j < fs.length) (hs : ws.set q0 (a, .inr (ci, fs.set j v)) = ws1) (d : decode cc pc = .ok (.putfield index, 3))
    (kk : ∀ (H1 : Heap) (locs1 : List Loc), Hz D A H0 H1 locs1 ws1 → W p l e (rmZ k) s m args below meth c H1 locs1 0 0 Q (F0 m (pc + 3) ls rest)) : W p l e (rmZ k) s m args below meth c H locs 0 0 Q (F0 m pc ls (v :: .ref a :: rest)) := by
  subst hs
  exact va_put (D := D) (ci := ci) (v := v) (C := C) (T := T) (N := N) B.1.1 B.1.2.1 B.1.2.2.2.2 hin ty0 hty hnm B.1.2.2.2.1 B.2.1 h.1 h.2.1 h.2.2 q0 he hc j hj (B.1.2.2.2.2 _ hlink) (fun _ h9 => by rw [hC] at h9; exact h9) hfin hd hn hfit hl d (fun H1 locs1 a1 a2 a3 => kk H1 locs1 ⟨a1, a2, a3⟩)
theorem ildz {n a j : Nat} {f : Nat → Int32} {v : Int32} (B : Bz p m meth c cc nL s args Ts own D cI cN) (h : Hz D A H0 H locs ws) (q0 : Nat) (ha : ws[q0]? = some (a, .inl (cI, n, .inl f))) (hj : j < n) (hn : n < 2 ^ 31) (hv : f j = v) (d : decode cc pc = .ok (.iaload, 1))
    (kk : W p l e (rmZ k) s m args below meth c H locs 0 0 Q (F0 m (pc + 1) ls (.int v :: rest))) : W p l e (rmZ k) s m args below meth c H locs 0 0 Q (F0 m pc ls (.int (nI j) :: .ref a :: rest)) :=
  va_iald B.1.1 B.1.2.1 B.2.1 h.1 q0 0 ha rfl (vp_in_nI hj hn) d (by rw [nI_clamp (by omega), hv]; exact kk)
theorem istz {n a j : Nat} {f : Nat → Int32} {x : Int32} (B : Bz p m meth c cc nL s args Ts own D cI cN) (h : Hz D A H0 H locs ws) (q0 : Nat) (ha : ws[q0]? = some (a, .inl (cI, n, .inl f))) (hj : j < n) (hn : n < 2 ^ 31) (hs : ws.set q0 (a, .inl (cI, n, .inl (upd f j x))) = ws1) (d : decode cc pc = .ok (.iastore, 1))
    (kk : ∀ (H1 : Heap) (locs1 : List Loc), Hz D A H0 H1 locs1 ws1 → W p l e (rmZ k) s m args below meth c H1 locs1 0 0 Q (F0 m (pc + 1) ls rest)) : W p l e (rmZ k) s m args below meth c H locs 0 0 Q (F0 m pc ls (.int x :: .int (nI j) :: .ref a :: rest)) := by
  subst hs
  refine va_iast B.1.1 B.1.2.1 B.2.1 h.1 h.2.1 h.2.2 q0 0 ha rfl (vp_in_nI hj hn) d (fun H1 locs1 a1 a2 a3 => ?_)
  rw [nI_clamp (by omega)] at a1 a2
  exact kk H1 locs1 ⟨a1, a2, a3⟩
theorem ldcz {index : Nat} {v : Int32} (B : Bz p m meth c cc nL s args Ts own D cI cN) (hc : Cond.constant own index v ∈ Ts) (d : decode cc pc = .ok (.ldc index, 2)) (kk : W p l e (rmZ k) s m args below meth c H locs 0 0 Q (F0 m (pc + 2) ls (.int v :: rest))) : W p l e (rmZ k) s m args below meth c H locs 0 0 Q (F0 m pc ls rest) :=
  lv_ldc B.1.1 B.1.2.1 B.1.2.2.2.1 (B.1.2.2.2.2 _ hc) d kk
theorem ldcwz {index : Nat} {v : Int32} (B : Bz p m meth c cc nL s args Ts own D cI cN) (hc : Cond.constant own index v ∈ Ts) (d : decode cc pc = .ok (.ldc_w index, 3)) (kk : W p l e (rmZ k) s m args below meth c H locs 0 0 Q (F0 m (pc + 3) ls (.int v :: rest))) : W p l e (rmZ k) s m args below meth c H locs 0 0 Q (F0 m pc ls rest) :=
  lv_ldcw B.1.1 B.1.2.1 B.1.2.2.2.1 (B.1.2.2.2.2 _ hc) d kk
theorem ldc2z {index : Nat} {v : Int64} (B : Bz p m meth c cc nL s args Ts own D cI cN) (hc : Cond.constantLong own index v ∈ Ts) (d : decode cc pc = .ok (.ldc2_w index, 3)) (kk : W p l e (rmZ k) s m args below meth c H locs 0 0 Q (F0 m (pc + 3) ls (.long v :: rest))) : W p l e (rmZ k) s m args below meth c H locs 0 0 Q (F0 m pc ls rest) :=
  lv_ldc2 B.1.1 B.1.2.1 B.1.2.2.2.1 (B.1.2.2.2.2 _ hc) d kk
-- calls
theorem fm_map {α β : Type} (f : α → Option β) (is : List α) (l : List β) (h : is.map f = l.map some) : is.filterMap f = l := by
  have e : is.filterMap f = (is.map f).filterMap id := by rw [List.filterMap_map]; rfl
  rw [e, h, List.filterMap_map]
  simp
/-- behind a call whose world stood at the places isC: the rest at isR; put back in order by is -/
theorem cz_run {st0 : List Value} {a : Array Value} {o : Option Value} {wc wr w1 : va_W} (run : va_Run p l e (rmZ k) s m args below meth c H locs 0 0 0 0 (F0 m pc ls st0) rest (QcA D (va_A wc H.size) o w1 a) (va_A wc H.size)) (h : Hz D A H0 H locs ws) (hA : ∀ q, H0.size ≤ q → A q)
    (isC isR is : List Nat) (hC : isC.map (fun i => ws[i]?) = wc.map some) (hR : isR.map (fun i => ws[i]?) = wr.map some) (hn : va_nd isR = true) (hdis : ∀ i ∈ isR, i ∉ isC) (hn2 : va_nd is = true) (hs : is.map (fun i => (wr ++ w1)[i]?) = ws1.map some)
    (kk : ∀ (H1 : Heap) (locs1 : List Loc), Hz D A H0 H1 locs1 ws1 → W p l e (rmZ k) s m args below meth c H1 locs1 0 0 Q (F0 m (pc + 3) ls (o.toList ++ rest))) : W p l e (rmZ k) s m args below meth c H locs 0 0 Q (F0 m pc ls st0) := by
  obtain ⟨hP, hD, hS⟩ := h
  have hF := va_free (wc := wc) hD hS hA isC hC
  intro T hT X
  obtain ⟨v, st₀, t, T', L, h0, X', hL, e1, e2, ⟨⟨hv, hP1, hD1⟩, hz, hk⟩, st⟩ := run T hT X
  cases hv
  rw [h0] at hz hk
  rw [← e1] at hP1 hz hk
  obtain ⟨hP2, hD2⟩ := va_join (wr := wr) (w1 := w1) hP hD isC isR hC hR hn hdis hk hF hP1 hD1
  have hP3 : va_P D vwCl ws1 T'.heap := hP2.sub is (fm_map _ _ _ hs)
  have hD3 : va_D A ws1 := hD2.sub is hn2 hs
  obtain ⟨t2, a1, b1⟩ := kk T'.heap (locs ++ L) ⟨hP3, hD3, Nat.le_trans hS.1 hz, fun q h1 h2 => by rw [hk q (Nat.lt_of_lt_of_le h1 hS.1) (fun z => h2 (hF q z))]; exact hS.2.1 q h1 h2, fun q hq => by
      rcases List.mem_append.mp hq with h | h
      · exact hS.2.2 q h
      · exact hF _ (hL q h)⟩ T' rfl X'
  exact ⟨t2, st t2 a1, b1⟩
theorem map_range_get {α : Type} : ∀ (l : List α), (List.range l.length).map (fun i => l[i]?) = l.map some := by
  intro l
  apply List.ext_getElem?
  intro i
  by_cases h : i < l.length
  · simp [h]
  · simp [h]
theorem va_nd_of : ∀ (l : List Nat), l.Nodup → va_nd l = true
  | [], _ => rfl
  | a :: l, h => by
    rw [List.nodup_cons] at h
    simp only [va_nd, Bool.and_eq_true, decide_eq_true_eq]
    exact ⟨h.1, va_nd_of l h.2⟩
theorem va_nd_range (n : Nat) : va_nd (List.range n) = true := va_nd_of _ List.nodup_range
/-- the callee's world is the whole world -/
theorem cz_all {st0 : List Value} {a : Array Value} {o : Option Value} (run : va_Run p l e (rmZ k) s m args below meth c H locs 0 0 0 0 (F0 m pc ls st0) rest (QcA D (va_A ws H.size) o ws1 a) (va_A ws H.size)) (h : Hz D A H0 H locs ws) (hA : ∀ q, H0.size ≤ q → A q)
    (kk : ∀ (H1 : Heap) (locs1 : List Loc), Hz D A H0 H1 locs1 ws1 → W p l e (rmZ k) s m args below meth c H1 locs1 0 0 Q (F0 m (pc + 3) ls (o.toList ++ rest))) : W p l e (rmZ k) s m args below meth c H locs 0 0 Q (F0 m pc ls st0) :=
  cz_run (wr := []) (w1 := ws1) run h hA (List.range ws.length) [] (List.range ws1.length) (map_range_get ws) rfl rfl (fun _ h => by cases h) (va_nd_range _) (map_range_get ws1) kk
/-- the callee has no world -/
theorem cz_none {st0 : List Value} {a : Array Value} {o : Option Value} (run : va_Run p l e (rmZ k) s m args below meth c H locs 0 0 0 0 (F0 m pc ls st0) rest (QcA D (va_A [] H.size) o [] a) (va_A [] H.size)) (h : Hz D A H0 H locs ws) (hA : ∀ q, H0.size ≤ q → A q)
    (kk : ∀ (H1 : Heap) (locs1 : List Loc), Hz D A H0 H1 locs1 ws → W p l e (rmZ k) s m args below meth c H1 locs1 0 0 Q (F0 m (pc + 3) ls (o.toList ++ rest))) : W p l e (rmZ k) s m args below meth c H locs 0 0 Q (F0 m pc ls st0) :=
  cz_run (wr := ws) (w1 := []) (ws1 := ws) run h hA [] (List.range ws.length) (List.range ws.length) rfl (map_range_get ws) (va_nd_range _) (fun _ _ h => by cases h) (va_nd_range _) (by rw [List.append_nil]; exact map_range_get ws) kk
variable {y : MethodName} {wy wy' : List Cond} {kc index n maxL : Nat} {bytes : ByteArray} {ret : Option FieldType} {As st0 : List Value} {o : Option Value} {wc wc' : va_W}
abbrev hdZ (y : MethodName) (n : Nat) : Prop := y.cls ≠ "java/lang/invoke/MethodHandle" ∧ y.cls ≠ "java/lang/invoke/VarHandle" ∧ (parseMethodDescriptor y.desc).map (fun d => d.parameters.length) = some n
abbrev hRZ (kc k maxL : Nat) : Prop := kc + 1 ≤ k ∧ 8 + (maxL + 11) + 36 * kc ≤ 36 * k
theorem run_S (B : Bz p m meth c cc nL s args Ts own D cI cN) (hM : Fn l D cI cN y wy kc wc As o wc') (g : GoodIn Ts (va_wsS own index y wy)) (hw : wy = Cond.code y bytes maxL ret :: wy') (hd : hdZ y n) (hR : hRZ kc k maxL)
    (hP : va_P D vwCl wc H) (hD : va_D A wc) (hn : As.length = n) (hl : ls.size = nL) (hst : st0 = As.reverse ++ rest) (hW : (rest.map fun v => v.category).sum ≤ 8) (d : decode cc pc = .ok (.invokestatic index, 3)) :
    va_Run p l e (rmZ k) s m args below meth c H locs 0 0 0 0 (F0 m pc ls st0) rest (QcA D (va_A wc H.size) o wc' As.toArray) (va_A wc H.size) :=
  va_runS B.1 (hM H.size) (va_cwS n B.1.2.2.2.2 g hw rfl rfl hd hR) ⟨PcZ.blind, fun U hU hW => ⟨rfl, by rw [hU], by rw [hU]; exact hP, va_K.moved hW.alike B.2.1, NZ.alike hW B.2.2.2, hD.weaken (fun _ _ _ _ => trivial)⟩⟩ rfl hn hl hst (lv_room hW) d ⟨Nat.le_refl _, Nat.le_refl _⟩
theorem run_N (B : Bz p m meth c cc nL s args Ts own D cI cN) (hM : Fn l D cI cN y wy kc wc As o wc') (g : GoodIn Ts wy) (hown : own = RX0) (hq : (index, y) ∈ nwZ) (hini : Cond.initialized y.cls ∈ Ts) (hstt : Cond.static y ∈ Ts) (hw : wy = Cond.code y bytes maxL ret :: wy') (hd : hdZ y n) (hR : hRZ kc k maxL)
    (hP : va_P D vwCl wc H) (hD : va_D A wc) (hn : As.length = n) (hl : ls.size = nL) (hst : st0 = As.reverse ++ rest) (hW : (rest.map fun v => v.category).sum ≤ 8) (d : decode cc pc = .ok (.invokestatic index, 3)) :
    va_Run p l e (rmZ k) s m args below meth c H locs 0 0 0 0 (F0 m pc ls st0) rest (QcA D (va_A wc H.size) o wc' As.toArray) (va_A wc H.size) := by
  subst hown
  exact va_runSN B.1 (hM H.size) ⟨va_cnB (host := "LinkEstablisher") n B.1.2.2.2.2 g hw rfl rfl (B.2.2.2 _ hq) (B.1.2.2.2.2 _ hini) hd hR, B.1.2.2.2.2 _ hstt, trivial⟩ ⟨PcZ.blind, fun U hU hW => ⟨rfl, by rw [hU], by rw [hU]; exact hP, va_K.moved hW.alike B.2.1, NZ.alike hW B.2.2.2, hD.weaken (fun _ _ _ _ => trivial)⟩⟩ rfl hn hl hst (lv_room hW) d ⟨Nat.le_refl _, Nat.le_refl _⟩
theorem run_V {C : String} {T : u_T} {N ci b q0 : Nat} {fs : List Value} (B : Bz p m meth c cc nL s args Ts own D cI cN) (hM : Fn l D cI cN y wy kc wc (.ref b :: As) o wc') (g : GoodIn Ts (wsV own index C y wy)) (hw : wy = Cond.code y bytes maxL ret :: wy') (hyc : y.cls = C) (hd : hdZ y n) (hR : hRZ kc k maxL)
    (hc : vwCl[ci]? = some (C, T, N)) (he : wc[q0]? = some (b, .inr (ci, fs))) (hP : va_P D vwCl wc H) (hD : va_D A wc) (hn : As.length = n) (hl : ls.size = nL) (hst : st0 = As.reverse ++ .ref b :: rest) (hW : (rest.map fun v => v.category).sum ≤ 8) (d : decode cc pc = .ok (.invokevirtual index, 3)) :
    va_Run p l e (rmZ k) s m args below meth c H locs 0 0 0 0 (F0 m pc ls st0) rest (QcA D (va_A wc H.size) o wc' (Value.ref b :: As).toArray) (va_A wc H.size) :=
  va_runV (C := C) (b := b) B.1 (hM H.size) (cwV n B.1.2.2.2.2 g hw rfl rfl ⟨hyc, hd⟩ hR) ⟨PcZ.blind, va_recv B.2.1 hP (ci := ci) (q0 := q0) hc he, fun U hU hW => ⟨rfl, by rw [hU], by rw [hU]; exact hP, va_K.moved hW.alike B.2.1, NZ.alike hW B.2.2.2, hD.weaken (fun _ _ _ _ => trivial)⟩⟩ rfl hn hl hst (lv_room hW) d ⟨Nat.le_refl _, Nat.le_refl _⟩
/-- a call of a static method without a world, that answers an int -/
theorem cS {v : Value} (B : Bz p m meth c cc nL s args Ts own D cI cN) (h : Hz D A H0 H locs ws) (hA : ∀ q, H0.size ≤ q → A q) (hM : Fn l D cI cN y wy kc [] As (some v) []) (g : GoodIn Ts (va_wsS own index y wy)) (hw : wy = Cond.code y bytes maxL ret :: wy') (hd : hdZ y n) (hR : hRZ kc k maxL)
    (hn : As.length = n) (hl : ls.size = nL) (hst : st0 = As.reverse ++ rest) (hW : (rest.map fun v => v.category).sum ≤ 8) (d : decode cc pc = .ok (.invokestatic index, 3))
    (kk : ∀ (H1 : Heap) (locs1 : List Loc), Hz D A H0 H1 locs1 ws → W p l e (rmZ k) s m args below meth c H1 locs1 0 0 Q (F0 m (pc + 3) ls (v :: rest))) : W p l e (rmZ k) s m args below meth c H locs 0 0 Q (F0 m pc ls st0) :=
  cz_none (o := some v) (run_S (A := A) B hM g hw hd hR (fun k q h => by simp at h) ⟨fun i j p q h => by simp at h, fun k q h => by simp at h⟩ hn hl hst hW d) h hA kk
theorem cNst {v : Value} (B : Bz p m meth c cc nL s args Ts own D cI cN) (h : Hz D A H0 H locs ws) (hA : ∀ q, H0.size ≤ q → A q) (hM : Fn l D cI cN y wy kc [] As (some v) []) (g : GoodIn Ts wy) (hown : own = RX0) (hq : (index, y) ∈ nwZ) (hini : Cond.initialized y.cls ∈ Ts) (hstt : Cond.static y ∈ Ts) (hw : wy = Cond.code y bytes maxL ret :: wy') (hd : hdZ y n) (hR : hRZ kc k maxL)
    (hn : As.length = n) (hl : ls.size = nL) (hst : st0 = As.reverse ++ rest) (hW : (rest.map fun v => v.category).sum ≤ 8) (d : decode cc pc = .ok (.invokestatic index, 3))
    (kk : ∀ (H1 : Heap) (locs1 : List Loc), Hz D A H0 H1 locs1 ws → W p l e (rmZ k) s m args below meth c H1 locs1 0 0 Q (F0 m (pc + 3) ls (v :: rest))) : W p l e (rmZ k) s m args below meth c H locs 0 0 Q (F0 m pc ls st0) :=
  cz_none (o := some v) (run_N (A := A) B hM g hown hq hini hstt hw hd hR (fun k q h => by simp at h) ⟨fun i j p q h => by simp at h, fun k q h => by simp at h⟩ hn hl hst hW d) h hA kk
/-- a call of a method of the same world -/
theorem cV {C : String} {T : u_T} {N ci b q0 : Nat} {fs : List Value} {v : Value} (B : Bz p m meth c cc nL s args Ts own D cI cN) (h : Hz D A H0 H locs ws) (hA : ∀ q, H0.size ≤ q → A q) (hM : Fn l D cI cN y wy kc ws (.ref b :: As) (some v) ws1) (g : GoodIn Ts (wsV own index C y wy)) (hw : wy = Cond.code y bytes maxL ret :: wy') (hyc : y.cls = C) (hd : hdZ y n) (hR : hRZ kc k maxL)
    (hc : vwCl[ci]? = some (C, T, N)) (he : ws[q0]? = some (b, .inr (ci, fs))) (hn : As.length = n) (hl : ls.size = nL) (hst : st0 = As.reverse ++ .ref b :: rest) (hW : (rest.map fun v => v.category).sum ≤ 8) (d : decode cc pc = .ok (.invokevirtual index, 3))
    (kk : ∀ (H1 : Heap) (locs1 : List Loc), Hz D A H0 H1 locs1 ws1 → W p l e (rmZ k) s m args below meth c H1 locs1 0 0 Q (F0 m (pc + 3) ls (v :: rest))) : W p l e (rmZ k) s m args below meth c H locs 0 0 Q (F0 m pc ls st0) :=
  cz_all (o := some v) (run_V (A := A) B hM g hw hyc hd hR hc he h.1 h.2.1 hn hl hst hW d) h hA kk
theorem cVv {C : String} {T : u_T} {N ci b q0 : Nat} {fs : List Value} (B : Bz p m meth c cc nL s args Ts own D cI cN) (h : Hz D A H0 H locs ws) (hA : ∀ q, H0.size ≤ q → A q) (hM : Fn l D cI cN y wy kc ws (.ref b :: As) none ws1) (g : GoodIn Ts (wsV own index C y wy)) (hw : wy = Cond.code y bytes maxL ret :: wy') (hyc : y.cls = C) (hd : hdZ y n) (hR : hRZ kc k maxL)
    (hc : vwCl[ci]? = some (C, T, N)) (he : ws[q0]? = some (b, .inr (ci, fs))) (hn : As.length = n) (hl : ls.size = nL) (hst : st0 = As.reverse ++ .ref b :: rest) (hW : (rest.map fun v => v.category).sum ≤ 8) (d : decode cc pc = .ok (.invokevirtual index, 3))
    (kk : ∀ (H1 : Heap) (locs1 : List Loc), Hz D A H0 H1 locs1 ws1 → W p l e (rmZ k) s m args below meth c H1 locs1 0 0 Q (F0 m (pc + 3) ls rest)) : W p l e (rmZ k) s m args below meth c H locs 0 0 Q (F0 m pc ls st0) :=
  cz_all (o := none) (run_V (A := A) B hM g hw hyc hd hR hc he h.1 h.2.1 hn hl hst hW d) h hA kk
/-- a call of a method whose world is a part of this one -/
theorem cP {C : String} {T : u_T} {N ci b q0 : Nat} {fs : List Value} {v : Value} {wr : va_W} (B : Bz p m meth c cc nL s args Ts own D cI cN) (h : Hz D A H0 H locs ws) (hA : ∀ q, H0.size ≤ q → A q) (hM : Fn l D cI cN y wy kc wc (.ref b :: As) (some v) wc') (g : GoodIn Ts (wsV own index C y wy)) (hw : wy = Cond.code y bytes maxL ret :: wy') (hyc : y.cls = C) (hd : hdZ y n) (hR : hRZ kc k maxL)
    (hc : vwCl[ci]? = some (C, T, N)) (he : wc[q0]? = some (b, .inr (ci, fs))) (hn : As.length = n) (hl : ls.size = nL) (hst : st0 = As.reverse ++ .ref b :: rest) (hW : (rest.map fun v => v.category).sum ≤ 8) (d : decode cc pc = .ok (.invokevirtual index, 3))
    (isC isR is : List Nat) (hC : isC.map (fun i => ws[i]?) = wc.map some) (hR2 : isR.map (fun i => ws[i]?) = wr.map some) (hnc : va_nd isC = true) (hnr : va_nd isR = true) (hdis : ∀ i ∈ isR, i ∉ isC) (hn2 : va_nd is = true) (hs : is.map (fun i => (wr ++ wc')[i]?) = ws1.map some)
    (kk : ∀ (H1 : Heap) (locs1 : List Loc), Hz D A H0 H1 locs1 ws1 → W p l e (rmZ k) s m args below meth c H1 locs1 0 0 Q (F0 m (pc + 3) ls (v :: rest))) : W p l e (rmZ k) s m args below meth c H locs 0 0 Q (F0 m pc ls st0) :=
  cz_run (o := some v) (run_V (A := A) B hM g hw hyc hd hR hc he (h.1.sub isC (fm_map _ _ _ hC)) (h.2.1.sub isC hnc hC) hn hl hst hW d) h hA isC isR is hC hR2 hnr hdis hn2 hs kk
theorem cPv {C : String} {T : u_T} {N ci b q0 : Nat} {fs : List Value} {wr : va_W} (B : Bz p m meth c cc nL s args Ts own D cI cN) (h : Hz D A H0 H locs ws) (hA : ∀ q, H0.size ≤ q → A q) (hM : Fn l D cI cN y wy kc wc (.ref b :: As) none wc') (g : GoodIn Ts (wsV own index C y wy)) (hw : wy = Cond.code y bytes maxL ret :: wy') (hyc : y.cls = C) (hd : hdZ y n) (hR : hRZ kc k maxL)
    (hc : vwCl[ci]? = some (C, T, N)) (he : wc[q0]? = some (b, .inr (ci, fs))) (hn : As.length = n) (hl : ls.size = nL) (hst : st0 = As.reverse ++ .ref b :: rest) (hW : (rest.map fun v => v.category).sum ≤ 8) (d : decode cc pc = .ok (.invokevirtual index, 3))
    (isC isR is : List Nat) (hC : isC.map (fun i => ws[i]?) = wc.map some) (hR2 : isR.map (fun i => ws[i]?) = wr.map some) (hnc : va_nd isC = true) (hnr : va_nd isR = true) (hdis : ∀ i ∈ isR, i ∉ isC) (hn2 : va_nd is = true) (hs : is.map (fun i => (wr ++ wc')[i]?) = ws1.map some)
    (kk : ∀ (H1 : Heap) (locs1 : List Loc), Hz D A H0 H1 locs1 ws1 → W p l e (rmZ k) s m args below meth c H1 locs1 0 0 Q (F0 m (pc + 3) ls rest)) : W p l e (rmZ k) s m args below meth c H locs 0 0 Q (F0 m pc ls st0) :=
  cz_run (o := none) (run_V (A := A) B hM g hw hyc hd hR hc he (h.1.sub isC (fm_map _ _ _ hC)) (h.2.1.sub isC hnc hC) hn hl hst hW d) h hA isC isR is hC hR2 hnr hdis hn2 hs kk
end BASE
