/-! THE LAW: rows for two worlds side by side; what holds between calls -/
theorem wsL_law_in : ∀ w ∈ wsL_law, w ∈ lw_tbl := by
  have h0 : ∀ w ∈ ([] : List Cond), w ∈ lw_tbl := fun _ h => absurd h List.not_mem_nil
  unfold wsL_law
  refine List.forall_mem_append.mpr ⟨List.forall_mem_append.mpr ⟨List.forall_mem_append.mpr ⟨List.forall_mem_append.mpr ⟨?_, wsl_wsX10⟩, wsl_wsX20⟩, wsl_wsX00⟩, h0⟩
  exact List.forall_mem_append.mpr ⟨wsl_1, List.forall_mem_append.mpr ⟨wsl_2, List.forall_mem_append.mpr ⟨wsl_3, List.forall_mem_append.mpr ⟨wsl_4, List.forall_mem_append.mpr ⟨wsl_5, List.forall_mem_append.mpr ⟨wsl_6, List.forall_mem_append.mpr ⟨wsl_7, List.forall_mem_append.mpr ⟨wsl_8, List.forall_mem_append.mpr ⟨wsl_9, List.forall_mem_append.mpr ⟨wsl_10, List.forall_mem_append.mpr ⟨wsl_11, List.forall_mem_append.mpr ⟨wsl_12, List.forall_mem_append.mpr ⟨wsl_13, List.forall_mem_append.mpr ⟨wsl_14, List.forall_mem_append.mpr ⟨wsl_15, List.forall_mem_append.mpr ⟨wsl_16, List.forall_mem_append.mpr ⟨wsl_17, List.forall_mem_append.mpr ⟨wsl_18, List.forall_mem_append.mpr ⟨wsl_19, List.forall_mem_append.mpr ⟨wsl_20, List.forall_mem_append.mpr ⟨wsl_21, List.forall_mem_append.mpr ⟨wsl_22, List.forall_mem_append.mpr ⟨wsl_23, List.forall_mem_append.mpr ⟨wsl_24, wsl_25⟩⟩⟩⟩⟩⟩⟩⟩⟩⟩⟩⟩⟩⟩⟩⟩⟩⟩⟩⟩⟩⟩⟩⟩
def rgF (o n : Nat) : List Nat := (List.range n).map (fun i => o + i)
theorem rg_l {α : Type} (X M : List α) : (rgF 0 X.length).map (fun i => (X ++ M)[i]?) = X.map some := by
  apply List.ext_getElem?
  intro i
  unfold rgF
  by_cases h : i < X.length
  · simp [h, List.getElem?_append_left h]
  · simp [h]
theorem rg_r {α : Type} (X M : List α) : (rgF X.length M.length).map (fun i => (X ++ M)[i]?) = M.map some := by
  apply List.ext_getElem?
  intro i
  unfold rgF
  by_cases h : i < M.length
  · simp [h]
  · simp [h]
theorem rg_n (o n : Nat) : va_nd (rgF o n) = true := by
  apply va_nd_of
  unfold rgF
  rw [List.nodup_iff_pairwise_ne, List.pairwise_map]
  exact (List.nodup_iff_pairwise_ne.mp List.nodup_range).imp (fun h => by omega)
theorem rg_m {o n i : Nat} (h : i ∈ rgF o n) : o ≤ i ∧ i < o + n := by
  unfold rgF at h
  obtain ⟨j, hj, rfl⟩ := List.mem_map.mp h
  have := List.mem_range.mp hj
  omega
theorem nd_app {a b : List Nat} (h1 : va_nd a = true) (h2 : va_nd b = true) (h : ∀ i ∈ a, i ∉ b) : va_nd (a ++ b) = true := by
  induction a with
  | nil => exact h2
  | cons x a ih =>
    simp only [va_nd, Bool.and_eq_true, decide_eq_true_eq, List.cons_append] at *
    refine ⟨?_, ih h1.2 (fun i hi => h i (List.mem_cons_of_mem _ hi))⟩
    rw [List.mem_append]
    rintro (q | q)
    · exact h1.1 q
    · exact h x List.mem_cons_self q
section LAWR
variable {p : Program} {l : Launch} {e : Env} {R : Room} {s : State} {m : MethodId} {args : Array Value} {below : List Frame} {meth : Method} {c : Code} {H : Heap} {locs : List Loc} {Q : State → Prop}
variable {D : va_G} {A : Nat → Prop} {cI cN : ClassId} {cc : ByteArray} {nL : Nat} {Ts : List Cond} {own : String} {pc : Nat} {ls : Array Slot} {rest : List Value} {X X' M M' : va_W} {H0 : Heap} {ce sl : Nat}
variable {y : MethodName} {wy wy' : List Cond} {kc index n maxL : Nat} {bytes : ByteArray} {ret : Option FieldType} {As st0 : List Value} {v : Value}
/-- a call of a method whose world is the left one -/
theorem cL {C : String} {T : u_T} {N ci b : Nat} {fs : List Value} (B : Bz p m meth c cc nL s args Ts own D cI cN) (h : Hz D A H0 H locs (X ++ M)) (hA : ∀ q, H0.size ≤ q → A q) (hM : Fn l D cI cN y wy kc X (.ref b :: As) (some v) X') (g : GoodIn Ts (wsV own index C y wy)) (hw : wy = Cond.code y bytes maxL ret :: wy') (hyc : y.cls = C) (hd : hdZ y n) (hR : hRG kc R maxL) (hcs : ce ≤ R.cells ∧ sl ≤ R.slots)
    (hc : vwCl[ci]? = some (C, T, N)) (he : X[0]? = some (b, .inr (ci, fs))) (hn : As.length = n) (hl : ls.size = nL) (hst : st0 = As.reverse ++ .ref b :: rest) (hW : (rest.map fun v => v.category).sum ≤ 8) (d : decode cc pc = .ok (.invokevirtual index, 3))
    (kk : ∀ (H1 : Heap) (locs1 : List Loc), Hz D A H0 H1 locs1 (X' ++ M) → W p l e R s m args below meth c H1 locs1 ce sl Q (F0 m (pc + 3) ls (v :: rest))) : W p l e R s m args below meth c H locs ce sl Q (F0 m pc ls st0) :=
  cPG (ci := ci) (q0 := 0) (wr := M) (ws1 := X' ++ M) B h hA hM g hw hyc hd hR hcs hc he hn hl hst hW d (rgF 0 X.length) (rgF X.length M.length) (rgF M.length X'.length ++ rgF 0 M.length) (rg_l X M) (rg_r X M) (rg_n _ _) (rg_n _ _) (fun i h1 h2 => by have := rg_m h1; have := rg_m h2; omega)
    (nd_app (rg_n _ _) (rg_n _ _) (fun i h1 h2 => by have := rg_m h1; have := rg_m h2; omega)) (by rw [List.map_append, rg_r M X', rg_l M X', List.map_append]) kk
theorem cR {C : String} {T : u_T} {N ci b : Nat} {fs : List Value} (B : Bz p m meth c cc nL s args Ts own D cI cN) (h : Hz D A H0 H locs (X ++ M)) (hA : ∀ q, H0.size ≤ q → A q) (hM : Fn l D cI cN y wy kc M (.ref b :: As) (some v) M') (g : GoodIn Ts (wsV own index C y wy)) (hw : wy = Cond.code y bytes maxL ret :: wy') (hyc : y.cls = C) (hd : hdZ y n) (hR : hRG kc R maxL) (hcs : ce ≤ R.cells ∧ sl ≤ R.slots)
    (hc : vwCl[ci]? = some (C, T, N)) (he : M[0]? = some (b, .inr (ci, fs))) (hn : As.length = n) (hl : ls.size = nL) (hst : st0 = As.reverse ++ .ref b :: rest) (hW : (rest.map fun v => v.category).sum ≤ 8) (d : decode cc pc = .ok (.invokevirtual index, 3))
    (kk : ∀ (H1 : Heap) (locs1 : List Loc), Hz D A H0 H1 locs1 (X ++ M') → W p l e R s m args below meth c H1 locs1 ce sl Q (F0 m (pc + 3) ls (v :: rest))) : W p l e R s m args below meth c H locs ce sl Q (F0 m pc ls st0) :=
  cPG (ci := ci) (q0 := 0) (wr := X) (ws1 := X ++ M') B h hA hM g hw hyc hd hR hcs hc he hn hl hst hW d (rgF X.length M.length) (rgF 0 X.length) (rgF 0 X.length ++ rgF X.length M'.length) (rg_r X M) (rg_l X M) (rg_n _ _) (rg_n _ _) (fun i h1 h2 => by have := rg_m h1; have := rg_m h2; omega)
    (nd_app (rg_n _ _) (rg_n _ _) (fun i h1 h2 => by have := rg_m h1; have := rg_m h2; omega)) (by rw [List.map_append, rg_l X M', rg_r X M', List.map_append]) kk
/-- a number of the script -/
theorem sldz {b L j : Nat} {xs : Nat → Int32} {ws : va_W} (B : Bz p m meth c cc nL s args Ts own D cI cN) (hX : va_X b L xs s s.heap) (hbl : b < s.heap.size) (hbA : ¬ A b) (h : Hz D A s.heap H locs ws) (hj : j < L) (hL : L < 2 ^ 31) (d : decode cc pc = .ok (.iaload, 1))
    (kk : W p l e R s m args below meth c H locs ce sl Q (F0 m (pc + 1) ls (.int (xs j) :: rest))) : W p l e R s m args below meth c H locs ce sl Q (F0 m pc ls (.int (nI j) :: .ref b :: rest)) :=
  va_sld B.1.1 B.1.2.1 hX hbl hbA h.2.2 (vp_in_nI hj hL) d (by rw [nI_clamp (by omega)]; exact kk)
end LAWR
theorem KT.congr {T : Nat} {s s' : Sz} (h : KT T s) (e : ∀ k, k < 624 → s' k = s k) : KT T s' := by
  obtain ⟨h1, h2, h3, h4, h5, h6⟩ := h
  refine ⟨by rw [e 0 (by decide)]; exact h1, IvS_of h2 (fun k hk => e _ (by omega)), by unfold fNn; rw [e 1 (by decide)]; exact h3, by rw [e 2 (by decide)]; exact h4, fun k hk => ?_, fun i hi => ?_⟩
  · have := h5 k hk
    unfold lnk at *
    rw [e _ (by omega)]
    exact this
  · rw [e _ (by omega), e _ (by omega)]
    exact h6 i hi
/-- the saved states of both sides -/
def SVs (N : Nat) (sv : Nat → Sz) (nx np : Nat) (pst : Sz) : Prop := ∀ j, j < np → (∃ T, T ≤ N ∧ KT T (sv ((nx + 4 - np + j) % 4))) ∧ ∀ k, k < 624 → pst (624 * j + k) = sv ((nx + 4 - np + j) % 4) k
set_option maxRecDepth 100000 in
theorem SVs.save {N N' : Nat} {sv : Nat → Sz} {nx np : Nat} {pst s : Sz} (h : SVs N sv nx np pst) (hN : N ≤ N') (hnx : nx < 4) (hnp : np ≤ 4) (hs : ∃ T, T ≤ N' ∧ KT T s) : SVs N' (upS sv nx s) ((nx + 1) % 4) (fNn0 np + 1) (fNp pst s np) := by
  intro j hj
  by_cases h4 : np = 4
  · subst h4
    have e0 : fNn0 4 = 3 := rfl
    rw [e0] at hj ⊢
    by_cases hj3 : j = 3
    · subst hj3
      have ei : ((nx + 1) % 4 + 4 - (3 + 1) + 3) % 4 = nx := by omega
      rw [ei]
      have eu : upS sv nx s nx = s := if_pos rfl
      rw [eu]
      refine ⟨hs, fun k hk => ?_⟩
      show fCy s (624 * 3) (fSh pst 1872) 624 (624 * 3 + k) = s k
      unfold fCy
      rw [if_pos (by omega), Nat.add_sub_cancel_left]
    · have ei : ((nx + 1) % 4 + 4 - (3 + 1) + j) % 4 = (nx + 4 - 4 + (j + 1)) % 4 := by omega
      rw [ei]
      have eu : upS sv nx s ((nx + 4 - 4 + (j + 1)) % 4) = sv ((nx + 4 - 4 + (j + 1)) % 4) := if_neg (by omega)
      rw [eu]
      obtain ⟨⟨T, t1, t2⟩, h2⟩ := h (j + 1) (by omega)
      refine ⟨⟨T, by omega, t2⟩, fun k hk => ?_⟩
      show fCy s (624 * 3) (fSh pst 1872) 624 _ = _
      unfold fCy fSh
      rw [if_neg (by omega), if_pos (by omega), ← h2 k hk]
      congr 1; omega
  · have e0 : fNn0 np = np := if_neg h4
    rw [e0] at hj ⊢
    by_cases hjn : j = np
    · subst hjn
      have ei : ((nx + 1) % 4 + 4 - (j + 1) + j) % 4 = nx := by omega
      rw [ei]
      have eu : upS sv nx s nx = s := if_pos rfl
      rw [eu]
      refine ⟨hs, fun k hk => ?_⟩
      unfold fNp
      rw [e0]
      unfold fCy
      rw [if_pos (by omega)]
      congr 1; omega
    · have ei : ((nx + 1) % 4 + 4 - (np + 1) + j) % 4 = (nx + 4 - np + j) % 4 := by omega
      rw [ei]
      have eu : upS sv nx s ((nx + 4 - np + j) % 4) = sv ((nx + 4 - np + j) % 4) := if_neg (by omega)
      rw [eu]
      obtain ⟨⟨T, t1, t2⟩, h2⟩ := h j (by omega)
      refine ⟨⟨T, by omega, t2⟩, fun k hk => ?_⟩
      unfold fNp
      rw [e0, if_neg h4]
      unfold fCy
      rw [if_neg (by omega)]
      exact h2 k hk
/-- what holds between two calls -/
def LI (n : Nat) (cI cN : ClassId) (bx : Nat → Nat) (an : Nat → Nat → Nat) (am : Nat → Nat) (w : va_W) : Prop :=
  ∃ (s rk : Sz) (sv rv : Nat → Sz) (nx np : Nat) (pst er od rk2 : Sz) (hs : Int64) (T : Nat), w = xW cI cN bx an s rk sv rv nx np (er 0) (er 1) ++ mW cI am s pst np er od rk2 hs ∧ KT T s ∧ T ≤ 1000 * n ∧ np ≤ 4 ∧ nx < 4 ∧ SVs (1000 * n) sv nx np pst
theorem SVs.mono {N N' : Nat} {sv : Nat → Sz} {nx np : Nat} {pst : Sz} (h : SVs N sv nx np pst) (hN : N ≤ N') : SVs N' sv nx np pst := fun j hj => ⟨by obtain ⟨T, t1, t2⟩ := (h j hj).1; exact ⟨T, by omega, t2⟩, (h j hj).2⟩
set_option maxRecDepth 100000 in
/-- an undoable method has been called on both -/
theorem LI.op {n : Nat} {cI cN : ClassId} {bx : Nat → Nat} {an : Nat → Nat → Nat} {am : Nat → Nat} {s rk : Sz} {sv rv : Nat → Sz} {nx np : Nat} {pst er od rk2 : Sz} {hs : Int64} {T : Nat} (hK : KT T s) (hT : T ≤ 1000 * n) (hnp : np ≤ 4) (hnx : nx < 4) (hS : SVs (1000 * n) sv nx np pst) {rk' od' rk2' : Sz} {o : Int32 × Option Sz}
    (h1 : o.2 = none → o.1 = -2 ∨ o.1 = -3) (h2 : ∀ s', o.2 = some s' → ∃ T', T' ≤ T + 1000 ∧ KT T' s') : LI (n + 1) cI cN bx an am (xAft cI cN bx an s rk sv rv nx np (er 0) (er 1) rk' o ++ mAft cI am s pst np er od rk2 hs od' rk2' o) := by
  obtain ⟨r, o2⟩ := o
  cases o2 with
  | none =>
    rcases h1 rfl with e | e
    · have e : r = -2 := e
      subst e
      exact ⟨s, rk, sv, rv, nx, np, pst, upd er 0 (er 0 + nI 1), od, rk2, hs, T, rfl, hK, by omega, hnp, hnx, hS.mono (by omega)⟩
    · have e : r = -3 := e
      subst e
      exact ⟨s, rk, sv, rv, nx, np, pst, upd er 1 (er 1 + nI 1), od, rk2, hs, T, rfl, hK, by omega, hnp, hnx, hS.mono (by omega)⟩
  | some s' =>
    obtain ⟨T', t1, t2⟩ := h2 s' rfl
    have e : min (np + 1) 4 = fNn0 np + 1 := by
      unfold fNn0
      split <;> omega
    refine ⟨s', rk', upS sv nx s, rv, (nx + 1) % 4, fNn0 np + 1, fNp pst s np, er, od', rk2', hs, T', ?_, t2, by omega, ?_, by omega, hS.save (by omega) hnx hnp ⟨T, by omega, hK⟩⟩
    · show xW cI cN bx an s' rk' (upS sv nx s) rv ((nx + 1) % 4) (min (np + 1) 4) (er 0) (er 1) ++ mW cI am s' (fNp pst s np) (fNn0 np + 1) er od' rk2' hs = _
      rw [e]
    · unfold fNn0; split <;> omega
set_option maxRecDepth 100000 in
/-- a question has been asked of both -/
theorem LI.q {n : Nat} {cI cN : ClassId} {bx : Nat → Nat} {an : Nat → Nat → Nat} {am : Nat → Nat} {s rk : Sz} {sv rv : Nat → Sz} {nx np : Nat} {pst er od rk2 : Sz} {hs : Int64} {T : Nat} (hK : KT T s) (hT : T ≤ 1000 * n) (hnp : np ≤ 4) (hnx : nx < 4) (hS : SVs (1000 * n) sv nx np pst) {rk' od' rk2' : Sz} {hs' : Int64} {b : Bool} :
    LI (n + 1) cI cN bx an am (xW cI cN bx an s rk' sv rv nx np (if b = true then er 0 else er 0 + nI 1) (er 1) ++ mW cI am s pst np (if b = true then er else erB er) od' rk2' hs') := by
  cases b
  · exact ⟨s, rk', sv, rv, nx, np, pst, erB er, od', rk2', hs', T, rfl, hK, by omega, hnp, hnx, hS.mono (by omega)⟩
  · exact ⟨s, rk', sv, rv, nx, np, pst, er, od', rk2', hs', T, rfl, hK, by omega, hnp, hnx, hS.mono (by omega)⟩
set_option maxRecDepth 100000 in
theorem LI.q0 {n : Nat} {cI cN : ClassId} {bx : Nat → Nat} {an : Nat → Nat → Nat} {am : Nat → Nat} {s rk : Sz} {sv rv : Nat → Sz} {nx np : Nat} {pst er od rk2 : Sz} {hs : Int64} {T : Nat} (hK : KT T s) (hT : T ≤ 1000 * n) (hnp : np ≤ 4) (hnx : nx < 4) (hS : SVs (1000 * n) sv nx np pst) {hs' : Int64} :
    LI (n + 1) cI cN bx an am (xW cI cN bx an s rk sv rv nx np (er 0) (er 1) ++ mW cI am s pst np er od rk2 hs') := ⟨s, rk, sv, rv, nx, np, pst, er, od, rk2, hs', T, rfl, hK, by omega, hnp, hnx, hS.mono (by omega)⟩
set_option maxRecDepth 100000 in
/-- undo on both -/
theorem LI.undo {n : Nat} {cI cN : ClassId} {bx : Nat → Nat} {an : Nat → Nat → Nat} {am : Nat → Nat} {s rk : Sz} {sv rv : Nat → Sz} {nx np : Nat} {pst er od rk2 : Sz} {hs : Int64} {T : Nat} (hK : KT T s) (hT : T ≤ 1000 * n) (hnp : np ≤ 4) (hnx : nx < 4) (hS : SVs (1000 * n) sv nx np pst) :
    LI (n + 1) cI cN bx an am (xW cI cN bx an (if np = 0 then s else sv ((nx + 4 - 1) % 4)) rk sv rv (if np = 0 then nx else (nx + 4 - 1) % 4) (np - 1) (er 0) (if np = 0 then er 1 + nI 1 else er 1) ++ mW cI am (if np = 0 then s else fCy (fun k => pst (624 * (np - 1) + k)) 0 s 624) pst (np - 1) (if np = 0 then upd er (fIx (-3)) (er (fIx (-3)) + nI 1) else er) od rk2 hs) := by
  by_cases h0 : np = 0
  · subst h0
    simp only [if_true]
    exact ⟨s, rk, sv, rv, nx, 0, pst, upd er 1 (er 1 + nI 1), od, rk2, hs, T, rfl, hK, by omega, by omega, hnx, fun j hj => absurd hj (Nat.not_lt_zero _)⟩
  · simp only [if_neg h0]
    obtain ⟨⟨T', t1, t2⟩, h2⟩ := hS (np - 1) (by omega)
    have ei : (nx + 4 - np + (np - 1)) % 4 = (nx + 4 - 1) % 4 := by congr 1; omega
    rw [ei] at t2 h2
    have e : ∀ k, k < 624 → fCy (fun k => pst (624 * (np - 1) + k)) 0 s 624 k = sv ((nx + 4 - 1) % 4) k := by
      intro k hk
      unfold fCy
      rw [if_pos (by omega), Nat.sub_zero]
      exact h2 k hk
    refine ⟨fCy (fun k => pst (624 * (np - 1) + k)) 0 s 624, rk, sv, rv, (nx + 4 - 1) % 4, np - 1, pst, er, od, rk2, hs, T', ?_, t2.congr e, by omega, by omega, by omega, fun j hj => ?_⟩
    · unfold xW
      rw [nW_eq e]
    · obtain ⟨⟨T2, t3, t4⟩, h3⟩ := hS j (by omega)
      have ej : ((nx + 4 - 1) % 4 + 4 - (np - 1) + j) % 4 = (nx + 4 - np + j) % 4 := by omega
      rw [ej]
      exact ⟨⟨T2, by omega, t4⟩, h3⟩
