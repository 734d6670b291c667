theorem sub_all (X : va_W) : (rgF 0 X.length).map (fun i => X[i]?) = X.map some := by
  have := rg_l X []
  rw [List.append_nil] at this
  exact this
theorem KT.start : KT 0 fInit := by
  refine ⟨rfl, fun k hk => ?_, by unfold fNn; decide, by decide, fun k hk => ?_, fun i hi => ?_⟩
  · unfold scn
    rw [fi_scan k hk]
    exact ⟨by decide, by decide, by decide⟩
  · unfold lnk
    rw [fi_link k hk]
    exact ⟨by decide, by decide⟩
  · exact ⟨Or.inl (fi_sc i hi), 0, Nat.le_refl _, fi_st i hi⟩
set_option maxRecDepth 100000 in
set_option maxHeartbeats 4000000 in
/-- THE LAW, from its entry -/
theorem whole_start {p : Program} {e : Env} {s : State} {m : MethodId} {below : List Frame} {meth : Method} {c : Code} (l : Launch) (hflags : l.flags = flags0) {b L : Nat} {xs : Nat → Int32} (hL : L ≤ 2560) (C0 : lw_At p s m meth c b L xs) : W p l e room_1 s m #[Value.ref b] below meth c s.heap [] 0 0 (lw_Z below #[Value.ref b] s) (entryFrame m ([Value.ref b] : List Value).toArray 4) := by
  obtain ⟨hx, hb, hr, hml, hown, hts, hX, hbl, hlocks, hgv⟩ := id C0
  have hA : ∀ q : Nat, s.heap.size ≤ q → (fun q : Nat => s.heap.size ≤ q) q := fun _ h => h
  have hin0 : ∀ w ∈ wsX00, w ∈ lw_tbl := wsl_wsX00
  have hin1 : ∀ w ∈ wsX10, w ∈ lw_tbl := wsl_wsX10
  have hin2 : ∀ w ∈ wsX20, w ∈ lw_tbl := wsl_wsX20
  obtain ⟨c0, iS0, hKn0⟩ := u_known (C := RX0) (T := TX0) (N := 16) (n := 16) hts hin0 (hts (.instantiable RX0 16) (by decide +kernel))
  obtain ⟨c1, iS1, hKn1⟩ := u_known (C := RX1) (T := TX1) (N := 6) (n := 6) hts hin1 (hts (.instantiable RX1 6) (by decide +kernel))
  obtain ⟨c2, iS2, hKn2⟩ := u_known (C := RX2) (T := TX2) (N := 7) (n := 7) hts hin2 (hts (.instantiable RX2 7) (by decide +kernel))
  obtain ⟨dC, dI, hKc⟩ : ∃ (dC : Nat → ClassId) (dI : Nat → Nat → Nat), ∀ (k : Nat) (q : vw_C), vwCl[k]? = some q → u_Kn s q.1 q.2.1 q.2.2 (dC k) (dI k) := by
    refine ⟨fun k => if k = 0 then c0 else if k = 1 then c1 else c2, fun k => if k = 0 then iS0 else if k = 1 then iS1 else iS2, ?_⟩
    intro k q hq
    match k, hq with
    | 0, hq => cases hq; exact hKn0
    | 1, hq => cases hq; exact hKn1
    | 2, hq => cases hq; exact hKn2
    | k + 3, hq => simp [vwCl] at hq
  obtain ⟨cI, kI, compI, hI1, hI2, hI3⟩ := Cond.arrayClass_spec (hts (.arrayClass .int) (by decide +kernel))
  have hO : va_AO RX0 s := va_AO.of (A := #[Value.ref b]) (hts (.arrayOver (.object RX0)) (by decide +kernel))
  obtain ⟨compN, cN, kN, hN1, hN2, hN3, hN4, hN5⟩ := Cond.arrayOver_spec (va_AO.use (A := #[Value.ref b]) hO)
  have hK : va_K (dC, dI) vwCl (tysZ cI cN) s := by
    refine ⟨hKc, fun k q h => ?_⟩
    match k, h with
    | 0, h => cases h; exact ⟨fun n z => ⟨fun k h => (by cases h), kI, hI2, compI, hI3⟩, hI1⟩
    | 1, h => cases h; exact ⟨fun n z => ⟨fun k h => (by cases h), kN, hN3, compN, hN4⟩, kN, compN, hN3, hN4, hN1, hN5⟩
    | k + 2, h => simp [tysZ] at h
  have hNZ : NZ s := by
    intro q hq
    simp only [nwZ, List.mem_cons, List.not_mem_nil, or_false] at hq
    rcases hq with rfl | rfl | rfl | rfl
    · exact va_Nw.of (A := #[Value.ref b]) rfl (hts (.methodLinkNest RX0 89 yX1_contains "LinkEstablisher") (by decide +kernel))
    · exact va_Nw.of (A := #[Value.ref b]) rfl (hts (.methodLinkNest RX0 103 yX1_cell "LinkEstablisher") (by decide +kernel))
    · exact va_Nw.of (A := #[Value.ref b]) rfl (hts (.methodLinkNest RX0 110 yX1_majority "LinkEstablisher") (by decide +kernel))
    · exact va_Nw.of (A := #[Value.ref b]) rfl (hts (.methodLinkNest RX0 156 yX1_mix "LinkEstablisher") (by decide +kernel))
  have B : Bz p m meth c cL_law 4 s #[Value.ref b] wsL_law RL (dC, dI) cI cN := ⟨⟨hx, hb, hml, hown, fun w h => hts w (wsL_law_in w h)⟩, hK, hlocks, hNZ⟩
  have hz : Hz (dC, dI) (fun q : Nat => s.heap.size ≤ q) s.heap s.heap [] [] := ⟨fun k q h => by simp at h, ⟨fun i j p q h => by simp at h, fun k q h => by simp at h⟩, va_S.rf⟩
  have hl := lv_entry ([.ref b]) (n := 4) (Nat.le_of_ble_eq_true rfl)
  rw [lg_entry_eq]
  generalize (lg_sl ([.ref b]) ++ List.replicate (4 - (lg_sl ([.ref b])).length) Slot.unset).toArray = ls at hl ⊢
  have hl : lv_has ls 4 [(0, .ref b)] := hl
  refine nzO (C := RX1) (T := TX1) (N := 6) (ci := 1) (fs := [.null, .null, .int 0, .int 0, .int 0, .int 0]) B hz hA inlX1 tyX1_ok (by decide +kernel) (by decide +kernel) (by decide +kernel) rfl (fun j hj => by rcases (show j = 0 ∨ j = 1 ∨ j = 2 ∨ j = 3 ∨ j = 4 ∨ j = 5 by omega) with rfl | rfl | rfl | rfl | rfl | rfl <;> rfl) (Nat.le_of_ble_eq_true rfl) (Nat.le_of_ble_eq_true rfl) dL_law_0 (fun q1 H hz => ?_)
  replace hz := hz.cast (w' := [(q1, .inr (1, [.null, .null, .int 0, .int 0, .int 0, .int 0]))]) rfl
  refine W.widen (k := 1) (n := 6) (Nat.le_of_ble_eq_true rfl) (Nat.le_of_ble_eq_true rfl) ?_
  refine lv_dup hx hb dL_law_3 rfl ?_
  refine cIz (index := 9) (n := 0) (As := []) (rest := [.ref q1]) (wr := []) B hO hz hA (c_X1_init l (dC, dI) cI cN q1) gL_law_X1_init rfl rfl rfl rfl (by decide +kernel) (by decide +kernel) (by decide +kernel) hd_X1_init (by decide) ⟨Nat.le_of_ble_eq_true rfl, Nat.le_of_ble_eq_true rfl⟩ rfl hl.1 rfl (Nat.le_of_ble_eq_true rfl) dL_law_4 [0] [] rfl rfl (by decide) (by decide) (by decide) (fun w H locs hw hzN => ?_)
  obtain ⟨bx, an, hbx, rfl⟩ := hw
  subst hbx
  have hz := hzN.cast (w' := xW cI cN bx an fInit fZero (fun _ => fInit) (fun _ => fZero) 0 0 0 0) rfl
  refine W.widen (k := 42) (n := 3205) (Nat.le_of_ble_eq_true rfl) (Nat.le_of_ble_eq_true rfl) ?_
  refine lv_astore_n (lv' := [(1, .ref (bx 0)), (0, .ref b)]) hx hb dL_law_7 rfl hl (by decide) rfl (fun ls hl => ?_)
  refine nzO (C := RX2) (T := TX2) (N := 7) (ci := 2) (fs := [.null, .null, .int 0, .null, .null, .null, .long 0]) B hz hA inlX2 tyX2_ok (by decide +kernel) (by decide +kernel) (by decide +kernel) rfl (fun j hj => by rcases (show j = 0 ∨ j = 1 ∨ j = 2 ∨ j = 3 ∨ j = 4 ∨ j = 5 ∨ j = 6 by omega) with rfl | rfl | rfl | rfl | rfl | rfl | rfl <;> rfl) (Nat.le_of_ble_eq_true rfl) (Nat.le_of_ble_eq_true rfl) dL_law_8 (fun q2 H hz => ?_)
  refine W.widen (k := 43) (n := 3212) (Nat.le_of_ble_eq_true rfl) (Nat.le_of_ble_eq_true rfl) ?_
  refine lv_dup hx hb dL_law_11 rfl ?_
  refine cIz (index := 12) (n := 0) (As := []) (rest := [.ref q2]) (wr := xW cI cN bx an fInit fZero (fun _ => fInit) (fun _ => fZero) 0 0 0 0) B hO hz hA (c_X2_init l (dC, dI) cI cN q2) gL_law_X2_init rfl rfl rfl rfl (by decide +kernel) (by decide +kernel) (by decide +kernel) hd_X2_init (by decide) ⟨Nat.le_of_ble_eq_true rfl, Nat.le_of_ble_eq_true rfl⟩ rfl hl.1 rfl (Nat.le_of_ble_eq_true rfl) dL_law_12 [42] [0, 1, 2, 3, 4, 5, 6, 7, 8, 9, 10, 11, 12, 13, 14, 15, 16, 17, 18, 19, 20, 21, 22, 23, 24, 25, 26, 27, 28, 29, 30, 31, 32, 33, 34, 35, 36, 37, 38, 39, 40, 41] rfl rfl (by decide) (by decide) (by decide) (fun w H locs hw hzN => ?_)
  obtain ⟨am, ham, rfl⟩ := hw
  subst ham
  have hz := hzN
  refine W.widen (k := 48) (n := 6350) (Nat.le_of_ble_eq_true rfl) (Nat.le_of_ble_eq_true rfl) ?_
  refine lv_astore_n (lv' := [(2, .ref (am 0)), (1, .ref (bx 0)), (0, .ref b)]) hx hb dL_law_15 rfl hl (by decide) rfl (fun ls hl => ?_)
  refine lv_iconst (v := nI 0) hx hb dL_law_16 (by decide) ?_
  refine lv_istore_n (lv' := [(3, .int (nI 0)), (2, .ref (am 0)), (1, .ref (bx 0)), (0, .ref b)]) hx hb dL_law_17 rfl hl (by decide) rfl (fun ls hl => ?_)
  refine W.widen (k := 600000) (n := 7302250) (Nat.le_of_ble_eq_true rfl) (Nat.le_of_ble_eq_true rfl) ?_
  exact law_loop l hL C0 B bx an am (L + 6) 0 (by omega) _ H locs ls ⟨fInit, fZero, fun _ => fInit, fun _ => fZero, 0, 0, fZero, fZero, fZero, fZero, 0, 0, rfl, KT.start, by omega, by omega, by omega, fun j hj => absurd hj (Nat.not_lt_zero _)⟩ (by omega) hz (lv_sub hl [3, 2, 1, 0] rfl)
