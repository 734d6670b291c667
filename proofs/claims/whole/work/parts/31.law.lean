set_option maxRecDepth 100000 in
set_option maxHeartbeats 4000000 in
/-- the loop of the law: n calls are behind -/
theorem law_loop {p : Program} {e : Env} {s : State} {m : MethodId} {below : List Frame} {meth : Method} {c : Code} (l : Launch) {b L : Nat} {xs : Nat → Int32} (hL : L ≤ 2560) (C0 : lw_At p s m meth c b L xs) {D : va_G} {cI cN : ClassId} (B : Bz p m meth c cL_law 4 s #[Value.ref b] wsL_law RL D cI cN) (bx : Nat → Nat) (an : Nat → Nat → Nat) (am : Nat → Nat) :
    ∀ (k n : Nat), L + 5 - 5 * n < k → ∀ (w : va_W) (H : Heap) (locs : List Loc) (ls : Array Slot), LI n cI cN bx an am w → 5 * n ≤ L + 4 → Hz D (fun q : Nat => s.heap.size ≤ q) s.heap H locs w → lv_has ls 4 [(0, .ref b), (1, .ref (bx 0)), (2, .ref (am 0)), (3, .int (nI (5 * n)))] → W p l e room_1 s m #[Value.ref b] below meth c H locs 600000 7302250 (lw_Z below #[Value.ref b] s) (F0 m 18 ls []) := by
  obtain ⟨hx, hb, hr, hml, hown, hts, hX, hbl, hlocks, hgv⟩ := id C0
  have hA : ∀ q : Nat, s.heap.size ≤ q → (fun q : Nat => s.heap.size ≤ q) q := fun _ h => h
  have hbA : ¬ (fun q : Nat => s.heap.size ≤ q) b := Nat.not_le.mpr hbl
  intro k
  induction k with
  | zero => intro n hm; exact absurd hm (Nat.not_lt_zero _)
  | succ k ih =>
    intro n hm w H locs ls hLI hn4 hz hl
    refine lv_iload_n hx hb dL_law_18 rfl (lv_at hl 3 rfl) ?_
    refine lv_aload_n hx hb dL_law_19 rfl (lv_at hl 0 rfl) ?_
    refine va_slen hx hb hX hbl hbA hz.2.2 dL_law_20 ?_
    refine lv_iconst (v := nI 5) hx hb dL_law_21 (by decide) ?_
    refine lv_isub hx hb dL_law_22 ?_
    refine lv_icmp_gt (tgt := 918) hx hb dL_law_23 (by decide) (fun c23 => ?_) (fun c23 => ?_)
    · refine lv_iconst (v := 1) hx hb dL_law_918 (by decide) ?_
      refine va_forget (fun q hq => hz.2.2.2.2 q hq) ?_
      exact lw_ret hx hb hr hlocks dL_law_919
    · have hlt : 5 * n + 5 ≤ L := by
        rw [Int32.lt_iff_toInt_lt, show Int32.ofNat L = nI L from rfl, pk_sub_toInt (by omega) (by omega), nI_toInt (by omega)] at c23
        omega
      have NX : ∀ (w : va_W) (H : Heap) (locs : List Loc) (ls : Array Slot), LI (n + 1) cI cN bx an am w → Hz D (fun q : Nat => s.heap.size ≤ q) s.heap H locs w → lv_has ls 4 [(0, .ref b), (1, .ref (bx 0)), (2, .ref (am 0)), (3, .int (nI (5 * n)))] → W p l e room_1 s m #[Value.ref b] below meth c H locs 600000 7302250 (lw_Z below #[Value.ref b] s) (F0 m 912 ls []) := by
        intro w H locs ls hLI hz hl
        refine lv_iinc (v := nI (5 * (n + 1))) (lv' := [(3, .int (nI (5 * (n + 1)))), (0, .ref b), (1, .ref (bx 0)), (2, .ref (am 0))]) hx hb dL_law_912 hl (k := 3) rfl (nI_add (5 * n) 5) (by decide) rfl (fun ls hl => ?_)
        refine lv_goto (tgt := 18) hx hb dL_law_915 (by decide) ?_
        exact ih (n + 1) (by omega) w H locs ls hLI (by omega) hz (lv_sub hl [1, 2, 3, 0] rfl)
      obtain ⟨s0, rk, sv, rv, nx, np, pst, er, od, rk2, hs, T, rfl, hK, hT, hnp, hnx, hS⟩ := hLI
      have hT30 : T < 2 ^ 30 := by omega
      have hKT := hK.T hT30
      refine lv_aload_n hx hb dL_law_26 rfl (lv_at hl 0 rfl) ?_
      refine lv_iload_n hx hb dL_law_27 rfl (lv_at hl 3 rfl) ?_
      refine sldz (L := L) (j := 5 * n) B hX hbl hbA hz (by omega) (by omega) dL_law_28 ?_
      refine lv_bipush (v := nI 31) hx hb dL_law_29 (by decide) ?_
      refine lv_iand hx hb dL_law_31 ?_
      obtain ⟨j, hj, ej⟩ := pk_andE (xs (5 * n)) (m := nI 31) 5 (by decide)
      rw [ej]
      rcases (show j = 0 ∨ j = 1 ∨ j = 2 ∨ j = 3 ∨ j = 4 ∨ j = 5 ∨ j = 6 ∨ j = 7 ∨ j = 8 ∨ j = 9 ∨ j = 10 ∨ j = 11 ∨ j = 12 ∨ j = 13 ∨ j = 14 ∨ j = 15 ∨ j = 16 ∨ j = 17 ∨ j = 18 ∨ j = 19 ∨ j = 20 ∨ j = 21 ∨ j = 22 ∨ j = 23 ∨ j = 24 ∨ j = 25 ∨ j = 26 ∨ j = 27 ∨ j = 28 ∨ j = 29 ∨ j = 30 ∨ j = 31 by omega) with rfl | rfl | rfl | rfl | rfl | rfl | rfl | rfl | rfl | rfl | rfl | rfl | rfl | rfl | rfl | rfl | rfl | rfl | rfl | rfl | rfl | rfl | rfl | rfl | rfl | rfl | rfl | rfl | rfl | rfl | rfl | rfl
      · refine lv_tableIn (tgt := 164) (off := 132) hx hb dL_law_32 (by decide) (by decide) rfl (by decide) ?_
        refine lv_aload_n hx hb dL_law_164 rfl (lv_at hl 1 rfl) ?_
        refine lv_aload_n hx hb dL_law_165 rfl (lv_at hl 0 rfl) ?_
        refine lv_iload_n hx hb dL_law_166 rfl (lv_at hl 3 rfl) ?_
        refine lv_iconst (v := nI 1) hx hb dL_law_167 (by decide) ?_
        refine ln_addG hx hb dL_law_168 ?_
        refine sldz (L := L) (j := 5 * n + 1) B hX hbl hbA hz (by omega) (by omega) dL_law_169 ?_
        refine lv_aload_n hx hb dL_law_170 rfl (lv_at hl 0 rfl) ?_
        refine lv_iload_n hx hb dL_law_171 rfl (lv_at hl 3 rfl) ?_
        refine lv_iconst (v := nI 2) hx hb dL_law_172 (by decide) ?_
        refine ln_addG hx hb dL_law_173 ?_
        refine sldz (L := L) (j := 5 * n + 2) B hX hbl hbA hz (by omega) (by omega) dL_law_174 ?_
        have cx := c_X1_setScan l D cI cN bx an s0 rk sv rv nx np (er 0) (er 1) (xs (5 * n + 1)) (xs (5 * n + 2)) hnx hnp
        have cm := c_X2_setScan l D cI cN am s0 pst np er od rk2 hs (xs (5 * n + 1)) (xs (5 * n + 2)) hnp
        refine cL (C := RX1) (T := TX1) (N := 6) (ci := 1) (n := 2) (As := [.int (xs (5 * n + 1)), .int (xs (5 * n + 2))]) (rest := []) (X := xW cI cN bx an s0 rk sv rv nx np (er 0) (er 1)) (M := mW cI am s0 pst np er od rk2 hs) (X' := (xAft cI cN bx an s0 rk sv rv nx np (er 0) (er 1) rk (pSetScan (xs (5 * n + 1)) (xs (5 * n + 2)) s0))) (v := .int ((pSetScan (xs (5 * n + 1)) (xs (5 * n + 2)) s0).1)) B hz hA cx gL_law_X1_setScan rfl rfl hd_X1_setScan (by decide) ⟨Nat.le_of_ble_eq_true rfl, Nat.le_of_ble_eq_true rfl⟩ rfl rfl rfl hl.1 rfl (Nat.le_of_ble_eq_true rfl) dL_law_175 (fun H locs hz => ?_)
        refine lv_aload_n hx hb dL_law_178 rfl (lv_at hl 2 rfl) ?_
        refine lv_aload_n hx hb dL_law_179 rfl (lv_at hl 0 rfl) ?_
        refine lv_iload_n hx hb dL_law_180 rfl (lv_at hl 3 rfl) ?_
        refine lv_iconst (v := nI 1) hx hb dL_law_181 (by decide) ?_
        refine ln_addG hx hb dL_law_182 ?_
        refine sldz (L := L) (j := 5 * n + 1) B hX hbl hbA hz (by omega) (by omega) dL_law_183 ?_
        refine lv_aload_n hx hb dL_law_184 rfl (lv_at hl 0 rfl) ?_
        refine lv_iload_n hx hb dL_law_185 rfl (lv_at hl 3 rfl) ?_
        refine lv_iconst (v := nI 2) hx hb dL_law_186 (by decide) ?_
        refine ln_addG hx hb dL_law_187 ?_
        refine sldz (L := L) (j := 5 * n + 2) B hX hbl hbA hz (by omega) (by omega) dL_law_188 ?_
        refine cR (C := RX2) (T := TX2) (N := 7) (ci := 2) (n := 2) (As := [.int (xs (5 * n + 1)), .int (xs (5 * n + 2))]) (rest := [.int ((pSetScan (xs (5 * n + 1)) (xs (5 * n + 2)) s0).1)]) (X := (xAft cI cN bx an s0 rk sv rv nx np (er 0) (er 1) rk (pSetScan (xs (5 * n + 1)) (xs (5 * n + 2)) s0))) (M := mW cI am s0 pst np er od rk2 hs) (M' := (mAft cI am s0 pst np er od rk2 hs od rk2 (pSetScan (xs (5 * n + 1)) (xs (5 * n + 2)) s0))) (v := .int ((pSetScan (xs (5 * n + 1)) (xs (5 * n + 2)) s0).1)) B hz hA cm gL_law_X2_setScan rfl rfl hd_X2_setScan (by decide) ⟨Nat.le_of_ble_eq_true rfl, Nat.le_of_ble_eq_true rfl⟩ rfl rfl rfl hl.1 rfl (Nat.le_of_ble_eq_true rfl) dL_law_189 (fun H locs hz => ?_)
        refine lv_icmp_eq (tgt := 912) hx hb dL_law_192 (by decide) (fun _ => ?_) (fun c9 => ?_)
        · exact NX _ H locs ls (LI.op hK hT hnp hnx hS (ok_setScan hK (xs (5 * n + 1)) (xs (5 * n + 2))).1 (ok_setScan hK (xs (5 * n + 1)) (xs (5 * n + 2))).2) hz hl
        · exact absurd rfl c9
      · refine lv_tableIn (tgt := 197) (off := 165) hx hb dL_law_32 (by decide) (by decide) rfl (by decide) ?_
        refine lv_aload_n hx hb dL_law_197 rfl (lv_at hl 1 rfl) ?_
        refine lv_aload_n hx hb dL_law_198 rfl (lv_at hl 0 rfl) ?_
        refine lv_iload_n hx hb dL_law_199 rfl (lv_at hl 3 rfl) ?_
        refine lv_iconst (v := nI 1) hx hb dL_law_200 (by decide) ?_
        refine ln_addG hx hb dL_law_201 ?_
        refine sldz (L := L) (j := 5 * n + 1) B hX hbl hbA hz (by omega) (by omega) dL_law_202 ?_
        refine lv_aload_n hx hb dL_law_203 rfl (lv_at hl 0 rfl) ?_
        refine lv_iload_n hx hb dL_law_204 rfl (lv_at hl 3 rfl) ?_
        refine lv_iconst (v := nI 2) hx hb dL_law_205 (by decide) ?_
        refine ln_addG hx hb dL_law_206 ?_
        refine sldz (L := L) (j := 5 * n + 2) B hX hbl hbA hz (by omega) (by omega) dL_law_207 ?_
        refine lv_aload_n hx hb dL_law_208 rfl (lv_at hl 0 rfl) ?_
        refine lv_iload_n hx hb dL_law_209 rfl (lv_at hl 3 rfl) ?_
        refine lv_iconst (v := nI 3) hx hb dL_law_210 (by decide) ?_
        refine ln_addG hx hb dL_law_211 ?_
        refine sldz (L := L) (j := 5 * n + 3) B hX hbl hbA hz (by omega) (by omega) dL_law_212 ?_
        refine lv_aload_n hx hb dL_law_213 rfl (lv_at hl 0 rfl) ?_
        refine lv_iload_n hx hb dL_law_214 rfl (lv_at hl 3 rfl) ?_
        refine lv_iconst (v := nI 4) hx hb dL_law_215 (by decide) ?_
        refine ln_addG hx hb dL_law_216 ?_
        refine sldz (L := L) (j := 5 * n + 4) B hX hbl hbA hz (by omega) (by omega) dL_law_217 ?_
        have cx := c_X1_setQuality l D cI cN bx an s0 rk sv rv nx np (er 0) (er 1) (xs (5 * n + 1)) (xs (5 * n + 2)) (xs (5 * n + 3)) (xs (5 * n + 4)) hnx hnp
        have cm := c_X2_setQuality l D cI cN am s0 pst np er od rk2 hs (xs (5 * n + 1)) (xs (5 * n + 2)) (xs (5 * n + 3)) (xs (5 * n + 4)) hnp
        refine cL (C := RX1) (T := TX1) (N := 6) (ci := 1) (n := 4) (As := [.int (xs (5 * n + 1)), .int (xs (5 * n + 2)), .int (xs (5 * n + 3)), .int (xs (5 * n + 4))]) (rest := []) (X := xW cI cN bx an s0 rk sv rv nx np (er 0) (er 1)) (M := mW cI am s0 pst np er od rk2 hs) (X' := (xAft cI cN bx an s0 rk sv rv nx np (er 0) (er 1) rk (pSetQ (xs (5 * n + 1)) (xs (5 * n + 2)) (xs (5 * n + 3)) (xs (5 * n + 4)) s0))) (v := .int ((pSetQ (xs (5 * n + 1)) (xs (5 * n + 2)) (xs (5 * n + 3)) (xs (5 * n + 4)) s0).1)) B hz hA cx gL_law_X1_setQuality rfl rfl hd_X1_setQuality (by decide) ⟨Nat.le_of_ble_eq_true rfl, Nat.le_of_ble_eq_true rfl⟩ rfl rfl rfl hl.1 rfl (Nat.le_of_ble_eq_true rfl) dL_law_218 (fun H locs hz => ?_)
        refine lv_aload_n hx hb dL_law_221 rfl (lv_at hl 2 rfl) ?_
        refine lv_aload_n hx hb dL_law_222 rfl (lv_at hl 0 rfl) ?_
        refine lv_iload_n hx hb dL_law_223 rfl (lv_at hl 3 rfl) ?_
        refine lv_iconst (v := nI 1) hx hb dL_law_224 (by decide) ?_
        refine ln_addG hx hb dL_law_225 ?_
        refine sldz (L := L) (j := 5 * n + 1) B hX hbl hbA hz (by omega) (by omega) dL_law_226 ?_
        refine lv_aload_n hx hb dL_law_227 rfl (lv_at hl 0 rfl) ?_
        refine lv_iload_n hx hb dL_law_228 rfl (lv_at hl 3 rfl) ?_
        refine lv_iconst (v := nI 2) hx hb dL_law_229 (by decide) ?_
        refine ln_addG hx hb dL_law_230 ?_
        refine sldz (L := L) (j := 5 * n + 2) B hX hbl hbA hz (by omega) (by omega) dL_law_231 ?_
        refine lv_aload_n hx hb dL_law_232 rfl (lv_at hl 0 rfl) ?_
        refine lv_iload_n hx hb dL_law_233 rfl (lv_at hl 3 rfl) ?_
        refine lv_iconst (v := nI 3) hx hb dL_law_234 (by decide) ?_
        refine ln_addG hx hb dL_law_235 ?_
        refine sldz (L := L) (j := 5 * n + 3) B hX hbl hbA hz (by omega) (by omega) dL_law_236 ?_
        refine lv_aload_n hx hb dL_law_237 rfl (lv_at hl 0 rfl) ?_
        refine lv_iload_n hx hb dL_law_238 rfl (lv_at hl 3 rfl) ?_
        refine lv_iconst (v := nI 4) hx hb dL_law_239 (by decide) ?_
        refine ln_addG hx hb dL_law_240 ?_
        refine sldz (L := L) (j := 5 * n + 4) B hX hbl hbA hz (by omega) (by omega) dL_law_241 ?_
        refine cR (C := RX2) (T := TX2) (N := 7) (ci := 2) (n := 4) (As := [.int (xs (5 * n + 1)), .int (xs (5 * n + 2)), .int (xs (5 * n + 3)), .int (xs (5 * n + 4))]) (rest := [.int ((pSetQ (xs (5 * n + 1)) (xs (5 * n + 2)) (xs (5 * n + 3)) (xs (5 * n + 4)) s0).1)]) (X := (xAft cI cN bx an s0 rk sv rv nx np (er 0) (er 1) rk (pSetQ (xs (5 * n + 1)) (xs (5 * n + 2)) (xs (5 * n + 3)) (xs (5 * n + 4)) s0))) (M := mW cI am s0 pst np er od rk2 hs) (M' := (mAft cI am s0 pst np er od rk2 hs od rk2 (pSetQ (xs (5 * n + 1)) (xs (5 * n + 2)) (xs (5 * n + 3)) (xs (5 * n + 4)) s0))) (v := .int ((pSetQ (xs (5 * n + 1)) (xs (5 * n + 2)) (xs (5 * n + 3)) (xs (5 * n + 4)) s0).1)) B hz hA cm gL_law_X2_setQuality rfl rfl hd_X2_setQuality (by decide) ⟨Nat.le_of_ble_eq_true rfl, Nat.le_of_ble_eq_true rfl⟩ rfl rfl rfl hl.1 rfl (Nat.le_of_ble_eq_true rfl) dL_law_242 (fun H locs hz => ?_)
        refine lv_icmp_eq (tgt := 912) hx hb dL_law_245 (by decide) (fun _ => ?_) (fun c9 => ?_)
        · exact NX _ H locs ls (LI.op hK hT hnp hnx hS (ok_setQ hK (xs (5 * n + 1)) (xs (5 * n + 2)) (xs (5 * n + 3)) (xs (5 * n + 4))).1 (ok_setQ hK (xs (5 * n + 1)) (xs (5 * n + 2)) (xs (5 * n + 3)) (xs (5 * n + 4))).2) hz hl
        · exact absurd rfl c9
      · refine lv_tableIn (tgt := 250) (off := 218) hx hb dL_law_32 (by decide) (by decide) rfl (by decide) ?_
        refine lv_aload_n hx hb dL_law_250 rfl (lv_at hl 1 rfl) ?_
        refine lv_aload_n hx hb dL_law_251 rfl (lv_at hl 0 rfl) ?_
        refine lv_iload_n hx hb dL_law_252 rfl (lv_at hl 3 rfl) ?_
        refine lv_iconst (v := nI 1) hx hb dL_law_253 (by decide) ?_
        refine ln_addG hx hb dL_law_254 ?_
        refine sldz (L := L) (j := 5 * n + 1) B hX hbl hbA hz (by omega) (by omega) dL_law_255 ?_
        have cx := c_X1_setAgeing l D cI cN bx an s0 rk sv rv nx np (er 0) (er 1) (xs (5 * n + 1)) hnx hnp
        have cm := c_X2_setAgeing l D cI cN am s0 pst np er od rk2 hs (xs (5 * n + 1)) hnp
        refine cL (C := RX1) (T := TX1) (N := 6) (ci := 1) (n := 1) (As := [.int (xs (5 * n + 1))]) (rest := []) (X := xW cI cN bx an s0 rk sv rv nx np (er 0) (er 1)) (M := mW cI am s0 pst np er od rk2 hs) (X' := (xAft cI cN bx an s0 rk sv rv nx np (er 0) (er 1) rk (pAge (xs (5 * n + 1)) s0))) (v := .int ((pAge (xs (5 * n + 1)) s0).1)) B hz hA cx gL_law_X1_setAgeing rfl rfl hd_X1_setAgeing (by decide) ⟨Nat.le_of_ble_eq_true rfl, Nat.le_of_ble_eq_true rfl⟩ rfl rfl rfl hl.1 rfl (Nat.le_of_ble_eq_true rfl) dL_law_256 (fun H locs hz => ?_)
        refine lv_aload_n hx hb dL_law_259 rfl (lv_at hl 2 rfl) ?_
        refine lv_aload_n hx hb dL_law_260 rfl (lv_at hl 0 rfl) ?_
        refine lv_iload_n hx hb dL_law_261 rfl (lv_at hl 3 rfl) ?_
        refine lv_iconst (v := nI 1) hx hb dL_law_262 (by decide) ?_
        refine ln_addG hx hb dL_law_263 ?_
        refine sldz (L := L) (j := 5 * n + 1) B hX hbl hbA hz (by omega) (by omega) dL_law_264 ?_
        refine cR (C := RX2) (T := TX2) (N := 7) (ci := 2) (n := 1) (As := [.int (xs (5 * n + 1))]) (rest := [.int ((pAge (xs (5 * n + 1)) s0).1)]) (X := (xAft cI cN bx an s0 rk sv rv nx np (er 0) (er 1) rk (pAge (xs (5 * n + 1)) s0))) (M := mW cI am s0 pst np er od rk2 hs) (M' := (mAft cI am s0 pst np er od rk2 hs od rk2 (pAge (xs (5 * n + 1)) s0))) (v := .int ((pAge (xs (5 * n + 1)) s0).1)) B hz hA cm gL_law_X2_setAgeing rfl rfl hd_X2_setAgeing (by decide) ⟨Nat.le_of_ble_eq_true rfl, Nat.le_of_ble_eq_true rfl⟩ rfl rfl rfl hl.1 rfl (Nat.le_of_ble_eq_true rfl) dL_law_265 (fun H locs hz => ?_)
        refine lv_icmp_eq (tgt := 912) hx hb dL_law_268 (by decide) (fun _ => ?_) (fun c9 => ?_)
        · exact NX _ H locs ls (LI.op hK hT hnp hnx hS (ok_age hK (xs (5 * n + 1))).1 (ok_age hK (xs (5 * n + 1))).2) hz hl
        · exact absurd rfl c9
      · refine lv_tableIn (tgt := 273) (off := 241) hx hb dL_law_32 (by decide) (by decide) rfl (by decide) ?_
        refine lv_aload_n hx hb dL_law_273 rfl (lv_at hl 1 rfl) ?_
        refine lv_aload_n hx hb dL_law_274 rfl (lv_at hl 0 rfl) ?_
        refine lv_iload_n hx hb dL_law_275 rfl (lv_at hl 3 rfl) ?_
        refine lv_iconst (v := nI 1) hx hb dL_law_276 (by decide) ?_
        refine ln_addG hx hb dL_law_277 ?_
        refine sldz (L := L) (j := 5 * n + 1) B hX hbl hbA hz (by omega) (by omega) dL_law_278 ?_
        have cx := c_X1_setNoise l D cI cN bx an s0 rk sv rv nx np (er 0) (er 1) (xs (5 * n + 1)) hnx hnp
        have cm := c_X2_setNoise l D cI cN am s0 pst np er od rk2 hs (xs (5 * n + 1)) hnp
        refine cL (C := RX1) (T := TX1) (N := 6) (ci := 1) (n := 1) (As := [.int (xs (5 * n + 1))]) (rest := []) (X := xW cI cN bx an s0 rk sv rv nx np (er 0) (er 1)) (M := mW cI am s0 pst np er od rk2 hs) (X' := (xAft cI cN bx an s0 rk sv rv nx np (er 0) (er 1) rk (pNoise (xs (5 * n + 1)) s0))) (v := .int ((pNoise (xs (5 * n + 1)) s0).1)) B hz hA cx gL_law_X1_setNoise rfl rfl hd_X1_setNoise (by decide) ⟨Nat.le_of_ble_eq_true rfl, Nat.le_of_ble_eq_true rfl⟩ rfl rfl rfl hl.1 rfl (Nat.le_of_ble_eq_true rfl) dL_law_279 (fun H locs hz => ?_)
        refine lv_aload_n hx hb dL_law_282 rfl (lv_at hl 2 rfl) ?_
        refine lv_aload_n hx hb dL_law_283 rfl (lv_at hl 0 rfl) ?_
        refine lv_iload_n hx hb dL_law_284 rfl (lv_at hl 3 rfl) ?_
        refine lv_iconst (v := nI 1) hx hb dL_law_285 (by decide) ?_
        refine ln_addG hx hb dL_law_286 ?_
        refine sldz (L := L) (j := 5 * n + 1) B hX hbl hbA hz (by omega) (by omega) dL_law_287 ?_
        refine cR (C := RX2) (T := TX2) (N := 7) (ci := 2) (n := 1) (As := [.int (xs (5 * n + 1))]) (rest := [.int ((pNoise (xs (5 * n + 1)) s0).1)]) (X := (xAft cI cN bx an s0 rk sv rv nx np (er 0) (er 1) rk (pNoise (xs (5 * n + 1)) s0))) (M := mW cI am s0 pst np er od rk2 hs) (M' := (mAft cI am s0 pst np er od rk2 hs od rk2 (pNoise (xs (5 * n + 1)) s0))) (v := .int ((pNoise (xs (5 * n + 1)) s0).1)) B hz hA cm gL_law_X2_setNoise rfl rfl hd_X2_setNoise (by decide) ⟨Nat.le_of_ble_eq_true rfl, Nat.le_of_ble_eq_true rfl⟩ rfl rfl rfl hl.1 rfl (Nat.le_of_ble_eq_true rfl) dL_law_288 (fun H locs hz => ?_)
        refine lv_icmp_eq (tgt := 912) hx hb dL_law_291 (by decide) (fun _ => ?_) (fun c9 => ?_)
        · exact NX _ H locs ls (LI.op hK hT hnp hnx hS (ok_noise hK (xs (5 * n + 1))).1 (ok_noise hK (xs (5 * n + 1))).2) hz hl
        · exact absurd rfl c9
      · refine lv_tableIn (tgt := 296) (off := 264) hx hb dL_law_32 (by decide) (by decide) rfl (by decide) ?_
        refine lv_aload_n hx hb dL_law_296 rfl (lv_at hl 1 rfl) ?_
        refine lv_aload_n hx hb dL_law_297 rfl (lv_at hl 0 rfl) ?_
        refine lv_iload_n hx hb dL_law_298 rfl (lv_at hl 3 rfl) ?_
        refine lv_iconst (v := nI 1) hx hb dL_law_299 (by decide) ?_
        refine ln_addG hx hb dL_law_300 ?_
        refine sldz (L := L) (j := 5 * n + 1) B hX hbl hbA hz (by omega) (by omega) dL_law_301 ?_
        have cx := c_X1_pass l D cI cN bx an s0 rk sv rv nx np (er 0) (er 1) (xs (5 * n + 1)) hnx hnp
        have cm := c_X2_pass l D cI cN am s0 pst np er od rk2 hs (xs (5 * n + 1)) hnp
        refine cL (C := RX1) (T := TX1) (N := 6) (ci := 1) (n := 1) (As := [.int (xs (5 * n + 1))]) (rest := []) (X := xW cI cN bx an s0 rk sv rv nx np (er 0) (er 1)) (M := mW cI am s0 pst np er od rk2 hs) (X' := (xAft cI cN bx an s0 rk sv rv nx np (er 0) (er 1) rk (pPass (xs (5 * n + 1)) s0))) (v := .int ((pPass (xs (5 * n + 1)) s0).1)) B hz hA cx gL_law_X1_pass rfl rfl hd_X1_pass (by decide) ⟨Nat.le_of_ble_eq_true rfl, Nat.le_of_ble_eq_true rfl⟩ rfl rfl rfl hl.1 rfl (Nat.le_of_ble_eq_true rfl) dL_law_302 (fun H locs hz => ?_)
        refine lv_aload_n hx hb dL_law_305 rfl (lv_at hl 2 rfl) ?_
        refine lv_aload_n hx hb dL_law_306 rfl (lv_at hl 0 rfl) ?_
        refine lv_iload_n hx hb dL_law_307 rfl (lv_at hl 3 rfl) ?_
        refine lv_iconst (v := nI 1) hx hb dL_law_308 (by decide) ?_
        refine ln_addG hx hb dL_law_309 ?_
        refine sldz (L := L) (j := 5 * n + 1) B hX hbl hbA hz (by omega) (by omega) dL_law_310 ?_
        refine cR (C := RX2) (T := TX2) (N := 7) (ci := 2) (n := 1) (As := [.int (xs (5 * n + 1))]) (rest := [.int ((pPass (xs (5 * n + 1)) s0).1)]) (X := (xAft cI cN bx an s0 rk sv rv nx np (er 0) (er 1) rk (pPass (xs (5 * n + 1)) s0))) (M := mW cI am s0 pst np er od rk2 hs) (M' := (mAft cI am s0 pst np er od rk2 hs od rk2 (pPass (xs (5 * n + 1)) s0))) (v := .int ((pPass (xs (5 * n + 1)) s0).1)) B hz hA cm gL_law_X2_pass rfl rfl hd_X2_pass (by decide) ⟨Nat.le_of_ble_eq_true rfl, Nat.le_of_ble_eq_true rfl⟩ rfl rfl rfl hl.1 rfl (Nat.le_of_ble_eq_true rfl) dL_law_311 (fun H locs hz => ?_)
        refine lv_icmp_eq (tgt := 912) hx hb dL_law_314 (by decide) (fun _ => ?_) (fun c9 => ?_)
        · exact NX _ H locs ls (LI.op hK hT hnp hnx hS (ok_pass hK (xs (5 * n + 1))).1 (ok_pass hK (xs (5 * n + 1))).2) hz hl
        · exact absurd rfl c9
      · refine lv_tableIn (tgt := 319) (off := 287) hx hb dL_law_32 (by decide) (by decide) rfl (by decide) ?_
        refine lv_aload_n hx hb dL_law_319 rfl (lv_at hl 1 rfl) ?_
        refine lv_aload_n hx hb dL_law_320 rfl (lv_at hl 0 rfl) ?_
        refine lv_iload_n hx hb dL_law_321 rfl (lv_at hl 3 rfl) ?_
        refine lv_iconst (v := nI 1) hx hb dL_law_322 (by decide) ?_
        refine ln_addG hx hb dL_law_323 ?_
        refine sldz (L := L) (j := 5 * n + 1) B hX hbl hbA hz (by omega) (by omega) dL_law_324 ?_
        refine lv_aload_n hx hb dL_law_325 rfl (lv_at hl 0 rfl) ?_
        refine lv_iload_n hx hb dL_law_326 rfl (lv_at hl 3 rfl) ?_
        refine lv_iconst (v := nI 2) hx hb dL_law_327 (by decide) ?_
        refine ln_addG hx hb dL_law_328 ?_
        refine sldz (L := L) (j := 5 * n + 2) B hX hbl hbA hz (by omega) (by omega) dL_law_329 ?_
        have cx := c_X1_sound l D cI cN bx an s0 rk sv rv nx np (er 0) (er 1) (xs (5 * n + 1)) (xs (5 * n + 2)) hnx hnp hK.2.1
        have cm := c_X2_sound l D cI cN am s0 pst np er od rk2 hs (xs (5 * n + 1)) (xs (5 * n + 2)) hnp hK.2.1 hK.2.2.1 hKT
        refine cL (C := RX1) (T := TX1) (N := 6) (ci := 1) (n := 2) (As := [.int (xs (5 * n + 1)), .int (xs (5 * n + 2))]) (rest := []) (X := xW cI cN bx an s0 rk sv rv nx np (er 0) (er 1)) (M := mW cI am s0 pst np er od rk2 hs) (X' := (xAft cI cN bx an s0 rk sv rv nx np (er 0) (er 1) rk (pSound (xs (5 * n + 1)) (xs (5 * n + 2)) s0))) (v := .int ((pSound (xs (5 * n + 1)) (xs (5 * n + 2)) s0).1)) B hz hA cx gL_law_X1_sound rfl rfl hd_X1_sound (by decide) ⟨Nat.le_of_ble_eq_true rfl, Nat.le_of_ble_eq_true rfl⟩ rfl rfl rfl hl.1 rfl (Nat.le_of_ble_eq_true rfl) dL_law_330 (fun H locs hz => ?_)
        refine lv_aload_n hx hb dL_law_333 rfl (lv_at hl 2 rfl) ?_
        refine lv_aload_n hx hb dL_law_334 rfl (lv_at hl 0 rfl) ?_
        refine lv_iload_n hx hb dL_law_335 rfl (lv_at hl 3 rfl) ?_
        refine lv_iconst (v := nI 1) hx hb dL_law_336 (by decide) ?_
        refine ln_addG hx hb dL_law_337 ?_
        refine sldz (L := L) (j := 5 * n + 1) B hX hbl hbA hz (by omega) (by omega) dL_law_338 ?_
        refine lv_aload_n hx hb dL_law_339 rfl (lv_at hl 0 rfl) ?_
        refine lv_iload_n hx hb dL_law_340 rfl (lv_at hl 3 rfl) ?_
        refine lv_iconst (v := nI 2) hx hb dL_law_341 (by decide) ?_
        refine ln_addG hx hb dL_law_342 ?_
        refine sldz (L := L) (j := 5 * n + 2) B hX hbl hbA hz (by omega) (by omega) dL_law_343 ?_
        refine cR (C := RX2) (T := TX2) (N := 7) (ci := 2) (n := 2) (As := [.int (xs (5 * n + 1)), .int (xs (5 * n + 2))]) (rest := [.int ((pSound (xs (5 * n + 1)) (xs (5 * n + 2)) s0).1)]) (X := (xAft cI cN bx an s0 rk sv rv nx np (er 0) (er 1) rk (pSound (xs (5 * n + 1)) (xs (5 * n + 2)) s0))) (M := mW cI am s0 pst np er od rk2 hs) (M' := (mAft cI am s0 pst np er od rk2 hs od rk2 (pSound (xs (5 * n + 1)) (xs (5 * n + 2)) s0))) (v := .int ((pSound (xs (5 * n + 1)) (xs (5 * n + 2)) s0).1)) B hz hA cm gL_law_X2_sound rfl rfl hd_X2_sound (by decide) ⟨Nat.le_of_ble_eq_true rfl, Nat.le_of_ble_eq_true rfl⟩ rfl rfl rfl hl.1 rfl (Nat.le_of_ble_eq_true rfl) dL_law_344 (fun H locs hz => ?_)
        refine lv_icmp_eq (tgt := 912) hx hb dL_law_347 (by decide) (fun _ => ?_) (fun c9 => ?_)
        · exact NX _ H locs ls (LI.op hK hT hnp hnx hS (ok_sound hK (xs (5 * n + 1)) (xs (5 * n + 2))).1 (ok_sound hK (xs (5 * n + 1)) (xs (5 * n + 2))).2) hz hl
        · exact absurd rfl c9
      · refine lv_tableIn (tgt := 352) (off := 320) hx hb dL_law_32 (by decide) (by decide) rfl (by decide) ?_
        refine lv_aload_n hx hb dL_law_352 rfl (lv_at hl 1 rfl) ?_
        refine lv_aload_n hx hb dL_law_353 rfl (lv_at hl 0 rfl) ?_
        refine lv_iload_n hx hb dL_law_354 rfl (lv_at hl 3 rfl) ?_
        refine lv_iconst (v := nI 1) hx hb dL_law_355 (by decide) ?_
        refine ln_addG hx hb dL_law_356 ?_
        refine sldz (L := L) (j := 5 * n + 1) B hX hbl hbA hz (by omega) (by omega) dL_law_357 ?_
        refine lv_aload_n hx hb dL_law_358 rfl (lv_at hl 0 rfl) ?_
        refine lv_iload_n hx hb dL_law_359 rfl (lv_at hl 3 rfl) ?_
        refine lv_iconst (v := nI 2) hx hb dL_law_360 (by decide) ?_
        refine ln_addG hx hb dL_law_361 ?_
        refine sldz (L := L) (j := 5 * n + 2) B hX hbl hbA hz (by omega) (by omega) dL_law_362 ?_
        have cx := c_X1_call l D cI cN bx an s0 rk sv rv nx np (er 0) (er 1) (xs (5 * n + 1)) (xs (5 * n + 2)) hnx hnp hK.2.1 hK.A
        have cm := c_X2_call l D cI cN am s0 pst np er od rk2 hs (xs (5 * n + 1)) (xs (5 * n + 2)) hnp hK.2.1 hK.A hK.2.2.1
        rw [pCall_eq hK hT30 (rk := rk)] at cm
        refine cL (C := RX1) (T := TX1) (N := 6) (ci := 1) (n := 2) (As := [.int (xs (5 * n + 1)), .int (xs (5 * n + 2))]) (rest := []) (X := xW cI cN bx an s0 rk sv rv nx np (er 0) (er 1)) (M := mW cI am s0 pst np er od rk2 hs) (X' := (xAft cI cN bx an s0 rk sv rv nx np (er 0) (er 1) (fRb (tn (xs (5 * n + 1))) (tn (xs (5 * n + 2))) s0 rk) (pCall (xCl s0 rk) (xs (5 * n + 1)) (xs (5 * n + 2)) s0))) (v := .int ((pCall (xCl s0 rk) (xs (5 * n + 1)) (xs (5 * n + 2)) s0).1)) B hz hA cx gL_law_X1_call rfl rfl hd_X1_call (by decide) ⟨Nat.le_of_ble_eq_true rfl, Nat.le_of_ble_eq_true rfl⟩ rfl rfl rfl hl.1 rfl (Nat.le_of_ble_eq_true rfl) dL_law_363 (fun H locs hz => ?_)
        refine lv_aload_n hx hb dL_law_366 rfl (lv_at hl 2 rfl) ?_
        refine lv_aload_n hx hb dL_law_367 rfl (lv_at hl 0 rfl) ?_
        refine lv_iload_n hx hb dL_law_368 rfl (lv_at hl 3 rfl) ?_
        refine lv_iconst (v := nI 1) hx hb dL_law_369 (by decide) ?_
        refine ln_addG hx hb dL_law_370 ?_
        refine sldz (L := L) (j := 5 * n + 1) B hX hbl hbA hz (by omega) (by omega) dL_law_371 ?_
        refine lv_aload_n hx hb dL_law_372 rfl (lv_at hl 0 rfl) ?_
        refine lv_iload_n hx hb dL_law_373 rfl (lv_at hl 3 rfl) ?_
        refine lv_iconst (v := nI 2) hx hb dL_law_374 (by decide) ?_
        refine ln_addG hx hb dL_law_375 ?_
        refine sldz (L := L) (j := 5 * n + 2) B hX hbl hbA hz (by omega) (by omega) dL_law_376 ?_
        refine cR (C := RX2) (T := TX2) (N := 7) (ci := 2) (n := 2) (As := [.int (xs (5 * n + 1)), .int (xs (5 * n + 2))]) (rest := [.int ((pCall (xCl s0 rk) (xs (5 * n + 1)) (xs (5 * n + 2)) s0).1)]) (X := (xAft cI cN bx an s0 rk sv rv nx np (er 0) (er 1) (fRb (tn (xs (5 * n + 1))) (tn (xs (5 * n + 2))) s0 rk) (pCall (xCl s0 rk) (xs (5 * n + 1)) (xs (5 * n + 2)) s0))) (M := mW cI am s0 pst np er od rk2 hs) (M' := (mAft cI am s0 pst np er od rk2 hs ((fSc (tn (xs (5 * n + 1))) (tn (xs (5 * n + 2))) s0 od rk2 8).2.1) ((fSc (tn (xs (5 * n + 1))) (tn (xs (5 * n + 2))) s0 od rk2 8).2.2) (pCall (xCl s0 rk) (xs (5 * n + 1)) (xs (5 * n + 2)) s0))) (v := .int ((pCall (xCl s0 rk) (xs (5 * n + 1)) (xs (5 * n + 2)) s0).1)) B hz hA cm gL_law_X2_call rfl rfl hd_X2_call (by decide) ⟨Nat.le_of_ble_eq_true rfl, Nat.le_of_ble_eq_true rfl⟩ rfl rfl rfl hl.1 rfl (Nat.le_of_ble_eq_true rfl) dL_law_377 (fun H locs hz => ?_)
        refine lv_icmp_eq (tgt := 912) hx hb dL_law_380 (by decide) (fun _ => ?_) (fun c9 => ?_)
        · exact NX _ H locs ls (LI.op hK hT hnp hnx hS (ok_call (rk := rk) hK (xs (5 * n + 1)) (xs (5 * n + 2))).1 (ok_call (rk := rk) hK (xs (5 * n + 1)) (xs (5 * n + 2))).2) hz hl
        · exact absurd rfl c9
      · refine lv_tableIn (tgt := 385) (off := 353) hx hb dL_law_32 (by decide) (by decide) rfl (by decide) ?_
        refine lv_aload_n hx hb dL_law_385 rfl (lv_at hl 1 rfl) ?_
        refine lv_aload_n hx hb dL_law_386 rfl (lv_at hl 0 rfl) ?_
        refine lv_iload_n hx hb dL_law_387 rfl (lv_at hl 3 rfl) ?_
        refine lv_iconst (v := nI 1) hx hb dL_law_388 (by decide) ?_
        refine ln_addG hx hb dL_law_389 ?_
        refine sldz (L := L) (j := 5 * n + 1) B hX hbl hbA hz (by omega) (by omega) dL_law_390 ?_
        refine lv_aload_n hx hb dL_law_391 rfl (lv_at hl 0 rfl) ?_
        refine lv_iload_n hx hb dL_law_392 rfl (lv_at hl 3 rfl) ?_
        refine lv_iconst (v := nI 2) hx hb dL_law_393 (by decide) ?_
        refine ln_addG hx hb dL_law_394 ?_
        refine sldz (L := L) (j := 5 * n + 2) B hX hbl hbA hz (by omega) (by omega) dL_law_395 ?_
        have cx := c_X1_netCall l D cI cN bx an s0 rk sv rv nx np (er 0) (er 1) (xs (5 * n + 1)) (xs (5 * n + 2)) hnx hnp hK.2.1 hK.A
        have cm := c_X2_netCall l D cI cN am s0 pst np er od rk2 hs (xs (5 * n + 1)) (xs (5 * n + 2)) hnp hK.2.1 hK.A hK.2.2.1
        rw [pNet_eq hK hT30 (rk := rk)] at cm
        refine cL (C := RX1) (T := TX1) (N := 6) (ci := 1) (n := 2) (As := [.int (xs (5 * n + 1)), .int (xs (5 * n + 2))]) (rest := []) (X := xW cI cN bx an s0 rk sv rv nx np (er 0) (er 1)) (M := mW cI am s0 pst np er od rk2 hs) (X' := (xAft cI cN bx an s0 rk sv rv nx np (er 0) (er 1) (fRk (xs (5 * n + 2)) (tn (xs (5 * n + 1))) s0 rk 8) (pNet (fun f => frn (fRk (xs (5 * n + 2)) f s0 rk 8) (scn s0 f)) (xs (5 * n + 1)) (xs (5 * n + 2)) s0))) (v := .int ((pNet (fun f => frn (fRk (xs (5 * n + 2)) f s0 rk 8) (scn s0 f)) (xs (5 * n + 1)) (xs (5 * n + 2)) s0).1)) B hz hA cx gL_law_X1_netCall rfl rfl hd_X1_netCall (by decide) ⟨Nat.le_of_ble_eq_true rfl, Nat.le_of_ble_eq_true rfl⟩ rfl rfl rfl hl.1 rfl (Nat.le_of_ble_eq_true rfl) dL_law_396 (fun H locs hz => ?_)
        refine lv_aload_n hx hb dL_law_399 rfl (lv_at hl 2 rfl) ?_
        refine lv_aload_n hx hb dL_law_400 rfl (lv_at hl 0 rfl) ?_
        refine lv_iload_n hx hb dL_law_401 rfl (lv_at hl 3 rfl) ?_
        refine lv_iconst (v := nI 1) hx hb dL_law_402 (by decide) ?_
        refine ln_addG hx hb dL_law_403 ?_
        refine sldz (L := L) (j := 5 * n + 1) B hX hbl hbA hz (by omega) (by omega) dL_law_404 ?_
        refine lv_aload_n hx hb dL_law_405 rfl (lv_at hl 0 rfl) ?_
        refine lv_iload_n hx hb dL_law_406 rfl (lv_at hl 3 rfl) ?_
        refine lv_iconst (v := nI 2) hx hb dL_law_407 (by decide) ?_
        refine ln_addG hx hb dL_law_408 ?_
        refine sldz (L := L) (j := 5 * n + 2) B hX hbl hbA hz (by omega) (by omega) dL_law_409 ?_
        refine cR (C := RX2) (T := TX2) (N := 7) (ci := 2) (n := 2) (As := [.int (xs (5 * n + 1)), .int (xs (5 * n + 2))]) (rest := [.int ((pNet (fun f => frn (fRk (xs (5 * n + 2)) f s0 rk 8) (scn s0 f)) (xs (5 * n + 1)) (xs (5 * n + 2)) s0).1)]) (X := (xAft cI cN bx an s0 rk sv rv nx np (er 0) (er 1) (fRk (xs (5 * n + 2)) (tn (xs (5 * n + 1))) s0 rk 8) (pNet (fun f => frn (fRk (xs (5 * n + 2)) f s0 rk 8) (scn s0 f)) (xs (5 * n + 1)) (xs (5 * n + 2)) s0))) (M := mW cI am s0 pst np er od rk2 hs) (M' := (mAft cI am s0 pst np er od rk2 hs od rk2 (pNet (fun f => frn (fRk (xs (5 * n + 2)) f s0 rk 8) (scn s0 f)) (xs (5 * n + 1)) (xs (5 * n + 2)) s0))) (v := .int ((pNet (fun f => frn (fRk (xs (5 * n + 2)) f s0 rk 8) (scn s0 f)) (xs (5 * n + 1)) (xs (5 * n + 2)) s0).1)) B hz hA cm gL_law_X2_netCall rfl rfl hd_X2_netCall (by decide) ⟨Nat.le_of_ble_eq_true rfl, Nat.le_of_ble_eq_true rfl⟩ rfl rfl rfl hl.1 rfl (Nat.le_of_ble_eq_true rfl) dL_law_410 (fun H locs hz => ?_)
        refine lv_icmp_eq (tgt := 912) hx hb dL_law_413 (by decide) (fun _ => ?_) (fun c9 => ?_)
        · exact NX _ H locs ls (LI.op hK hT hnp hnx hS (ok_net (rk := rk) hK (xs (5 * n + 1)) (xs (5 * n + 2))).1 (ok_net (rk := rk) hK (xs (5 * n + 1)) (xs (5 * n + 2))).2) hz hl
        · exact absurd rfl c9
      · refine lv_tableIn (tgt := 418) (off := 386) hx hb dL_law_32 (by decide) (by decide) rfl (by decide) ?_
        refine lv_aload_n hx hb dL_law_418 rfl (lv_at hl 1 rfl) ?_
        refine lv_aload_n hx hb dL_law_419 rfl (lv_at hl 0 rfl) ?_
        refine lv_iload_n hx hb dL_law_420 rfl (lv_at hl 3 rfl) ?_
        refine lv_iconst (v := nI 1) hx hb dL_law_421 (by decide) ?_
        refine ln_addG hx hb dL_law_422 ?_
        refine sldz (L := L) (j := 5 * n + 1) B hX hbl hbA hz (by omega) (by omega) dL_law_423 ?_
        have cx := c_X1_hangUp l D cI cN bx an s0 rk sv rv nx np (er 0) (er 1) (xs (5 * n + 1)) hnx hnp hK.2.2.2.2.1
        have cm := c_X2_hangUp l D cI cN am s0 pst np er od rk2 hs (xs (5 * n + 1)) hnp hK.2.2.2.2.1
        refine cL (C := RX1) (T := TX1) (N := 6) (ci := 1) (n := 1) (As := [.int (xs (5 * n + 1))]) (rest := []) (X := xW cI cN bx an s0 rk sv rv nx np (er 0) (er 1)) (M := mW cI am s0 pst np er od rk2 hs) (X' := (xAft cI cN bx an s0 rk sv rv nx np (er 0) (er 1) rk (pHang (xs (5 * n + 1)) s0))) (v := .int ((pHang (xs (5 * n + 1)) s0).1)) B hz hA cx gL_law_X1_hangUp rfl rfl hd_X1_hangUp (by decide) ⟨Nat.le_of_ble_eq_true rfl, Nat.le_of_ble_eq_true rfl⟩ rfl rfl rfl hl.1 rfl (Nat.le_of_ble_eq_true rfl) dL_law_424 (fun H locs hz => ?_)
        refine lv_aload_n hx hb dL_law_427 rfl (lv_at hl 2 rfl) ?_
        refine lv_aload_n hx hb dL_law_428 rfl (lv_at hl 0 rfl) ?_
        refine lv_iload_n hx hb dL_law_429 rfl (lv_at hl 3 rfl) ?_
        refine lv_iconst (v := nI 1) hx hb dL_law_430 (by decide) ?_
        refine ln_addG hx hb dL_law_431 ?_
        refine sldz (L := L) (j := 5 * n + 1) B hX hbl hbA hz (by omega) (by omega) dL_law_432 ?_
        refine cR (C := RX2) (T := TX2) (N := 7) (ci := 2) (n := 1) (As := [.int (xs (5 * n + 1))]) (rest := [.int ((pHang (xs (5 * n + 1)) s0).1)]) (X := (xAft cI cN bx an s0 rk sv rv nx np (er 0) (er 1) rk (pHang (xs (5 * n + 1)) s0))) (M := mW cI am s0 pst np er od rk2 hs) (M' := (mAft cI am s0 pst np er od rk2 hs od rk2 (pHang (xs (5 * n + 1)) s0))) (v := .int ((pHang (xs (5 * n + 1)) s0).1)) B hz hA cm gL_law_X2_hangUp rfl rfl hd_X2_hangUp (by decide) ⟨Nat.le_of_ble_eq_true rfl, Nat.le_of_ble_eq_true rfl⟩ rfl rfl rfl hl.1 rfl (Nat.le_of_ble_eq_true rfl) dL_law_433 (fun H locs hz => ?_)
        refine lv_icmp_eq (tgt := 912) hx hb dL_law_436 (by decide) (fun _ => ?_) (fun c9 => ?_)
        · exact NX _ H locs ls (LI.op hK hT hnp hnx hS (ok_hang hK (xs (5 * n + 1))).1 (ok_hang hK (xs (5 * n + 1))).2) hz hl
        · exact absurd rfl c9
      · refine lv_tableIn (tgt := 441) (off := 409) hx hb dL_law_32 (by decide) (by decide) rfl (by decide) ?_
        refine lv_aload_n hx hb dL_law_441 rfl (lv_at hl 1 rfl) ?_
        have cx := c_X1_attempts l D cI cN bx an s0 rk sv rv nx np (er 0) (er 1)  
        have cm := c_X2_attempts l D cI cN am s0 pst np er od rk2 hs  
        refine cL (C := RX1) (T := TX1) (N := 6) (ci := 1) (n := 0) (As := []) (rest := []) (X := xW cI cN bx an s0 rk sv rv nx np (er 0) (er 1)) (M := mW cI am s0 pst np er od rk2 hs) (X' := (xW cI cN bx an s0 rk sv rv nx np (er 0) (er 1))) (v := .int (s0 5)) B hz hA cx gL_law_X1_attempts rfl rfl hd_X1_attempts (by decide) ⟨Nat.le_of_ble_eq_true rfl, Nat.le_of_ble_eq_true rfl⟩ rfl rfl rfl hl.1 rfl (Nat.le_of_ble_eq_true rfl) dL_law_442 (fun H locs hz => ?_)
        refine lv_aload_n hx hb dL_law_445 rfl (lv_at hl 2 rfl) ?_
        refine cR (C := RX2) (T := TX2) (N := 7) (ci := 2) (n := 0) (As := []) (rest := [.int (s0 5)]) (X := (xW cI cN bx an s0 rk sv rv nx np (er 0) (er 1))) (M := mW cI am s0 pst np er od rk2 hs) (M' := (mW cI am s0 pst np er od rk2 hs)) (v := .int (s0 5)) B hz hA cm gL_law_X2_attempts rfl rfl hd_X2_attempts (by decide) ⟨Nat.le_of_ble_eq_true rfl, Nat.le_of_ble_eq_true rfl⟩ rfl rfl rfl hl.1 rfl (Nat.le_of_ble_eq_true rfl) dL_law_446 (fun H locs hz => ?_)
        refine lv_icmp_eq (tgt := 912) hx hb dL_law_449 (by decide) (fun _ => ?_) (fun c9 => ?_)
        · exact NX _ H locs ls (LI.q0 (hs := hs) hK hT hnp hnx hS) hz hl
        · exact absurd rfl c9
      · refine lv_tableIn (tgt := 454) (off := 422) hx hb dL_law_32 (by decide) (by decide) rfl (by decide) ?_
        refine lv_aload_n hx hb dL_law_454 rfl (lv_at hl 1 rfl) ?_
        have cx := c_X1_lastChannel l D cI cN bx an s0 rk sv rv nx np (er 0) (er 1)  
        have cm := c_X2_lastChannel l D cI cN am s0 pst np er od rk2 hs  
        refine cL (C := RX1) (T := TX1) (N := 6) (ci := 1) (n := 0) (As := []) (rest := []) (X := xW cI cN bx an s0 rk sv rv nx np (er 0) (er 1)) (M := mW cI am s0 pst np er od rk2 hs) (X' := (xW cI cN bx an s0 rk sv rv nx np (er 0) (er 1))) (v := .int (s0 6)) B hz hA cx gL_law_X1_lastChannel rfl rfl hd_X1_lastChannel (by decide) ⟨Nat.le_of_ble_eq_true rfl, Nat.le_of_ble_eq_true rfl⟩ rfl rfl rfl hl.1 rfl (Nat.le_of_ble_eq_true rfl) dL_law_455 (fun H locs hz => ?_)
        refine lv_aload_n hx hb dL_law_458 rfl (lv_at hl 2 rfl) ?_
        refine cR (C := RX2) (T := TX2) (N := 7) (ci := 2) (n := 0) (As := []) (rest := [.int (s0 6)]) (X := (xW cI cN bx an s0 rk sv rv nx np (er 0) (er 1))) (M := mW cI am s0 pst np er od rk2 hs) (M' := (mW cI am s0 pst np er od rk2 hs)) (v := .int (s0 6)) B hz hA cm gL_law_X2_lastChannel rfl rfl hd_X2_lastChannel (by decide) ⟨Nat.le_of_ble_eq_true rfl, Nat.le_of_ble_eq_true rfl⟩ rfl rfl rfl hl.1 rfl (Nat.le_of_ble_eq_true rfl) dL_law_459 (fun H locs hz => ?_)
        refine lv_icmp_eq (tgt := 912) hx hb dL_law_462 (by decide) (fun _ => ?_) (fun c9 => ?_)
        · exact NX _ H locs ls (LI.q0 (hs := hs) hK hT hnp hnx hS) hz hl
        · exact absurd rfl c9
      · refine lv_tableIn (tgt := 467) (off := 435) hx hb dL_law_32 (by decide) (by decide) rfl (by decide) ?_
        refine lv_aload_n hx hb dL_law_467 rfl (lv_at hl 1 rfl) ?_
        have cx := c_X1_lastUnanimous l D cI cN bx an s0 rk sv rv nx np (er 0) (er 1)  
        have cm := c_X2_lastUnanimous l D cI cN am s0 pst np er od rk2 hs  
        refine cL (C := RX1) (T := TX1) (N := 6) (ci := 1) (n := 0) (As := []) (rest := []) (X := xW cI cN bx an s0 rk sv rv nx np (er 0) (er 1)) (M := mW cI am s0 pst np er od rk2 hs) (X' := (xW cI cN bx an s0 rk sv rv nx np (er 0) (er 1))) (v := .int (s0 7)) B hz hA cx gL_law_X1_lastUnanimous rfl rfl hd_X1_lastUnanimous (by decide) ⟨Nat.le_of_ble_eq_true rfl, Nat.le_of_ble_eq_true rfl⟩ rfl rfl rfl hl.1 rfl (Nat.le_of_ble_eq_true rfl) dL_law_468 (fun H locs hz => ?_)
        refine lv_aload_n hx hb dL_law_471 rfl (lv_at hl 2 rfl) ?_
        refine cR (C := RX2) (T := TX2) (N := 7) (ci := 2) (n := 0) (As := []) (rest := [.int (s0 7)]) (X := (xW cI cN bx an s0 rk sv rv nx np (er 0) (er 1))) (M := mW cI am s0 pst np er od rk2 hs) (M' := (mW cI am s0 pst np er od rk2 hs)) (v := .int (s0 7)) B hz hA cm gL_law_X2_lastUnanimous rfl rfl hd_X2_lastUnanimous (by decide) ⟨Nat.le_of_ble_eq_true rfl, Nat.le_of_ble_eq_true rfl⟩ rfl rfl rfl hl.1 rfl (Nat.le_of_ble_eq_true rfl) dL_law_472 (fun H locs hz => ?_)
        refine lv_icmp_eq (tgt := 912) hx hb dL_law_475 (by decide) (fun _ => ?_) (fun c9 => ?_)
        · exact NX _ H locs ls (LI.q0 (hs := hs) hK hT hnp hnx hS) hz hl
        · exact absurd rfl c9
      · refine lv_tableIn (tgt := 480) (off := 448) hx hb dL_law_32 (by decide) (by decide) rfl (by decide) ?_
        refine lv_aload_n hx hb dL_law_480 rfl (lv_at hl 1 rfl) ?_
        have cx := c_X1_lastVoted l D cI cN bx an s0 rk sv rv nx np (er 0) (er 1)  
        have cm := c_X2_lastVoted l D cI cN am s0 pst np er od rk2 hs  
        refine cL (C := RX1) (T := TX1) (N := 6) (ci := 1) (n := 0) (As := []) (rest := []) (X := xW cI cN bx an s0 rk sv rv nx np (er 0) (er 1)) (M := mW cI am s0 pst np er od rk2 hs) (X' := (xW cI cN bx an s0 rk sv rv nx np (er 0) (er 1))) (v := .int (s0 8)) B hz hA cx gL_law_X1_lastVoted rfl rfl hd_X1_lastVoted (by decide) ⟨Nat.le_of_ble_eq_true rfl, Nat.le_of_ble_eq_true rfl⟩ rfl rfl rfl hl.1 rfl (Nat.le_of_ble_eq_true rfl) dL_law_481 (fun H locs hz => ?_)
        refine lv_aload_n hx hb dL_law_484 rfl (lv_at hl 2 rfl) ?_
        refine cR (C := RX2) (T := TX2) (N := 7) (ci := 2) (n := 0) (As := []) (rest := [.int (s0 8)]) (X := (xW cI cN bx an s0 rk sv rv nx np (er 0) (er 1))) (M := mW cI am s0 pst np er od rk2 hs) (M' := (mW cI am s0 pst np er od rk2 hs)) (v := .int (s0 8)) B hz hA cm gL_law_X2_lastVoted rfl rfl hd_X2_lastVoted (by decide) ⟨Nat.le_of_ble_eq_true rfl, Nat.le_of_ble_eq_true rfl⟩ rfl rfl rfl hl.1 rfl (Nat.le_of_ble_eq_true rfl) dL_law_485 (fun H locs hz => ?_)
        refine lv_icmp_eq (tgt := 912) hx hb dL_law_488 (by decide) (fun _ => ?_) (fun c9 => ?_)
        · exact NX _ H locs ls (LI.q0 (hs := hs) hK hT hnp hnx hS) hz hl
        · exact absurd rfl c9
      · refine lv_tableIn (tgt := 493) (off := 461) hx hb dL_law_32 (by decide) (by decide) rfl (by decide) ?_
        refine lv_aload_n hx hb dL_law_493 rfl (lv_at hl 1 rfl) ?_
        refine lv_aload_n hx hb dL_law_494 rfl (lv_at hl 0 rfl) ?_
        refine lv_iload_n hx hb dL_law_495 rfl (lv_at hl 3 rfl) ?_
        refine lv_iconst (v := nI 1) hx hb dL_law_496 (by decide) ?_
        refine ln_addG hx hb dL_law_497 ?_
        refine sldz (L := L) (j := 5 * n + 1) B hX hbl hbA hz (by omega) (by omega) dL_law_498 ?_
        have cx := c_X1_scan l D cI cN bx an s0 rk sv rv nx np (er 0) (er 1) (xs (5 * n + 1)) 
        have cm := c_X2_scan l D cI cN am s0 pst np er od rk2 hs (xs (5 * n + 1)) 
        refine cL (C := RX1) (T := TX1) (N := 6) (ci := 1) (n := 1) (As := [.int (xs (5 * n + 1))]) (rest := []) (X := xW cI cN bx an s0 rk sv rv nx np (er 0) (er 1)) (M := mW cI am s0 pst np er od rk2 hs) (X' := (xW cI cN bx an s0 rk sv rv nx np (if fSt (xs (5 * n + 1)) = true then (er 0) else (er 0) + nI 1) (er 1))) (v := .int (if fSt (xs (5 * n + 1)) = true then s0 (9 + tn (xs (5 * n + 1))) else -2)) B hz hA cx gL_law_X1_scan rfl rfl hd_X1_scan (by decide) ⟨Nat.le_of_ble_eq_true rfl, Nat.le_of_ble_eq_true rfl⟩ rfl rfl rfl hl.1 rfl (Nat.le_of_ble_eq_true rfl) dL_law_499 (fun H locs hz => ?_)
        refine lv_aload_n hx hb dL_law_502 rfl (lv_at hl 2 rfl) ?_
        refine lv_aload_n hx hb dL_law_503 rfl (lv_at hl 0 rfl) ?_
        refine lv_iload_n hx hb dL_law_504 rfl (lv_at hl 3 rfl) ?_
        refine lv_iconst (v := nI 1) hx hb dL_law_505 (by decide) ?_
        refine ln_addG hx hb dL_law_506 ?_
        refine sldz (L := L) (j := 5 * n + 1) B hX hbl hbA hz (by omega) (by omega) dL_law_507 ?_
        refine cR (C := RX2) (T := TX2) (N := 7) (ci := 2) (n := 1) (As := [.int (xs (5 * n + 1))]) (rest := [.int (if fSt (xs (5 * n + 1)) = true then s0 (9 + tn (xs (5 * n + 1))) else -2)]) (X := (xW cI cN bx an s0 rk sv rv nx np (if fSt (xs (5 * n + 1)) = true then (er 0) else (er 0) + nI 1) (er 1))) (M := mW cI am s0 pst np er od rk2 hs) (M' := (mW cI am s0 pst np (if fSt (xs (5 * n + 1)) = true then er else erB er) od rk2 hs)) (v := .int (if fSt (xs (5 * n + 1)) = true then s0 (9 + tn (xs (5 * n + 1))) else -2)) B hz hA cm gL_law_X2_scan rfl rfl hd_X2_scan (by decide) ⟨Nat.le_of_ble_eq_true rfl, Nat.le_of_ble_eq_true rfl⟩ rfl rfl rfl hl.1 rfl (Nat.le_of_ble_eq_true rfl) dL_law_508 (fun H locs hz => ?_)
        refine lv_icmp_eq (tgt := 912) hx hb dL_law_511 (by decide) (fun _ => ?_) (fun c9 => ?_)
        · exact NX _ H locs ls (LI.q (rk := rk) (od := od) (rk2 := rk2) (hs := hs) hK hT hnp hnx hS) hz hl
        · exact absurd rfl c9
      · refine lv_tableIn (tgt := 516) (off := 484) hx hb dL_law_32 (by decide) (by decide) rfl (by decide) ?_
        refine lv_aload_n hx hb dL_law_516 rfl (lv_at hl 1 rfl) ?_
        refine lv_aload_n hx hb dL_law_517 rfl (lv_at hl 0 rfl) ?_
        refine lv_iload_n hx hb dL_law_518 rfl (lv_at hl 3 rfl) ?_
        refine lv_iconst (v := nI 1) hx hb dL_law_519 (by decide) ?_
        refine ln_addG hx hb dL_law_520 ?_
        refine sldz (L := L) (j := 5 * n + 1) B hX hbl hbA hz (by omega) (by omega) dL_law_521 ?_
        have cx := c_X1_listening l D cI cN bx an s0 rk sv rv nx np (er 0) (er 1) (xs (5 * n + 1)) hK.2.1 hKT
        have cm := c_X2_listening l D cI cN am s0 pst np er od rk2 hs (xs (5 * n + 1)) hK.2.1 hKT
        refine cL (C := RX1) (T := TX1) (N := 6) (ci := 1) (n := 1) (As := [.int (xs (5 * n + 1))]) (rest := []) (X := xW cI cN bx an s0 rk sv rv nx np (er 0) (er 1)) (M := mW cI am s0 pst np er od rk2 hs) (X' := (xW cI cN bx an s0 rk sv rv nx np (if fSt (xs (5 * n + 1)) = true then (er 0) else (er 0) + nI 1) (er 1))) (v := .int (if fSt (xs (5 * n + 1)) = true then (if fLk s0 (tn (xs (5 * n + 1))) = true then -1 else nI (fLs (scn s0 (tn (xs (5 * n + 1)))) (tmN s0))) else -2)) B hz hA cx gL_law_X1_listening rfl rfl hd_X1_listening (by decide) ⟨Nat.le_of_ble_eq_true rfl, Nat.le_of_ble_eq_true rfl⟩ rfl rfl rfl hl.1 rfl (Nat.le_of_ble_eq_true rfl) dL_law_522 (fun H locs hz => ?_)
        refine lv_aload_n hx hb dL_law_525 rfl (lv_at hl 2 rfl) ?_
        refine lv_aload_n hx hb dL_law_526 rfl (lv_at hl 0 rfl) ?_
        refine lv_iload_n hx hb dL_law_527 rfl (lv_at hl 3 rfl) ?_
        refine lv_iconst (v := nI 1) hx hb dL_law_528 (by decide) ?_
        refine ln_addG hx hb dL_law_529 ?_
        refine sldz (L := L) (j := 5 * n + 1) B hX hbl hbA hz (by omega) (by omega) dL_law_530 ?_
        refine cR (C := RX2) (T := TX2) (N := 7) (ci := 2) (n := 1) (As := [.int (xs (5 * n + 1))]) (rest := [.int (if fSt (xs (5 * n + 1)) = true then (if fLk s0 (tn (xs (5 * n + 1))) = true then -1 else nI (fLs (scn s0 (tn (xs (5 * n + 1)))) (tmN s0))) else -2)]) (X := (xW cI cN bx an s0 rk sv rv nx np (if fSt (xs (5 * n + 1)) = true then (er 0) else (er 0) + nI 1) (er 1))) (M := mW cI am s0 pst np er od rk2 hs) (M' := (mW cI am s0 pst np (if fSt (xs (5 * n + 1)) = true then er else erB er) od rk2 hs)) (v := .int (if fSt (xs (5 * n + 1)) = true then (if fLk s0 (tn (xs (5 * n + 1))) = true then -1 else nI (fLs (scn s0 (tn (xs (5 * n + 1)))) (tmN s0))) else -2)) B hz hA cm gL_law_X2_listening rfl rfl hd_X2_listening (by decide) ⟨Nat.le_of_ble_eq_true rfl, Nat.le_of_ble_eq_true rfl⟩ rfl rfl rfl hl.1 rfl (Nat.le_of_ble_eq_true rfl) dL_law_531 (fun H locs hz => ?_)
        refine lv_icmp_eq (tgt := 912) hx hb dL_law_534 (by decide) (fun _ => ?_) (fun c9 => ?_)
        · exact NX _ H locs ls (LI.q (rk := rk) (od := od) (rk2 := rk2) (hs := hs) hK hT hnp hnx hS) hz hl
        · exact absurd rfl c9
      · refine lv_tableIn (tgt := 539) (off := 507) hx hb dL_law_32 (by decide) (by decide) rfl (by decide) ?_
        refine lv_aload_n hx hb dL_law_539 rfl (lv_at hl 1 rfl) ?_
        refine lv_aload_n hx hb dL_law_540 rfl (lv_at hl 0 rfl) ?_
        refine lv_iload_n hx hb dL_law_541 rfl (lv_at hl 3 rfl) ?_
        refine lv_iconst (v := nI 1) hx hb dL_law_542 (by decide) ?_
        refine ln_addG hx hb dL_law_543 ?_
        refine sldz (L := L) (j := 5 * n + 1) B hX hbl hbA hz (by omega) (by omega) dL_law_544 ?_
        refine lv_aload_n hx hb dL_law_545 rfl (lv_at hl 0 rfl) ?_
        refine lv_iload_n hx hb dL_law_546 rfl (lv_at hl 3 rfl) ?_
        refine lv_iconst (v := nI 2) hx hb dL_law_547 (by decide) ?_
        refine ln_addG hx hb dL_law_548 ?_
        refine sldz (L := L) (j := 5 * n + 2) B hX hbl hbA hz (by omega) (by omega) dL_law_549 ?_
        refine lv_aload_n hx hb dL_law_550 rfl (lv_at hl 0 rfl) ?_
        refine lv_iload_n hx hb dL_law_551 rfl (lv_at hl 3 rfl) ?_
        refine lv_iconst (v := nI 3) hx hb dL_law_552 (by decide) ?_
        refine ln_addG hx hb dL_law_553 ?_
        refine sldz (L := L) (j := 5 * n + 3) B hX hbl hbA hz (by omega) (by omega) dL_law_554 ?_
        have cx := c_X1_quality l D cI cN bx an s0 rk sv rv nx np (er 0) (er 1) (xs (5 * n + 1)) (xs (5 * n + 2)) (xs (5 * n + 3)) 
        have cm := c_X2_quality l D cI cN am s0 pst np er od rk2 hs (xs (5 * n + 1)) (xs (5 * n + 2)) (xs (5 * n + 3)) 
        refine cL (C := RX1) (T := TX1) (N := 6) (ci := 1) (n := 3) (As := [.int (xs (5 * n + 1)), .int (xs (5 * n + 2)), .int (xs (5 * n + 3))]) (rest := []) (X := xW cI cN bx an s0 rk sv rv nx np (er 0) (er 1)) (M := mW cI am s0 pst np er od rk2 hs) (X' := (xW cI cN bx an s0 rk sv rv nx np (if fTh (xs (5 * n + 1)) (xs (5 * n + 2)) (xs (5 * n + 3)) = true then (er 0) else (er 0) + nI 1) (er 1))) (v := .int (if fTh (xs (5 * n + 1)) (xs (5 * n + 2)) (xs (5 * n + 3)) = true then s0 (24 + fAt (tn (xs (5 * n + 1))) (tn (xs (5 * n + 2))) (tn (xs (5 * n + 3)))) else -2)) B hz hA cx gL_law_X1_quality rfl rfl hd_X1_quality (by decide) ⟨Nat.le_of_ble_eq_true rfl, Nat.le_of_ble_eq_true rfl⟩ rfl rfl rfl hl.1 rfl (Nat.le_of_ble_eq_true rfl) dL_law_555 (fun H locs hz => ?_)
        refine lv_aload_n hx hb dL_law_558 rfl (lv_at hl 2 rfl) ?_
        refine lv_aload_n hx hb dL_law_559 rfl (lv_at hl 0 rfl) ?_
        refine lv_iload_n hx hb dL_law_560 rfl (lv_at hl 3 rfl) ?_
        refine lv_iconst (v := nI 1) hx hb dL_law_561 (by decide) ?_
        refine ln_addG hx hb dL_law_562 ?_
        refine sldz (L := L) (j := 5 * n + 1) B hX hbl hbA hz (by omega) (by omega) dL_law_563 ?_
        refine lv_aload_n hx hb dL_law_564 rfl (lv_at hl 0 rfl) ?_
        refine lv_iload_n hx hb dL_law_565 rfl (lv_at hl 3 rfl) ?_
        refine lv_iconst (v := nI 2) hx hb dL_law_566 (by decide) ?_
        refine ln_addG hx hb dL_law_567 ?_
        refine sldz (L := L) (j := 5 * n + 2) B hX hbl hbA hz (by omega) (by omega) dL_law_568 ?_
        refine lv_aload_n hx hb dL_law_569 rfl (lv_at hl 0 rfl) ?_
        refine lv_iload_n hx hb dL_law_570 rfl (lv_at hl 3 rfl) ?_
        refine lv_iconst (v := nI 3) hx hb dL_law_571 (by decide) ?_
        refine ln_addG hx hb dL_law_572 ?_
        refine sldz (L := L) (j := 5 * n + 3) B hX hbl hbA hz (by omega) (by omega) dL_law_573 ?_
        refine cR (C := RX2) (T := TX2) (N := 7) (ci := 2) (n := 3) (As := [.int (xs (5 * n + 1)), .int (xs (5 * n + 2)), .int (xs (5 * n + 3))]) (rest := [.int (if fTh (xs (5 * n + 1)) (xs (5 * n + 2)) (xs (5 * n + 3)) = true then s0 (24 + fAt (tn (xs (5 * n + 1))) (tn (xs (5 * n + 2))) (tn (xs (5 * n + 3)))) else -2)]) (X := (xW cI cN bx an s0 rk sv rv nx np (if fTh (xs (5 * n + 1)) (xs (5 * n + 2)) (xs (5 * n + 3)) = true then (er 0) else (er 0) + nI 1) (er 1))) (M := mW cI am s0 pst np er od rk2 hs) (M' := (mW cI am s0 pst np (if fTh (xs (5 * n + 1)) (xs (5 * n + 2)) (xs (5 * n + 3)) = true then er else erB er) od rk2 hs)) (v := .int (if fTh (xs (5 * n + 1)) (xs (5 * n + 2)) (xs (5 * n + 3)) = true then s0 (24 + fAt (tn (xs (5 * n + 1))) (tn (xs (5 * n + 2))) (tn (xs (5 * n + 3)))) else -2)) B hz hA cm gL_law_X2_quality rfl rfl hd_X2_quality (by decide) ⟨Nat.le_of_ble_eq_true rfl, Nat.le_of_ble_eq_true rfl⟩ rfl rfl rfl hl.1 rfl (Nat.le_of_ble_eq_true rfl) dL_law_574 (fun H locs hz => ?_)
        refine lv_icmp_eq (tgt := 912) hx hb dL_law_577 (by decide) (fun _ => ?_) (fun c9 => ?_)
        · exact NX _ H locs ls (LI.q (rk := rk) (od := od) (rk2 := rk2) (hs := hs) hK hT hnp hnx hS) hz hl
        · exact absurd rfl c9
      · refine lv_tableIn (tgt := 582) (off := 550) hx hb dL_law_32 (by decide) (by decide) rfl (by decide) ?_
        refine lv_aload_n hx hb dL_law_582 rfl (lv_at hl 1 rfl) ?_
        refine lv_aload_n hx hb dL_law_583 rfl (lv_at hl 0 rfl) ?_
        refine lv_iload_n hx hb dL_law_584 rfl (lv_at hl 3 rfl) ?_
        refine lv_iconst (v := nI 1) hx hb dL_law_585 (by decide) ?_
        refine ln_addG hx hb dL_law_586 ?_
        refine sldz (L := L) (j := 5 * n + 1) B hX hbl hbA hz (by omega) (by omega) dL_law_587 ?_
        refine lv_aload_n hx hb dL_law_588 rfl (lv_at hl 0 rfl) ?_
        refine lv_iload_n hx hb dL_law_589 rfl (lv_at hl 3 rfl) ?_
        refine lv_iconst (v := nI 2) hx hb dL_law_590 (by decide) ?_
        refine ln_addG hx hb dL_law_591 ?_
        refine sldz (L := L) (j := 5 * n + 2) B hX hbl hbA hz (by omega) (by omega) dL_law_592 ?_
        refine lv_aload_n hx hb dL_law_593 rfl (lv_at hl 0 rfl) ?_
        refine lv_iload_n hx hb dL_law_594 rfl (lv_at hl 3 rfl) ?_
        refine lv_iconst (v := nI 3) hx hb dL_law_595 (by decide) ?_
        refine ln_addG hx hb dL_law_596 ?_
        refine sldz (L := L) (j := 5 * n + 3) B hX hbl hbA hz (by omega) (by omega) dL_law_597 ?_
        have cx := c_X1_score l D cI cN bx an s0 rk sv rv nx np (er 0) (er 1) (xs (5 * n + 1)) (xs (5 * n + 2)) (xs (5 * n + 3)) 
        have cm := c_X2_score l D cI cN am s0 pst np er od rk2 hs (xs (5 * n + 1)) (xs (5 * n + 2)) (xs (5 * n + 3)) 
        refine cL (C := RX1) (T := TX1) (N := 6) (ci := 1) (n := 3) (As := [.int (xs (5 * n + 1)), .int (xs (5 * n + 2)), .int (xs (5 * n + 3))]) (rest := []) (X := xW cI cN bx an s0 rk sv rv nx np (er 0) (er 1)) (M := mW cI am s0 pst np er od rk2 hs) (X' := (xW cI cN bx an s0 rk sv rv nx np (if fTh (xs (5 * n + 1)) (xs (5 * n + 2)) (xs (5 * n + 3)) = true then (er 0) else (er 0) + nI 1) (er 1))) (v := .int (if fTh (xs (5 * n + 1)) (xs (5 * n + 2)) (xs (5 * n + 3)) = true then s0 (224 + fAt (tn (xs (5 * n + 1))) (tn (xs (5 * n + 2))) (tn (xs (5 * n + 3)))) else -2)) B hz hA cx gL_law_X1_score rfl rfl hd_X1_score (by decide) ⟨Nat.le_of_ble_eq_true rfl, Nat.le_of_ble_eq_true rfl⟩ rfl rfl rfl hl.1 rfl (Nat.le_of_ble_eq_true rfl) dL_law_598 (fun H locs hz => ?_)
        refine lv_aload_n hx hb dL_law_601 rfl (lv_at hl 2 rfl) ?_
        refine lv_aload_n hx hb dL_law_602 rfl (lv_at hl 0 rfl) ?_
        refine lv_iload_n hx hb dL_law_603 rfl (lv_at hl 3 rfl) ?_
        refine lv_iconst (v := nI 1) hx hb dL_law_604 (by decide) ?_
        refine ln_addG hx hb dL_law_605 ?_
        refine sldz (L := L) (j := 5 * n + 1) B hX hbl hbA hz (by omega) (by omega) dL_law_606 ?_
        refine lv_aload_n hx hb dL_law_607 rfl (lv_at hl 0 rfl) ?_
        refine lv_iload_n hx hb dL_law_608 rfl (lv_at hl 3 rfl) ?_
        refine lv_iconst (v := nI 2) hx hb dL_law_609 (by decide) ?_
        refine ln_addG hx hb dL_law_610 ?_
        refine sldz (L := L) (j := 5 * n + 2) B hX hbl hbA hz (by omega) (by omega) dL_law_611 ?_
        refine lv_aload_n hx hb dL_law_612 rfl (lv_at hl 0 rfl) ?_
        refine lv_iload_n hx hb dL_law_613 rfl (lv_at hl 3 rfl) ?_
        refine lv_iconst (v := nI 3) hx hb dL_law_614 (by decide) ?_
        refine ln_addG hx hb dL_law_615 ?_
        refine sldz (L := L) (j := 5 * n + 3) B hX hbl hbA hz (by omega) (by omega) dL_law_616 ?_
        refine cR (C := RX2) (T := TX2) (N := 7) (ci := 2) (n := 3) (As := [.int (xs (5 * n + 1)), .int (xs (5 * n + 2)), .int (xs (5 * n + 3))]) (rest := [.int (if fTh (xs (5 * n + 1)) (xs (5 * n + 2)) (xs (5 * n + 3)) = true then s0 (224 + fAt (tn (xs (5 * n + 1))) (tn (xs (5 * n + 2))) (tn (xs (5 * n + 3)))) else -2)]) (X := (xW cI cN bx an s0 rk sv rv nx np (if fTh (xs (5 * n + 1)) (xs (5 * n + 2)) (xs (5 * n + 3)) = true then (er 0) else (er 0) + nI 1) (er 1))) (M := mW cI am s0 pst np er od rk2 hs) (M' := (mW cI am s0 pst np (if fTh (xs (5 * n + 1)) (xs (5 * n + 2)) (xs (5 * n + 3)) = true then er else erB er) od rk2 hs)) (v := .int (if fTh (xs (5 * n + 1)) (xs (5 * n + 2)) (xs (5 * n + 3)) = true then s0 (224 + fAt (tn (xs (5 * n + 1))) (tn (xs (5 * n + 2))) (tn (xs (5 * n + 3)))) else -2)) B hz hA cm gL_law_X2_score rfl rfl hd_X2_score (by decide) ⟨Nat.le_of_ble_eq_true rfl, Nat.le_of_ble_eq_true rfl⟩ rfl rfl rfl hl.1 rfl (Nat.le_of_ble_eq_true rfl) dL_law_617 (fun H locs hz => ?_)
        refine lv_icmp_eq (tgt := 912) hx hb dL_law_620 (by decide) (fun _ => ?_) (fun c9 => ?_)
        · exact NX _ H locs ls (LI.q (rk := rk) (od := od) (rk2 := rk2) (hs := hs) hK hT hnp hnx hS) hz hl
        · exact absurd rfl c9
      · refine lv_tableIn (tgt := 625) (off := 593) hx hb dL_law_32 (by decide) (by decide) rfl (by decide) ?_
        refine lv_aload_n hx hb dL_law_625 rfl (lv_at hl 1 rfl) ?_
        refine lv_aload_n hx hb dL_law_626 rfl (lv_at hl 0 rfl) ?_
        refine lv_iload_n hx hb dL_law_627 rfl (lv_at hl 3 rfl) ?_
        refine lv_iconst (v := nI 1) hx hb dL_law_628 (by decide) ?_
        refine ln_addG hx hb dL_law_629 ?_
        refine sldz (L := L) (j := 5 * n + 1) B hX hbl hbA hz (by omega) (by omega) dL_law_630 ?_
        refine lv_aload_n hx hb dL_law_631 rfl (lv_at hl 0 rfl) ?_
        refine lv_iload_n hx hb dL_law_632 rfl (lv_at hl 3 rfl) ?_
        refine lv_iconst (v := nI 2) hx hb dL_law_633 (by decide) ?_
        refine ln_addG hx hb dL_law_634 ?_
        refine sldz (L := L) (j := 5 * n + 2) B hX hbl hbA hz (by omega) (by omega) dL_law_635 ?_
        refine lv_aload_n hx hb dL_law_636 rfl (lv_at hl 0 rfl) ?_
        refine lv_iload_n hx hb dL_law_637 rfl (lv_at hl 3 rfl) ?_
        refine lv_iconst (v := nI 3) hx hb dL_law_638 (by decide) ?_
        refine ln_addG hx hb dL_law_639 ?_
        refine sldz (L := L) (j := 5 * n + 3) B hX hbl hbA hz (by omega) (by omega) dL_law_640 ?_
        have cx := c_X1_effective l D cI cN bx an s0 rk sv rv nx np (er 0) (er 1) (xs (5 * n + 1)) (xs (5 * n + 2)) (xs (5 * n + 3)) hK.A
        have cm := c_X2_effective l D cI cN am s0 pst np er od rk2 hs (xs (5 * n + 1)) (xs (5 * n + 2)) (xs (5 * n + 3)) hK.A
        refine cL (C := RX1) (T := TX1) (N := 6) (ci := 1) (n := 3) (As := [.int (xs (5 * n + 1)), .int (xs (5 * n + 2)), .int (xs (5 * n + 3))]) (rest := []) (X := xW cI cN bx an s0 rk sv rv nx np (er 0) (er 1)) (M := mW cI am s0 pst np er od rk2 hs) (X' := (xW cI cN bx an s0 rk sv rv nx np (if fTh (xs (5 * n + 1)) (xs (5 * n + 2)) (xs (5 * n + 3)) = true then (er 0) else (er 0) + nI 1) (er 1))) (v := .int (if fTh (xs (5 * n + 1)) (xs (5 * n + 2)) (xs (5 * n + 3)) = true then fEf (tn (xs (5 * n + 1))) (tn (xs (5 * n + 2))) (tn (xs (5 * n + 3))) s0 else -2)) B hz hA cx gL_law_X1_effective rfl rfl hd_X1_effective (by decide) ⟨Nat.le_of_ble_eq_true rfl, Nat.le_of_ble_eq_true rfl⟩ rfl rfl rfl hl.1 rfl (Nat.le_of_ble_eq_true rfl) dL_law_641 (fun H locs hz => ?_)
        refine lv_aload_n hx hb dL_law_644 rfl (lv_at hl 2 rfl) ?_
        refine lv_aload_n hx hb dL_law_645 rfl (lv_at hl 0 rfl) ?_
        refine lv_iload_n hx hb dL_law_646 rfl (lv_at hl 3 rfl) ?_
        refine lv_iconst (v := nI 1) hx hb dL_law_647 (by decide) ?_
        refine ln_addG hx hb dL_law_648 ?_
        refine sldz (L := L) (j := 5 * n + 1) B hX hbl hbA hz (by omega) (by omega) dL_law_649 ?_
        refine lv_aload_n hx hb dL_law_650 rfl (lv_at hl 0 rfl) ?_
        refine lv_iload_n hx hb dL_law_651 rfl (lv_at hl 3 rfl) ?_
        refine lv_iconst (v := nI 2) hx hb dL_law_652 (by decide) ?_
        refine ln_addG hx hb dL_law_653 ?_
        refine sldz (L := L) (j := 5 * n + 2) B hX hbl hbA hz (by omega) (by omega) dL_law_654 ?_
        refine lv_aload_n hx hb dL_law_655 rfl (lv_at hl 0 rfl) ?_
        refine lv_iload_n hx hb dL_law_656 rfl (lv_at hl 3 rfl) ?_
        refine lv_iconst (v := nI 3) hx hb dL_law_657 (by decide) ?_
        refine ln_addG hx hb dL_law_658 ?_
        refine sldz (L := L) (j := 5 * n + 3) B hX hbl hbA hz (by omega) (by omega) dL_law_659 ?_
        refine cR (C := RX2) (T := TX2) (N := 7) (ci := 2) (n := 3) (As := [.int (xs (5 * n + 1)), .int (xs (5 * n + 2)), .int (xs (5 * n + 3))]) (rest := [.int (if fTh (xs (5 * n + 1)) (xs (5 * n + 2)) (xs (5 * n + 3)) = true then fEf (tn (xs (5 * n + 1))) (tn (xs (5 * n + 2))) (tn (xs (5 * n + 3))) s0 else -2)]) (X := (xW cI cN bx an s0 rk sv rv nx np (if fTh (xs (5 * n + 1)) (xs (5 * n + 2)) (xs (5 * n + 3)) = true then (er 0) else (er 0) + nI 1) (er 1))) (M := mW cI am s0 pst np er od rk2 hs) (M' := (mW cI am s0 pst np (if fTh (xs (5 * n + 1)) (xs (5 * n + 2)) (xs (5 * n + 3)) = true then er else erB er) od rk2 hs)) (v := .int (if fTh (xs (5 * n + 1)) (xs (5 * n + 2)) (xs (5 * n + 3)) = true then fEf (tn (xs (5 * n + 1))) (tn (xs (5 * n + 2))) (tn (xs (5 * n + 3))) s0 else -2)) B hz hA cm gL_law_X2_effective rfl rfl hd_X2_effective (by decide) ⟨Nat.le_of_ble_eq_true rfl, Nat.le_of_ble_eq_true rfl⟩ rfl rfl rfl hl.1 rfl (Nat.le_of_ble_eq_true rfl) dL_law_660 (fun H locs hz => ?_)
        refine lv_icmp_eq (tgt := 912) hx hb dL_law_663 (by decide) (fun _ => ?_) (fun c9 => ?_)
        · exact NX _ H locs ls (LI.q (rk := rk) (od := od) (rk2 := rk2) (hs := hs) hK hT hnp hnx hS) hz hl
        · exact absurd rfl c9
      · refine lv_tableIn (tgt := 668) (off := 636) hx hb dL_law_32 (by decide) (by decide) rfl (by decide) ?_
        refine lv_aload_n hx hb dL_law_668 rfl (lv_at hl 1 rfl) ?_
        refine lv_aload_n hx hb dL_law_669 rfl (lv_at hl 0 rfl) ?_
        refine lv_iload_n hx hb dL_law_670 rfl (lv_at hl 3 rfl) ?_
        refine lv_iconst (v := nI 1) hx hb dL_law_671 (by decide) ?_
        refine ln_addG hx hb dL_law_672 ?_
        refine sldz (L := L) (j := 5 * n + 1) B hX hbl hbA hz (by omega) (by omega) dL_law_673 ?_
        refine lv_aload_n hx hb dL_law_674 rfl (lv_at hl 0 rfl) ?_
        refine lv_iload_n hx hb dL_law_675 rfl (lv_at hl 3 rfl) ?_
        refine lv_iconst (v := nI 2) hx hb dL_law_676 (by decide) ?_
        refine ln_addG hx hb dL_law_677 ?_
        refine sldz (L := L) (j := 5 * n + 2) B hX hbl hbA hz (by omega) (by omega) dL_law_678 ?_
        have cx := c_X1_bestChannel l D cI cN bx an s0 rk sv rv nx np (er 0) (er 1) (xs (5 * n + 1)) (xs (5 * n + 2)) hK.A
        have cm := c_X2_bestChannel l D cI cN am s0 pst np er od rk2 hs (xs (5 * n + 1)) (xs (5 * n + 2)) hK.A
        rw [best_eq (od := od) (rk2 := rk2) hK hT30] at cx
        refine cL (C := RX1) (T := TX1) (N := 6) (ci := 1) (n := 2) (As := [.int (xs (5 * n + 1)), .int (xs (5 * n + 2))]) (rest := []) (X := xW cI cN bx an s0 rk sv rv nx np (er 0) (er 1)) (M := mW cI am s0 pst np er od rk2 hs) (X' := (xW cI cN bx an s0 (if fPr (xs (5 * n + 1)) (xs (5 * n + 2)) = true then fRk (nI 1 <<< (nI (tn (xs (5 * n + 2))) &&& 31)) (tn (xs (5 * n + 1))) s0 rk 8 else rk) sv rv nx np (if fPr (xs (5 * n + 1)) (xs (5 * n + 2)) = true then (er 0) else (er 0) + nI 1) (er 1))) (v := .int (if fPr (xs (5 * n + 1)) (xs (5 * n + 2)) = true then (if (fSc (tn (xs (5 * n + 1))) (tn (xs (5 * n + 2))) s0 od rk2 8).1 = 0 then -1 else (fSc (tn (xs (5 * n + 1))) (tn (xs (5 * n + 2))) s0 od rk2 8).2.1 0) else -2)) B hz hA cx gL_law_X1_bestChannel rfl rfl hd_X1_bestChannel (by decide) ⟨Nat.le_of_ble_eq_true rfl, Nat.le_of_ble_eq_true rfl⟩ rfl rfl rfl hl.1 rfl (Nat.le_of_ble_eq_true rfl) dL_law_679 (fun H locs hz => ?_)
        refine lv_aload_n hx hb dL_law_682 rfl (lv_at hl 2 rfl) ?_
        refine lv_aload_n hx hb dL_law_683 rfl (lv_at hl 0 rfl) ?_
        refine lv_iload_n hx hb dL_law_684 rfl (lv_at hl 3 rfl) ?_
        refine lv_iconst (v := nI 1) hx hb dL_law_685 (by decide) ?_
        refine ln_addG hx hb dL_law_686 ?_
        refine sldz (L := L) (j := 5 * n + 1) B hX hbl hbA hz (by omega) (by omega) dL_law_687 ?_
        refine lv_aload_n hx hb dL_law_688 rfl (lv_at hl 0 rfl) ?_
        refine lv_iload_n hx hb dL_law_689 rfl (lv_at hl 3 rfl) ?_
        refine lv_iconst (v := nI 2) hx hb dL_law_690 (by decide) ?_
        refine ln_addG hx hb dL_law_691 ?_
        refine sldz (L := L) (j := 5 * n + 2) B hX hbl hbA hz (by omega) (by omega) dL_law_692 ?_
        refine cR (C := RX2) (T := TX2) (N := 7) (ci := 2) (n := 2) (As := [.int (xs (5 * n + 1)), .int (xs (5 * n + 2))]) (rest := [.int (if fPr (xs (5 * n + 1)) (xs (5 * n + 2)) = true then (if (fSc (tn (xs (5 * n + 1))) (tn (xs (5 * n + 2))) s0 od rk2 8).1 = 0 then -1 else (fSc (tn (xs (5 * n + 1))) (tn (xs (5 * n + 2))) s0 od rk2 8).2.1 0) else -2)]) (X := (xW cI cN bx an s0 (if fPr (xs (5 * n + 1)) (xs (5 * n + 2)) = true then fRk (nI 1 <<< (nI (tn (xs (5 * n + 2))) &&& 31)) (tn (xs (5 * n + 1))) s0 rk 8 else rk) sv rv nx np (if fPr (xs (5 * n + 1)) (xs (5 * n + 2)) = true then (er 0) else (er 0) + nI 1) (er 1))) (M := mW cI am s0 pst np er od rk2 hs) (M' := (mW cI am s0 pst np (if fPr (xs (5 * n + 1)) (xs (5 * n + 2)) = true then er else erB er) (if fPr (xs (5 * n + 1)) (xs (5 * n + 2)) = true then (fSc (tn (xs (5 * n + 1))) (tn (xs (5 * n + 2))) s0 od rk2 8).2.1 else od) (if fPr (xs (5 * n + 1)) (xs (5 * n + 2)) = true then (fSc (tn (xs (5 * n + 1))) (tn (xs (5 * n + 2))) s0 od rk2 8).2.2 else rk2) hs)) (v := .int (if fPr (xs (5 * n + 1)) (xs (5 * n + 2)) = true then (if (fSc (tn (xs (5 * n + 1))) (tn (xs (5 * n + 2))) s0 od rk2 8).1 = 0 then -1 else (fSc (tn (xs (5 * n + 1))) (tn (xs (5 * n + 2))) s0 od rk2 8).2.1 0) else -2)) B hz hA cm gL_law_X2_bestChannel rfl rfl hd_X2_bestChannel (by decide) ⟨Nat.le_of_ble_eq_true rfl, Nat.le_of_ble_eq_true rfl⟩ rfl rfl rfl hl.1 rfl (Nat.le_of_ble_eq_true rfl) dL_law_693 (fun H locs hz => ?_)
        refine lv_icmp_eq (tgt := 912) hx hb dL_law_696 (by decide) (fun _ => ?_) (fun c9 => ?_)
        · exact NX _ H locs ls (LI.q (rk := rk) (od := od) (rk2 := rk2) (hs := hs) hK hT hnp hnx hS) hz hl
        · exact absurd rfl c9
      · refine lv_tableIn (tgt := 701) (off := 669) hx hb dL_law_32 (by decide) (by decide) rfl (by decide) ?_
        refine lv_aload_n hx hb dL_law_701 rfl (lv_at hl 1 rfl) ?_
        refine lv_aload_n hx hb dL_law_702 rfl (lv_at hl 0 rfl) ?_
        refine lv_iload_n hx hb dL_law_703 rfl (lv_at hl 3 rfl) ?_
        refine lv_iconst (v := nI 1) hx hb dL_law_704 (by decide) ?_
        refine ln_addG hx hb dL_law_705 ?_
        refine sldz (L := L) (j := 5 * n + 1) B hX hbl hbA hz (by omega) (by omega) dL_law_706 ?_
        refine lv_aload_n hx hb dL_law_707 rfl (lv_at hl 0 rfl) ?_
        refine lv_iload_n hx hb dL_law_708 rfl (lv_at hl 3 rfl) ?_
        refine lv_iconst (v := nI 2) hx hb dL_law_709 (by decide) ?_
        refine ln_addG hx hb dL_law_710 ?_
        refine sldz (L := L) (j := 5 * n + 2) B hX hbl hbA hz (by omega) (by omega) dL_law_711 ?_
        have cx := c_X1_netChannel l D cI cN bx an s0 rk sv rv nx np (er 0) (er 1) (xs (5 * n + 1)) (xs (5 * n + 2)) hK.A
        have cm := c_X2_netChannel l D cI cN am s0 pst np er od rk2 hs (xs (5 * n + 1)) (xs (5 * n + 2)) hK.A
        rw [netc_eq hK hT30] at cx
        refine cL (C := RX1) (T := TX1) (N := 6) (ci := 1) (n := 2) (As := [.int (xs (5 * n + 1)), .int (xs (5 * n + 2))]) (rest := []) (X := xW cI cN bx an s0 rk sv rv nx np (er 0) (er 1)) (M := mW cI am s0 pst np er od rk2 hs) (X' := (xW cI cN bx an s0 (if fNet (xs (5 * n + 1)) (xs (5 * n + 2)) = true then fRk (xs (5 * n + 2)) (tn (xs (5 * n + 1))) s0 rk 8 else rk) sv rv nx np (if fNet (xs (5 * n + 1)) (xs (5 * n + 2)) = true then (er 0) else (er 0) + nI 1) (er 1))) (v := .int (if fNet (xs (5 * n + 1)) (xs (5 * n + 2)) = true then oI (fFr (fun ch => fNs (nI 31) (xs (5 * n + 2)) (tn (xs (5 * n + 1))) ch s0 5) (s0 (9 + tn (xs (5 * n + 1)))) 8) else -2)) B hz hA cx gL_law_X1_netChannel rfl rfl hd_X1_netChannel (by decide) ⟨Nat.le_of_ble_eq_true rfl, Nat.le_of_ble_eq_true rfl⟩ rfl rfl rfl hl.1 rfl (Nat.le_of_ble_eq_true rfl) dL_law_712 (fun H locs hz => ?_)
        refine lv_aload_n hx hb dL_law_715 rfl (lv_at hl 2 rfl) ?_
        refine lv_aload_n hx hb dL_law_716 rfl (lv_at hl 0 rfl) ?_
        refine lv_iload_n hx hb dL_law_717 rfl (lv_at hl 3 rfl) ?_
        refine lv_iconst (v := nI 1) hx hb dL_law_718 (by decide) ?_
        refine ln_addG hx hb dL_law_719 ?_
        refine sldz (L := L) (j := 5 * n + 1) B hX hbl hbA hz (by omega) (by omega) dL_law_720 ?_
        refine lv_aload_n hx hb dL_law_721 rfl (lv_at hl 0 rfl) ?_
        refine lv_iload_n hx hb dL_law_722 rfl (lv_at hl 3 rfl) ?_
        refine lv_iconst (v := nI 2) hx hb dL_law_723 (by decide) ?_
        refine ln_addG hx hb dL_law_724 ?_
        refine sldz (L := L) (j := 5 * n + 2) B hX hbl hbA hz (by omega) (by omega) dL_law_725 ?_
        refine cR (C := RX2) (T := TX2) (N := 7) (ci := 2) (n := 2) (As := [.int (xs (5 * n + 1)), .int (xs (5 * n + 2))]) (rest := [.int (if fNet (xs (5 * n + 1)) (xs (5 * n + 2)) = true then oI (fFr (fun ch => fNs (nI 31) (xs (5 * n + 2)) (tn (xs (5 * n + 1))) ch s0 5) (s0 (9 + tn (xs (5 * n + 1)))) 8) else -2)]) (X := (xW cI cN bx an s0 (if fNet (xs (5 * n + 1)) (xs (5 * n + 2)) = true then fRk (xs (5 * n + 2)) (tn (xs (5 * n + 1))) s0 rk 8 else rk) sv rv nx np (if fNet (xs (5 * n + 1)) (xs (5 * n + 2)) = true then (er 0) else (er 0) + nI 1) (er 1))) (M := mW cI am s0 pst np er od rk2 hs) (M' := (mW cI am s0 pst np (if fNet (xs (5 * n + 1)) (xs (5 * n + 2)) = true then er else erB er) od rk2 hs)) (v := .int (if fNet (xs (5 * n + 1)) (xs (5 * n + 2)) = true then oI (fFr (fun ch => fNs (nI 31) (xs (5 * n + 2)) (tn (xs (5 * n + 1))) ch s0 5) (s0 (9 + tn (xs (5 * n + 1)))) 8) else -2)) B hz hA cm gL_law_X2_netChannel rfl rfl hd_X2_netChannel (by decide) ⟨Nat.le_of_ble_eq_true rfl, Nat.le_of_ble_eq_true rfl⟩ rfl rfl rfl hl.1 rfl (Nat.le_of_ble_eq_true rfl) dL_law_726 (fun H locs hz => ?_)
        refine lv_icmp_eq (tgt := 912) hx hb dL_law_729 (by decide) (fun _ => ?_) (fun c9 => ?_)
        · exact NX _ H locs ls (LI.q (rk := rk) (od := od) (rk2 := rk2) (hs := hs) hK hT hnp hnx hS) hz hl
        · exact absurd rfl c9
      · refine lv_tableIn (tgt := 734) (off := 702) hx hb dL_law_32 (by decide) (by decide) rfl (by decide) ?_
        refine lv_aload_n hx hb dL_law_734 rfl (lv_at hl 1 rfl) ?_
        refine lv_aload_n hx hb dL_law_735 rfl (lv_at hl 0 rfl) ?_
        refine lv_iload_n hx hb dL_law_736 rfl (lv_at hl 3 rfl) ?_
        refine lv_iconst (v := nI 1) hx hb dL_law_737 (by decide) ?_
        refine ln_addG hx hb dL_law_738 ?_
        refine sldz (L := L) (j := 5 * n + 1) B hX hbl hbA hz (by omega) (by omega) dL_law_739 ?_
        have cx := c_X1_link l D cI cN bx an s0 rk sv rv nx np (er 0) (er 1) (xs (5 * n + 1)) 
        have cm := c_X2_link l D cI cN am s0 pst np er od rk2 hs (xs (5 * n + 1)) 
        refine cL (C := RX1) (T := TX1) (N := 6) (ci := 1) (n := 1) (As := [.int (xs (5 * n + 1))]) (rest := []) (X := xW cI cN bx an s0 rk sv rv nx np (er 0) (er 1)) (M := mW cI am s0 pst np er od rk2 hs) (X' := (xW cI cN bx an s0 rk sv rv nx np (if fSt (xs (5 * n + 1)) = true then (er 0) else (er 0) + nI 1) (er 1))) (v := .int (if fSt (xs (5 * n + 1)) = true then s0 (14 + tn (xs (5 * n + 1))) else -2)) B hz hA cx gL_law_X1_link rfl rfl hd_X1_link (by decide) ⟨Nat.le_of_ble_eq_true rfl, Nat.le_of_ble_eq_true rfl⟩ rfl rfl rfl hl.1 rfl (Nat.le_of_ble_eq_true rfl) dL_law_740 (fun H locs hz => ?_)
        refine lv_aload_n hx hb dL_law_743 rfl (lv_at hl 2 rfl) ?_
        refine lv_aload_n hx hb dL_law_744 rfl (lv_at hl 0 rfl) ?_
        refine lv_iload_n hx hb dL_law_745 rfl (lv_at hl 3 rfl) ?_
        refine lv_iconst (v := nI 1) hx hb dL_law_746 (by decide) ?_
        refine ln_addG hx hb dL_law_747 ?_
        refine sldz (L := L) (j := 5 * n + 1) B hX hbl hbA hz (by omega) (by omega) dL_law_748 ?_
        refine cR (C := RX2) (T := TX2) (N := 7) (ci := 2) (n := 1) (As := [.int (xs (5 * n + 1))]) (rest := [.int (if fSt (xs (5 * n + 1)) = true then s0 (14 + tn (xs (5 * n + 1))) else -2)]) (X := (xW cI cN bx an s0 rk sv rv nx np (if fSt (xs (5 * n + 1)) = true then (er 0) else (er 0) + nI 1) (er 1))) (M := mW cI am s0 pst np er od rk2 hs) (M' := (mW cI am s0 pst np (if fSt (xs (5 * n + 1)) = true then er else erB er) od rk2 hs)) (v := .int (if fSt (xs (5 * n + 1)) = true then s0 (14 + tn (xs (5 * n + 1))) else -2)) B hz hA cm gL_law_X2_link rfl rfl hd_X2_link (by decide) ⟨Nat.le_of_ble_eq_true rfl, Nat.le_of_ble_eq_true rfl⟩ rfl rfl rfl hl.1 rfl (Nat.le_of_ble_eq_true rfl) dL_law_749 (fun H locs hz => ?_)
        refine lv_icmp_eq (tgt := 912) hx hb dL_law_752 (by decide) (fun _ => ?_) (fun c9 => ?_)
        · exact NX _ H locs ls (LI.q (rk := rk) (od := od) (rk2 := rk2) (hs := hs) hK hT hnp hnx hS) hz hl
        · exact absurd rfl c9
      · refine lv_tableIn (tgt := 757) (off := 725) hx hb dL_law_32 (by decide) (by decide) rfl (by decide) ?_
        refine lv_aload_n hx hb dL_law_757 rfl (lv_at hl 1 rfl) ?_
        refine lv_aload_n hx hb dL_law_758 rfl (lv_at hl 0 rfl) ?_
        refine lv_iload_n hx hb dL_law_759 rfl (lv_at hl 3 rfl) ?_
        refine lv_iconst (v := nI 1) hx hb dL_law_760 (by decide) ?_
        refine ln_addG hx hb dL_law_761 ?_
        refine sldz (L := L) (j := 5 * n + 1) B hX hbl hbA hz (by omega) (by omega) dL_law_762 ?_
        have cx := c_X1_linkChannel l D cI cN bx an s0 rk sv rv nx np (er 0) (er 1) (xs (5 * n + 1)) 
        have cm := c_X2_linkChannel l D cI cN am s0 pst np er od rk2 hs (xs (5 * n + 1)) 
        refine cL (C := RX1) (T := TX1) (N := 6) (ci := 1) (n := 1) (As := [.int (xs (5 * n + 1))]) (rest := []) (X := xW cI cN bx an s0 rk sv rv nx np (er 0) (er 1)) (M := mW cI am s0 pst np er od rk2 hs) (X' := (xW cI cN bx an s0 rk sv rv nx np (if fSt (xs (5 * n + 1)) = true then (er 0) else (er 0) + nI 1) (er 1))) (v := .int (if fSt (xs (5 * n + 1)) = true then s0 (19 + tn (xs (5 * n + 1))) else -2)) B hz hA cx gL_law_X1_linkChannel rfl rfl hd_X1_linkChannel (by decide) ⟨Nat.le_of_ble_eq_true rfl, Nat.le_of_ble_eq_true rfl⟩ rfl rfl rfl hl.1 rfl (Nat.le_of_ble_eq_true rfl) dL_law_763 (fun H locs hz => ?_)
        refine lv_aload_n hx hb dL_law_766 rfl (lv_at hl 2 rfl) ?_
        refine lv_aload_n hx hb dL_law_767 rfl (lv_at hl 0 rfl) ?_
        refine lv_iload_n hx hb dL_law_768 rfl (lv_at hl 3 rfl) ?_
        refine lv_iconst (v := nI 1) hx hb dL_law_769 (by decide) ?_
        refine ln_addG hx hb dL_law_770 ?_
        refine sldz (L := L) (j := 5 * n + 1) B hX hbl hbA hz (by omega) (by omega) dL_law_771 ?_
        refine cR (C := RX2) (T := TX2) (N := 7) (ci := 2) (n := 1) (As := [.int (xs (5 * n + 1))]) (rest := [.int (if fSt (xs (5 * n + 1)) = true then s0 (19 + tn (xs (5 * n + 1))) else -2)]) (X := (xW cI cN bx an s0 rk sv rv nx np (if fSt (xs (5 * n + 1)) = true then (er 0) else (er 0) + nI 1) (er 1))) (M := mW cI am s0 pst np er od rk2 hs) (M' := (mW cI am s0 pst np (if fSt (xs (5 * n + 1)) = true then er else erB er) od rk2 hs)) (v := .int (if fSt (xs (5 * n + 1)) = true then s0 (19 + tn (xs (5 * n + 1))) else -2)) B hz hA cm gL_law_X2_linkChannel rfl rfl hd_X2_linkChannel (by decide) ⟨Nat.le_of_ble_eq_true rfl, Nat.le_of_ble_eq_true rfl⟩ rfl rfl rfl hl.1 rfl (Nat.le_of_ble_eq_true rfl) dL_law_772 (fun H locs hz => ?_)
        refine lv_icmp_eq (tgt := 912) hx hb dL_law_775 (by decide) (fun _ => ?_) (fun c9 => ?_)
        · exact NX _ H locs ls (LI.q (rk := rk) (od := od) (rk2 := rk2) (hs := hs) hK hT hnp hnx hS) hz hl
        · exact absurd rfl c9
      · refine lv_tableIn (tgt := 780) (off := 748) hx hb dL_law_32 (by decide) (by decide) rfl (by decide) ?_
        refine lv_aload_n hx hb dL_law_780 rfl (lv_at hl 1 rfl) ?_
        have cx := c_X1_time l D cI cN bx an s0 rk sv rv nx np (er 0) (er 1)  
        have cm := c_X2_time l D cI cN am s0 pst np er od rk2 hs  
        refine cL (C := RX1) (T := TX1) (N := 6) (ci := 1) (n := 0) (As := []) (rest := []) (X := xW cI cN bx an s0 rk sv rv nx np (er 0) (er 1)) (M := mW cI am s0 pst np er od rk2 hs) (X' := (xW cI cN bx an s0 rk sv rv nx np (er 0) (er 1))) (v := .int (s0 0)) B hz hA cx gL_law_X1_time rfl rfl hd_X1_time (by decide) ⟨Nat.le_of_ble_eq_true rfl, Nat.le_of_ble_eq_true rfl⟩ rfl rfl rfl hl.1 rfl (Nat.le_of_ble_eq_true rfl) dL_law_781 (fun H locs hz => ?_)
        refine lv_aload_n hx hb dL_law_784 rfl (lv_at hl 2 rfl) ?_
        refine cR (C := RX2) (T := TX2) (N := 7) (ci := 2) (n := 0) (As := []) (rest := [.int (s0 0)]) (X := (xW cI cN bx an s0 rk sv rv nx np (er 0) (er 1))) (M := mW cI am s0 pst np er od rk2 hs) (M' := (mW cI am s0 pst np er od rk2 hs)) (v := .int (s0 0)) B hz hA cm gL_law_X2_time rfl rfl hd_X2_time (by decide) ⟨Nat.le_of_ble_eq_true rfl, Nat.le_of_ble_eq_true rfl⟩ rfl rfl rfl hl.1 rfl (Nat.le_of_ble_eq_true rfl) dL_law_785 (fun H locs hz => ?_)
        refine lv_icmp_eq (tgt := 912) hx hb dL_law_788 (by decide) (fun _ => ?_) (fun c9 => ?_)
        · exact NX _ H locs ls (LI.q0 (hs := hs) hK hT hnp hnx hS) hz hl
        · exact absurd rfl c9
      · refine lv_tableIn (tgt := 793) (off := 761) hx hb dL_law_32 (by decide) (by decide) rfl (by decide) ?_
        refine lv_aload_n hx hb dL_law_793 rfl (lv_at hl 1 rfl) ?_
        have cx := c_X1_transmitted l D cI cN bx an s0 rk sv rv nx np (er 0) (er 1)  
        have cm := c_X2_transmitted l D cI cN am s0 pst np er od rk2 hs  
        refine cL (C := RX1) (T := TX1) (N := 6) (ci := 1) (n := 0) (As := []) (rest := []) (X := xW cI cN bx an s0 rk sv rv nx np (er 0) (er 1)) (M := mW cI am s0 pst np er od rk2 hs) (X' := (xW cI cN bx an s0 rk sv rv nx np (er 0) (er 1))) (v := .int (s0 3)) B hz hA cx gL_law_X1_transmitted rfl rfl hd_X1_transmitted (by decide) ⟨Nat.le_of_ble_eq_true rfl, Nat.le_of_ble_eq_true rfl⟩ rfl rfl rfl hl.1 rfl (Nat.le_of_ble_eq_true rfl) dL_law_794 (fun H locs hz => ?_)
        refine lv_aload_n hx hb dL_law_797 rfl (lv_at hl 2 rfl) ?_
        refine cR (C := RX2) (T := TX2) (N := 7) (ci := 2) (n := 0) (As := []) (rest := [.int (s0 3)]) (X := (xW cI cN bx an s0 rk sv rv nx np (er 0) (er 1))) (M := mW cI am s0 pst np er od rk2 hs) (M' := (mW cI am s0 pst np er od rk2 hs)) (v := .int (s0 3)) B hz hA cm gL_law_X2_transmitted rfl rfl hd_X2_transmitted (by decide) ⟨Nat.le_of_ble_eq_true rfl, Nat.le_of_ble_eq_true rfl⟩ rfl rfl rfl hl.1 rfl (Nat.le_of_ble_eq_true rfl) dL_law_798 (fun H locs hz => ?_)
        refine lv_icmp_eq (tgt := 912) hx hb dL_law_801 (by decide) (fun _ => ?_) (fun c9 => ?_)
        · exact NX _ H locs ls (LI.q0 (hs := hs) hK hT hnp hnx hS) hz hl
        · exact absurd rfl c9
      · refine lv_tableIn (tgt := 806) (off := 774) hx hb dL_law_32 (by decide) (by decide) rfl (by decide) ?_
        refine lv_aload_n hx hb dL_law_806 rfl (lv_at hl 1 rfl) ?_
        have cx := c_X1_decoded l D cI cN bx an s0 rk sv rv nx np (er 0) (er 1)  
        have cm := c_X2_decoded l D cI cN am s0 pst np er od rk2 hs  
        refine cL (C := RX1) (T := TX1) (N := 6) (ci := 1) (n := 0) (As := []) (rest := []) (X := xW cI cN bx an s0 rk sv rv nx np (er 0) (er 1)) (M := mW cI am s0 pst np er od rk2 hs) (X' := (xW cI cN bx an s0 rk sv rv nx np (er 0) (er 1))) (v := .int (s0 4)) B hz hA cx gL_law_X1_decoded rfl rfl hd_X1_decoded (by decide) ⟨Nat.le_of_ble_eq_true rfl, Nat.le_of_ble_eq_true rfl⟩ rfl rfl rfl hl.1 rfl (Nat.le_of_ble_eq_true rfl) dL_law_807 (fun H locs hz => ?_)
        refine lv_aload_n hx hb dL_law_810 rfl (lv_at hl 2 rfl) ?_
        refine cR (C := RX2) (T := TX2) (N := 7) (ci := 2) (n := 0) (As := []) (rest := [.int (s0 4)]) (X := (xW cI cN bx an s0 rk sv rv nx np (er 0) (er 1))) (M := mW cI am s0 pst np er od rk2 hs) (M' := (mW cI am s0 pst np er od rk2 hs)) (v := .int (s0 4)) B hz hA cm gL_law_X2_decoded rfl rfl hd_X2_decoded (by decide) ⟨Nat.le_of_ble_eq_true rfl, Nat.le_of_ble_eq_true rfl⟩ rfl rfl rfl hl.1 rfl (Nat.le_of_ble_eq_true rfl) dL_law_811 (fun H locs hz => ?_)
        refine lv_icmp_eq (tgt := 912) hx hb dL_law_814 (by decide) (fun _ => ?_) (fun c9 => ?_)
        · exact NX _ H locs ls (LI.q0 (hs := hs) hK hT hnp hnx hS) hz hl
        · exact absurd rfl c9
      · refine lv_tableIn (tgt := 819) (off := 787) hx hb dL_law_32 (by decide) (by decide) rfl (by decide) ?_
        refine lv_aload_n hx hb dL_law_819 rfl (lv_at hl 1 rfl) ?_
        refine lv_aload_n hx hb dL_law_820 rfl (lv_at hl 0 rfl) ?_
        refine lv_iload_n hx hb dL_law_821 rfl (lv_at hl 3 rfl) ?_
        refine lv_iconst (v := nI 1) hx hb dL_law_822 (by decide) ?_
        refine ln_addG hx hb dL_law_823 ?_
        refine sldz (L := L) (j := 5 * n + 1) B hX hbl hbA hz (by omega) (by omega) dL_law_824 ?_
        refine lv_aload_n hx hb dL_law_825 rfl (lv_at hl 0 rfl) ?_
        refine lv_iload_n hx hb dL_law_826 rfl (lv_at hl 3 rfl) ?_
        refine lv_iconst (v := nI 2) hx hb dL_law_827 (by decide) ?_
        refine ln_addG hx hb dL_law_828 ?_
        refine sldz (L := L) (j := 5 * n + 2) B hX hbl hbA hz (by omega) (by omega) dL_law_829 ?_
        refine lv_aload_n hx hb dL_law_830 rfl (lv_at hl 0 rfl) ?_
        refine lv_iload_n hx hb dL_law_831 rfl (lv_at hl 3 rfl) ?_
        refine lv_iconst (v := nI 3) hx hb dL_law_832 (by decide) ?_
        refine ln_addG hx hb dL_law_833 ?_
        refine sldz (L := L) (j := 5 * n + 3) B hX hbl hbA hz (by omega) (by omega) dL_law_834 ?_
        have cx := c_X1_vote l D cI cN bx an s0 rk sv rv nx np (er 0) (er 1) (xs (5 * n + 1)) (xs (5 * n + 2)) (xs (5 * n + 3)) 
        have cm := c_X2_vote l D cI cN am s0 pst np er od rk2 hs (xs (5 * n + 1)) (xs (5 * n + 2)) (xs (5 * n + 3)) 
        refine cL (C := RX1) (T := TX1) (N := 6) (ci := 1) (n := 3) (As := [.int (xs (5 * n + 1)), .int (xs (5 * n + 2)), .int (xs (5 * n + 3))]) (rest := []) (X := xW cI cN bx an s0 rk sv rv nx np (er 0) (er 1)) (M := mW cI am s0 pst np er od rk2 hs) (X' := (xW cI cN bx an s0 rk sv rv nx np (if (fWd (xs (5 * n + 1)) && (fWd (xs (5 * n + 2)) && fWd (xs (5 * n + 3)))) = true then (er 0) else (er 0) + nI 1) (er 1))) (v := .int (if (fWd (xs (5 * n + 1)) && (fWd (xs (5 * n + 2)) && fWd (xs (5 * n + 3)))) = true then fMaj (xs (5 * n + 1)) (xs (5 * n + 2)) (xs (5 * n + 3)) else -2)) B hz hA cx gL_law_X1_vote rfl rfl hd_X1_vote (by decide) ⟨Nat.le_of_ble_eq_true rfl, Nat.le_of_ble_eq_true rfl⟩ rfl rfl rfl hl.1 rfl (Nat.le_of_ble_eq_true rfl) dL_law_835 (fun H locs hz => ?_)
        refine lv_aload_n hx hb dL_law_838 rfl (lv_at hl 2 rfl) ?_
        refine lv_aload_n hx hb dL_law_839 rfl (lv_at hl 0 rfl) ?_
        refine lv_iload_n hx hb dL_law_840 rfl (lv_at hl 3 rfl) ?_
        refine lv_iconst (v := nI 1) hx hb dL_law_841 (by decide) ?_
        refine ln_addG hx hb dL_law_842 ?_
        refine sldz (L := L) (j := 5 * n + 1) B hX hbl hbA hz (by omega) (by omega) dL_law_843 ?_
        refine lv_aload_n hx hb dL_law_844 rfl (lv_at hl 0 rfl) ?_
        refine lv_iload_n hx hb dL_law_845 rfl (lv_at hl 3 rfl) ?_
        refine lv_iconst (v := nI 2) hx hb dL_law_846 (by decide) ?_
        refine ln_addG hx hb dL_law_847 ?_
        refine sldz (L := L) (j := 5 * n + 2) B hX hbl hbA hz (by omega) (by omega) dL_law_848 ?_
        refine lv_aload_n hx hb dL_law_849 rfl (lv_at hl 0 rfl) ?_
        refine lv_iload_n hx hb dL_law_850 rfl (lv_at hl 3 rfl) ?_
        refine lv_iconst (v := nI 3) hx hb dL_law_851 (by decide) ?_
        refine ln_addG hx hb dL_law_852 ?_
        refine sldz (L := L) (j := 5 * n + 3) B hX hbl hbA hz (by omega) (by omega) dL_law_853 ?_
        refine cR (C := RX2) (T := TX2) (N := 7) (ci := 2) (n := 3) (As := [.int (xs (5 * n + 1)), .int (xs (5 * n + 2)), .int (xs (5 * n + 3))]) (rest := [.int (if (fWd (xs (5 * n + 1)) && (fWd (xs (5 * n + 2)) && fWd (xs (5 * n + 3)))) = true then fMaj (xs (5 * n + 1)) (xs (5 * n + 2)) (xs (5 * n + 3)) else -2)]) (X := (xW cI cN bx an s0 rk sv rv nx np (if (fWd (xs (5 * n + 1)) && (fWd (xs (5 * n + 2)) && fWd (xs (5 * n + 3)))) = true then (er 0) else (er 0) + nI 1) (er 1))) (M := mW cI am s0 pst np er od rk2 hs) (M' := (mW cI am s0 pst np (if (fWd (xs (5 * n + 1)) && (fWd (xs (5 * n + 2)) && fWd (xs (5 * n + 3)))) = true then er else erB er) od rk2 hs)) (v := .int (if (fWd (xs (5 * n + 1)) && (fWd (xs (5 * n + 2)) && fWd (xs (5 * n + 3)))) = true then fMaj (xs (5 * n + 1)) (xs (5 * n + 2)) (xs (5 * n + 3)) else -2)) B hz hA cm gL_law_X2_vote rfl rfl hd_X2_vote (by decide) ⟨Nat.le_of_ble_eq_true rfl, Nat.le_of_ble_eq_true rfl⟩ rfl rfl rfl hl.1 rfl (Nat.le_of_ble_eq_true rfl) dL_law_854 (fun H locs hz => ?_)
        refine lv_icmp_eq (tgt := 912) hx hb dL_law_857 (by decide) (fun _ => ?_) (fun c9 => ?_)
        · exact NX _ H locs ls (LI.q (rk := rk) (od := od) (rk2 := rk2) (hs := hs) hK hT hnp hnx hS) hz hl
        · exact absurd rfl c9
      · refine lv_tableIn (tgt := 862) (off := 830) hx hb dL_law_32 (by decide) (by decide) rfl (by decide) ?_
        refine lv_aload_n hx hb dL_law_862 rfl (lv_at hl 1 rfl) ?_
        have cx := c_X1_undo l D cI cN bx an s0 rk sv rv nx np (er 0) (er 1)  hnx hnp
        have cm := c_X2_undo l D cI cN am s0 pst np er od rk2 hs  hnp
        refine cL (C := RX1) (T := TX1) (N := 6) (ci := 1) (n := 0) (As := []) (rest := []) (X := xW cI cN bx an s0 rk sv rv nx np (er 0) (er 1)) (M := mW cI am s0 pst np er od rk2 hs) (X' := (xW cI cN bx an (if np = 0 then s0 else sv ((nx + 4 - 1) % 4)) rk sv rv (if np = 0 then nx else (nx + 4 - 1) % 4) (np - 1) (er 0) (if np = 0 then (er 1) + nI 1 else (er 1)))) (v := .int (if np = 0 then -3 else nI (np - 1))) B hz hA cx gL_law_X1_undo rfl rfl hd_X1_undo (by decide) ⟨Nat.le_of_ble_eq_true rfl, Nat.le_of_ble_eq_true rfl⟩ rfl rfl rfl hl.1 rfl (Nat.le_of_ble_eq_true rfl) dL_law_863 (fun H locs hz => ?_)
        refine lv_aload_n hx hb dL_law_866 rfl (lv_at hl 2 rfl) ?_
        refine cR (C := RX2) (T := TX2) (N := 7) (ci := 2) (n := 0) (As := []) (rest := [.int (if np = 0 then -3 else nI (np - 1))]) (X := (xW cI cN bx an (if np = 0 then s0 else sv ((nx + 4 - 1) % 4)) rk sv rv (if np = 0 then nx else (nx + 4 - 1) % 4) (np - 1) (er 0) (if np = 0 then (er 1) + nI 1 else (er 1)))) (M := mW cI am s0 pst np er od rk2 hs) (M' := (mW cI am (if np = 0 then s0 else fCy (fun k => pst (624 * (np - 1) + k)) 0 s0 624) pst (np - 1) (if np = 0 then upd er (fIx (-3)) (er (fIx (-3)) + nI 1) else er) od rk2 hs)) (v := .int (if np = 0 then -3 else nI (np - 1))) B hz hA cm gL_law_X2_undo rfl rfl hd_X2_undo (by decide) ⟨Nat.le_of_ble_eq_true rfl, Nat.le_of_ble_eq_true rfl⟩ rfl rfl rfl hl.1 rfl (Nat.le_of_ble_eq_true rfl) dL_law_867 (fun H locs hz => ?_)
        refine lv_icmp_eq (tgt := 912) hx hb dL_law_870 (by decide) (fun _ => ?_) (fun c9 => ?_)
        · exact NX _ H locs ls (LI.undo hK hT hnp hnx hS) hz hl
        · exact absurd rfl c9
      · refine lv_tableIn (tgt := 875) (off := 843) hx hb dL_law_32 (by decide) (by decide) rfl (by decide) ?_
        refine lv_aload_n hx hb dL_law_875 rfl (lv_at hl 1 rfl) ?_
        refine lv_aload_n hx hb dL_law_876 rfl (lv_at hl 0 rfl) ?_
        refine lv_iload_n hx hb dL_law_877 rfl (lv_at hl 3 rfl) ?_
        refine lv_iconst (v := nI 1) hx hb dL_law_878 (by decide) ?_
        refine ln_addG hx hb dL_law_879 ?_
        refine sldz (L := L) (j := 5 * n + 1) B hX hbl hbA hz (by omega) (by omega) dL_law_880 ?_
        have cx := c_X1_errorCount l D cI cN bx an s0 rk sv rv nx np (er 0) (er 1) (xs (5 * n + 1)) 
        have cm := c_X2_errorCount l D cI cN am s0 pst np er od rk2 hs (xs (5 * n + 1)) 
        rw [ec_res, ec_iv] at cx
        refine cL (C := RX1) (T := TX1) (N := 6) (ci := 1) (n := 1) (As := [.int (xs (5 * n + 1))]) (rest := []) (X := xW cI cN bx an s0 rk sv rv nx np (er 0) (er 1)) (M := mW cI am s0 pst np er od rk2 hs) (X' := (xW cI cN bx an s0 rk sv rv nx np (if fIn (xs (5 * n + 1)) (nI 0) (nI 1) = true then er 0 else er 0 + nI 1) (er 1))) (v := .int (if fIn (xs (5 * n + 1)) (nI 0) (nI 1) = true then er (tn (xs (5 * n + 1))) else -2)) B hz hA cx gL_law_X1_errorCount rfl rfl hd_X1_errorCount (by decide) ⟨Nat.le_of_ble_eq_true rfl, Nat.le_of_ble_eq_true rfl⟩ rfl rfl rfl hl.1 rfl (Nat.le_of_ble_eq_true rfl) dL_law_881 (fun H locs hz => ?_)
        refine lv_aload_n hx hb dL_law_884 rfl (lv_at hl 2 rfl) ?_
        refine lv_aload_n hx hb dL_law_885 rfl (lv_at hl 0 rfl) ?_
        refine lv_iload_n hx hb dL_law_886 rfl (lv_at hl 3 rfl) ?_
        refine lv_iconst (v := nI 1) hx hb dL_law_887 (by decide) ?_
        refine ln_addG hx hb dL_law_888 ?_
        refine sldz (L := L) (j := 5 * n + 1) B hX hbl hbA hz (by omega) (by omega) dL_law_889 ?_
        refine cR (C := RX2) (T := TX2) (N := 7) (ci := 2) (n := 1) (As := [.int (xs (5 * n + 1))]) (rest := [.int (if fIn (xs (5 * n + 1)) (nI 0) (nI 1) = true then er (tn (xs (5 * n + 1))) else -2)]) (X := (xW cI cN bx an s0 rk sv rv nx np (if fIn (xs (5 * n + 1)) (nI 0) (nI 1) = true then er 0 else er 0 + nI 1) (er 1))) (M := mW cI am s0 pst np er od rk2 hs) (M' := (mW cI am s0 pst np (if fIn (xs (5 * n + 1)) (nI 0) (nI 1) = true then er else erB er) od rk2 hs)) (v := .int (if fIn (xs (5 * n + 1)) (nI 0) (nI 1) = true then er (tn (xs (5 * n + 1))) else -2)) B hz hA cm gL_law_X2_errorCount rfl rfl hd_X2_errorCount (by decide) ⟨Nat.le_of_ble_eq_true rfl, Nat.le_of_ble_eq_true rfl⟩ rfl rfl rfl hl.1 rfl (Nat.le_of_ble_eq_true rfl) dL_law_890 (fun H locs hz => ?_)
        refine lv_icmp_eq (tgt := 912) hx hb dL_law_893 (by decide) (fun _ => ?_) (fun c9 => ?_)
        · exact NX _ H locs ls (LI.q (rk := rk) (od := od) (rk2 := rk2) (hs := hs) hK hT hnp hnx hS) hz hl
        · exact absurd rfl c9
      · refine lv_tableIn (tgt := 898) (off := 866) hx hb dL_law_32 (by decide) (by decide) rfl (by decide) ?_
        refine lv_aload_n hx hb dL_law_898 rfl (lv_at hl 1 rfl) ?_
        have cx := c_X1_digest l D cI cN bx an s0 rk sv rv nx np (er 0) (er 1)  hK.A
        have cm := c_X2_digest l D cI cN am s0 pst np er od rk2 hs  hK.A
        refine cL (C := RX1) (T := TX1) (N := 6) (ci := 1) (n := 0) (As := []) (rest := []) (X := xW cI cN bx an s0 rk sv rv nx np (er 0) (er 1)) (M := mW cI am s0 pst np er od rk2 hs) (X' := (xW cI cN bx an s0 rk sv rv nx np (er 0) (er 1))) (v := .long (fDg (er 0) (er 1) np s0)) B hz hA cx gL_law_X1_digest rfl rfl hd_X1_digest (by decide) ⟨Nat.le_of_ble_eq_true rfl, Nat.le_of_ble_eq_true rfl⟩ rfl rfl rfl hl.1 rfl (Nat.le_of_ble_eq_true rfl) dL_law_899 (fun H locs hz => ?_)
        refine lv_aload_n hx hb dL_law_902 rfl (lv_at hl 2 rfl) ?_
        refine cR (C := RX2) (T := TX2) (N := 7) (ci := 2) (n := 0) (As := []) (rest := [.long (fDg (er 0) (er 1) np s0)]) (X := (xW cI cN bx an s0 rk sv rv nx np (er 0) (er 1))) (M := mW cI am s0 pst np er od rk2 hs) (M' := (mW cI am s0 pst np er od rk2 (fDg (er 0) (er 1) np s0))) (v := .long (fDg (er 0) (er 1) np s0)) B hz hA cm gL_law_X2_digest rfl rfl hd_X2_digest (by decide) ⟨Nat.le_of_ble_eq_true rfl, Nat.le_of_ble_eq_true rfl⟩ rfl rfl rfl hl.1 rfl (Nat.le_of_ble_eq_true rfl) dL_law_903 (fun H locs hz => ?_)
        refine W.lcmp hx hb dL_law_906 ?_
        refine lv_if_eq (tgt := 912) hx hb dL_law_907 (by decide) (fun _ => ?_) (fun c9 => ?_)
        · exact NX _ H locs ls (LI.q0 (hs := hs) hK hT hnp hnx hS) hz hl
        · exact absurd (cmp_self _) c9
      · refine lv_tableOut (tgt := 912) hx hb dL_law_32 (by decide) (by decide) ?_
        exact NX _ H locs ls (LI.q0 (hs := hs) hK hT hnp hnx hS) hz hl
      · refine lv_tableOut (tgt := 912) hx hb dL_law_32 (by decide) (by decide) ?_
        exact NX _ H locs ls (LI.q0 (hs := hs) hK hT hnp hnx hS) hz hl
      · refine lv_tableOut (tgt := 912) hx hb dL_law_32 (by decide) (by decide) ?_
        exact NX _ H locs ls (LI.q0 (hs := hs) hK hT hnp hnx hS) hz hl
